section
-- ===== PART A: goes FIRST, ahead of the names: the tables' words, and 'selects' of the private methods out of them =====
/-- a private method of a class that the tables say can be made, by its rows of tables_1 -/
def lw_okq (q : MethodName × Nat) : Prop := (q.1.cls ≠ "java/lang/invoke/MethodHandle" ∧ q.1.cls ≠ "java/lang/invoke/VarHandle") ∧ Cond.instantiable q.1.cls q.2 ∈ tables_1 ∧ Cond.privateMethod q.1 ∈ tables_1 ∧ Cond.instanceMethod q.1 ∈ tables_1
theorem lw_p0 : lw_okq (⟨"KeepForget", "putOnTape", "(I)V"⟩, 13) := ⟨⟨by decide +kernel, by decide +kernel⟩, List.mem_of_getElem? (i := 24) (by decide +kernel), List.mem_of_getElem? (i := 159) (by decide +kernel), List.mem_of_getElem? (i := 160) (by decide +kernel)⟩
theorem lw_p1 : lw_okq (⟨"KeepForget", "placesOf", "(LKeepForget$Thing;I)I"⟩, 13) := ⟨⟨by decide +kernel, by decide +kernel⟩, List.mem_of_getElem? (i := 24) (by decide +kernel), List.mem_of_getElem? (i := 207) (by decide +kernel), List.mem_of_getElem? (i := 208) (by decide +kernel)⟩
theorem lw_p2 : lw_okq (⟨"KeepForget", "setInForce", "()LKeepForget$RuleSet;"⟩, 13) := ⟨⟨by decide +kernel, by decide +kernel⟩, List.mem_of_getElem? (i := 24) (by decide +kernel), List.mem_of_getElem? (i := 211) (by decide +kernel), List.mem_of_getElem? (i := 212) (by decide +kernel)⟩
theorem lw_p3 : lw_okq (⟨"KeepForget", "numberInForce", "()I"⟩, 13) := ⟨⟨by decide +kernel, by decide +kernel⟩, List.mem_of_getElem? (i := 24) (by decide +kernel), List.mem_of_getElem? (i := 215) (by decide +kernel), List.mem_of_getElem? (i := 216) (by decide +kernel)⟩
theorem lw_p4 : lw_okq (⟨"java/lang/Throwable", "fillInStackTrace", "(I)Ljava/lang/Throwable;"⟩, 6) := ⟨⟨by decide +kernel, by decide +kernel⟩, List.mem_of_getElem? (i := 278) (by decide +kernel), List.mem_of_getElem? (i := 276) (by decide +kernel), List.mem_of_getElem? (i := 277) (by decide +kernel)⟩
theorem lw_p5 : lw_okq (⟨"KeepForget$RuleReader", "next", "()V"⟩, 7) := ⟨⟨by decide +kernel, by decide +kernel⟩, List.mem_of_getElem? (i := 395) (by decide +kernel), List.mem_of_getElem? (i := 430) (by decide +kernel), List.mem_of_getElem? (i := 431) (by decide +kernel)⟩
theorem lw_p6 : lw_okq (⟨"KeepForget$RuleReader", "readRule", "(LKeepForget$RuleSet;)Z"⟩, 7) := ⟨⟨by decide +kernel, by decide +kernel⟩, List.mem_of_getElem? (i := 395) (by decide +kernel), List.mem_of_getElem? (i := 440) (by decide +kernel), List.mem_of_getElem? (i := 441) (by decide +kernel)⟩
theorem lw_p7 : lw_okq (⟨"KeepForget$RuleReader", "ruleSort", "()I"⟩, 7) := ⟨⟨by decide +kernel, by decide +kernel⟩, List.mem_of_getElem? (i := 395) (by decide +kernel), List.mem_of_getElem? (i := 444) (by decide +kernel), List.mem_of_getElem? (i := 445) (by decide +kernel)⟩
theorem lw_p8 : lw_okq (⟨"KeepForget$RuleReader", "isWord", "(Ljava/lang/String;)Z"⟩, 7) := ⟨⟨by decide +kernel, by decide +kernel⟩, List.mem_of_getElem? (i := 395) (by decide +kernel), List.mem_of_getElem? (i := 449) (by decide +kernel), List.mem_of_getElem? (i := 450) (by decide +kernel)⟩
theorem lw_p9 : lw_okq (⟨"KeepForget$RuleReader", "fail", "(I)Z"⟩, 7) := ⟨⟨by decide +kernel, by decide +kernel⟩, List.mem_of_getElem? (i := 395) (by decide +kernel), List.mem_of_getElem? (i := 503) (by decide +kernel), List.mem_of_getElem? (i := 504) (by decide +kernel)⟩
theorem lw_p10 : lw_okq (⟨"KeepForget$RuleReader", "readWhat", "(LKeepForget$Rule;)Z"⟩, 7) := ⟨⟨by decide +kernel, by decide +kernel⟩, List.mem_of_getElem? (i := 395) (by decide +kernel), List.mem_of_getElem? (i := 568) (by decide +kernel), List.mem_of_getElem? (i := 569) (by decide +kernel)⟩
theorem lw_p11 : lw_okq (⟨"KeepForget$RuleReader", "bitOf", "(CI)I"⟩, 7) := ⟨⟨by decide +kernel, by decide +kernel⟩, List.mem_of_getElem? (i := 395) (by decide +kernel), List.mem_of_getElem? (i := 573) (by decide +kernel), List.mem_of_getElem? (i := 574) (by decide +kernel)⟩
theorem lw_p12 : lw_okq (⟨"KeepForget$RuleReader", "numbered", "(CI)I"⟩, 7) := ⟨⟨by decide +kernel, by decide +kernel⟩, List.mem_of_getElem? (i := 395) (by decide +kernel), List.mem_of_getElem? (i := 577) (by decide +kernel), List.mem_of_getElem? (i := 578) (by decide +kernel)⟩
theorem lw_p13 : lw_okq (⟨"KeepForget$RuleReader", "readStores", "(LKeepForget$Rule;)Z"⟩, 7) := ⟨⟨by decide +kernel, by decide +kernel⟩, List.mem_of_getElem? (i := 395) (by decide +kernel), List.mem_of_getElem? (i := 582) (by decide +kernel), List.mem_of_getElem? (i := 583) (by decide +kernel)⟩
theorem lw_p14 : lw_okq (⟨"KeepForget$RuleReader", "readTime", "(LKeepForget$Rule;)Z"⟩, 7) := ⟨⟨by decide +kernel, by decide +kernel⟩, List.mem_of_getElem? (i := 395) (by decide +kernel), List.mem_of_getElem? (i := 586) (by decide +kernel), List.mem_of_getElem? (i := 587) (by decide +kernel)⟩
theorem lw_p15 : lw_okq (⟨"KeepForget$RuleReader", "checkNumber", "()Z"⟩, 7) := ⟨⟨by decide +kernel, by decide +kernel⟩, List.mem_of_getElem? (i := 395) (by decide +kernel), List.mem_of_getElem? (i := 590) (by decide +kernel), List.mem_of_getElem? (i := 591) (by decide +kernel)⟩
def lw_privs_1 : List (MethodName × Nat) := [(⟨"KeepForget", "putOnTape", "(I)V"⟩, 13), (⟨"KeepForget", "placesOf", "(LKeepForget$Thing;I)I"⟩, 13), (⟨"KeepForget", "setInForce", "()LKeepForget$RuleSet;"⟩, 13), (⟨"KeepForget", "numberInForce", "()I"⟩, 13), (⟨"java/lang/Throwable", "fillInStackTrace", "(I)Ljava/lang/Throwable;"⟩, 6), (⟨"KeepForget$RuleReader", "next", "()V"⟩, 7), (⟨"KeepForget$RuleReader", "readRule", "(LKeepForget$RuleSet;)Z"⟩, 7), (⟨"KeepForget$RuleReader", "ruleSort", "()I"⟩, 7), (⟨"KeepForget$RuleReader", "isWord", "(Ljava/lang/String;)Z"⟩, 7), (⟨"KeepForget$RuleReader", "fail", "(I)Z"⟩, 7), (⟨"KeepForget$RuleReader", "readWhat", "(LKeepForget$Rule;)Z"⟩, 7), (⟨"KeepForget$RuleReader", "bitOf", "(CI)I"⟩, 7), (⟨"KeepForget$RuleReader", "numbered", "(CI)I"⟩, 7), (⟨"KeepForget$RuleReader", "readStores", "(LKeepForget$Rule;)Z"⟩, 7), (⟨"KeepForget$RuleReader", "readTime", "(LKeepForget$Rule;)Z"⟩, 7), (⟨"KeepForget$RuleReader", "checkNumber", "()Z"⟩, 7)]
theorem lw_r1 : ∀ q ∈ lw_privs_1, lw_okq q := List.forall_mem_cons.mpr ⟨lw_p0, List.forall_mem_cons.mpr ⟨lw_p1, List.forall_mem_cons.mpr ⟨lw_p2, List.forall_mem_cons.mpr ⟨lw_p3, List.forall_mem_cons.mpr ⟨lw_p4, List.forall_mem_cons.mpr ⟨lw_p5, List.forall_mem_cons.mpr ⟨lw_p6, List.forall_mem_cons.mpr ⟨lw_p7, List.forall_mem_cons.mpr ⟨lw_p8, List.forall_mem_cons.mpr ⟨lw_p9, List.forall_mem_cons.mpr ⟨lw_p10, List.forall_mem_cons.mpr ⟨lw_p11, List.forall_mem_cons.mpr ⟨lw_p12, List.forall_mem_cons.mpr ⟨lw_p13, List.forall_mem_cons.mpr ⟨lw_p14, List.forall_mem_cons.mpr ⟨lw_p15, fun _ h => absurd h List.not_mem_nil⟩⟩⟩⟩⟩⟩⟩⟩⟩⟩⟩⟩⟩⟩⟩⟩
theorem lw_p16 : lw_okq (⟨"KeepForget$RuleReader", "number", "()I"⟩, 7) := ⟨⟨by decide +kernel, by decide +kernel⟩, List.mem_of_getElem? (i := 395) (by decide +kernel), List.mem_of_getElem? (i := 594) (by decide +kernel), List.mem_of_getElem? (i := 595) (by decide +kernel)⟩
theorem lw_p17 : lw_okq (⟨"KeepForget$RuleReader", "readTests", "(LKeepForget$Rule;)Z"⟩, 7) := ⟨⟨by decide +kernel, by decide +kernel⟩, List.mem_of_getElem? (i := 395) (by decide +kernel), List.mem_of_getElem? (i := 602) (by decide +kernel), List.mem_of_getElem? (i := 603) (by decide +kernel)⟩
theorem lw_p18 : lw_okq (⟨"KeepForget$RuleReader", "readTest", "(LKeepForget$Rule;)Z"⟩, 7) := ⟨⟨by decide +kernel, by decide +kernel⟩, List.mem_of_getElem? (i := 395) (by decide +kernel), List.mem_of_getElem? (i := 607) (by decide +kernel), List.mem_of_getElem? (i := 608) (by decide +kernel)⟩
theorem lw_p19 : lw_okq (⟨"KeepForget$RuleReader", "isSign", "(C)Z"⟩, 7) := ⟨⟨by decide +kernel, by decide +kernel⟩, List.mem_of_getElem? (i := 395) (by decide +kernel), List.mem_of_getElem? (i := 611) (by decide +kernel), List.mem_of_getElem? (i := 612) (by decide +kernel)⟩
theorem lw_p20 : lw_okq (⟨"KeepForget$RuleReader", "readRank", "(LKeepForget$Rule;)Z"⟩, 7) := ⟨⟨by decide +kernel, by decide +kernel⟩, List.mem_of_getElem? (i := 395) (by decide +kernel), List.mem_of_getElem? (i := 616) (by decide +kernel), List.mem_of_getElem? (i := 617) (by decide +kernel)⟩
theorem lw_p21 : lw_okq (⟨"KeepForget$RuleSet", "putInTurn", "(II)V"⟩, 5) := ⟨⟨by decide +kernel, by decide +kernel⟩, List.mem_of_getElem? (i := 365) (by decide +kernel), List.mem_of_getElem? (i := 626) (by decide +kernel), List.mem_of_getElem? (i := 627) (by decide +kernel)⟩
theorem lw_p22 : lw_okq (⟨"KeepForget", "thingAt", "(I)LKeepForget$Thing;"⟩, 13) := ⟨⟨by decide +kernel, by decide +kernel⟩, List.mem_of_getElem? (i := 24) (by decide +kernel), List.mem_of_getElem? (i := 638) (by decide +kernel), List.mem_of_getElem? (i := 639) (by decide +kernel)⟩
theorem lw_p23 : lw_okq (⟨"KeepForget", "heldFields", "(LKeepForget$Thing;)I"⟩, 13) := ⟨⟨by decide +kernel, by decide +kernel⟩, List.mem_of_getElem? (i := 24) (by decide +kernel), List.mem_of_getElem? (i := 734) (by decide +kernel), List.mem_of_getElem? (i := 735) (by decide +kernel)⟩
theorem lw_p24 : lw_okq (⟨"KeepForget$Span", "take", "(III)V"⟩, 8) := ⟨⟨by decide +kernel, by decide +kernel⟩, List.mem_of_getElem? (i := 75) (by decide +kernel), List.mem_of_getElem? (i := 758) (by decide +kernel), List.mem_of_getElem? (i := 759) (by decide +kernel)⟩
theorem lw_p25 : lw_okq (⟨"KeepForget$Span", "keepUntil", "(II)V"⟩, 8) := ⟨⟨by decide +kernel, by decide +kernel⟩, List.mem_of_getElem? (i := 75) (by decide +kernel), List.mem_of_getElem? (i := 762) (by decide +kernel), List.mem_of_getElem? (i := 763) (by decide +kernel)⟩
theorem lw_p26 : lw_okq (⟨"KeepForget$Span", "lose", "(I)V"⟩, 8) := ⟨⟨by decide +kernel, by decide +kernel⟩, List.mem_of_getElem? (i := 75) (by decide +kernel), List.mem_of_getElem? (i := 766) (by decide +kernel), List.mem_of_getElem? (i := 767) (by decide +kernel)⟩
theorem lw_p27 : lw_okq (⟨"KeepForget$Span", "endAt", "(II)V"⟩, 8) := ⟨⟨by decide +kernel, by decide +kernel⟩, List.mem_of_getElem? (i := 75) (by decide +kernel), List.mem_of_getElem? (i := 770) (by decide +kernel), List.mem_of_getElem? (i := 771) (by decide +kernel)⟩
theorem lw_p28 : lw_okq (⟨"KeepForget", "chosenSet", "(I)LKeepForget$RuleSet;"⟩, 13) := ⟨⟨by decide +kernel, by decide +kernel⟩, List.mem_of_getElem? (i := 24) (by decide +kernel), List.mem_of_getElem? (i := 785) (by decide +kernel), List.mem_of_getElem? (i := 786) (by decide +kernel)⟩
theorem lw_p29 : lw_okq (⟨"KeepForget", "setAt", "(I)LKeepForget$RuleSet;"⟩, 13) := ⟨⟨by decide +kernel, by decide +kernel⟩, List.mem_of_getElem? (i := 24) (by decide +kernel), List.mem_of_getElem? (i := 789) (by decide +kernel), List.mem_of_getElem? (i := 790) (by decide +kernel)⟩
theorem lw_p30 : lw_okq (⟨"KeepForget", "plannedDay", "(LKeepForget$Thing;IILKeepForget$RuleSet;)I"⟩, 13) := ⟨⟨by decide +kernel, by decide +kernel⟩, List.mem_of_getElem? (i := 24) (by decide +kernel), List.mem_of_getElem? (i := 824) (by decide +kernel), List.mem_of_getElem? (i := 825) (by decide +kernel)⟩
theorem lw_p31 : lw_okq (⟨"KeepForget", "nextBusyDay", "(I)I"⟩, 13) := ⟨⟨by decide +kernel, by decide +kernel⟩, List.mem_of_getElem? (i := 24) (by decide +kernel), List.mem_of_getElem? (i := 860) (by decide +kernel), List.mem_of_getElem? (i := 861) (by decide +kernel)⟩
def lw_privs_2 : List (MethodName × Nat) := [(⟨"KeepForget$RuleReader", "number", "()I"⟩, 7), (⟨"KeepForget$RuleReader", "readTests", "(LKeepForget$Rule;)Z"⟩, 7), (⟨"KeepForget$RuleReader", "readTest", "(LKeepForget$Rule;)Z"⟩, 7), (⟨"KeepForget$RuleReader", "isSign", "(C)Z"⟩, 7), (⟨"KeepForget$RuleReader", "readRank", "(LKeepForget$Rule;)Z"⟩, 7), (⟨"KeepForget$RuleSet", "putInTurn", "(II)V"⟩, 5), (⟨"KeepForget", "thingAt", "(I)LKeepForget$Thing;"⟩, 13), (⟨"KeepForget", "heldFields", "(LKeepForget$Thing;)I"⟩, 13), (⟨"KeepForget$Span", "take", "(III)V"⟩, 8), (⟨"KeepForget$Span", "keepUntil", "(II)V"⟩, 8), (⟨"KeepForget$Span", "lose", "(I)V"⟩, 8), (⟨"KeepForget$Span", "endAt", "(II)V"⟩, 8), (⟨"KeepForget", "chosenSet", "(I)LKeepForget$RuleSet;"⟩, 13), (⟨"KeepForget", "setAt", "(I)LKeepForget$RuleSet;"⟩, 13), (⟨"KeepForget", "plannedDay", "(LKeepForget$Thing;IILKeepForget$RuleSet;)I"⟩, 13), (⟨"KeepForget", "nextBusyDay", "(I)I"⟩, 13)]
theorem lw_r2 : ∀ q ∈ lw_privs_2, lw_okq q := List.forall_mem_cons.mpr ⟨lw_p16, List.forall_mem_cons.mpr ⟨lw_p17, List.forall_mem_cons.mpr ⟨lw_p18, List.forall_mem_cons.mpr ⟨lw_p19, List.forall_mem_cons.mpr ⟨lw_p20, List.forall_mem_cons.mpr ⟨lw_p21, List.forall_mem_cons.mpr ⟨lw_p22, List.forall_mem_cons.mpr ⟨lw_p23, List.forall_mem_cons.mpr ⟨lw_p24, List.forall_mem_cons.mpr ⟨lw_p25, List.forall_mem_cons.mpr ⟨lw_p26, List.forall_mem_cons.mpr ⟨lw_p27, List.forall_mem_cons.mpr ⟨lw_p28, List.forall_mem_cons.mpr ⟨lw_p29, List.forall_mem_cons.mpr ⟨lw_p30, List.forall_mem_cons.mpr ⟨lw_p31, fun _ h => absurd h List.not_mem_nil⟩⟩⟩⟩⟩⟩⟩⟩⟩⟩⟩⟩⟩⟩⟩⟩
theorem lw_p32 : lw_okq (⟨"KeepForget", "sweep", "(I)V"⟩, 13) := ⟨⟨by decide +kernel, by decide +kernel⟩, List.mem_of_getElem? (i := 24) (by decide +kernel), List.mem_of_getElem? (i := 865) (by decide +kernel), List.mem_of_getElem? (i := 866) (by decide +kernel)⟩
theorem lw_p33 : lw_okq (⟨"KeepForget", "copyCount", "()I"⟩, 13) := ⟨⟨by decide +kernel, by decide +kernel⟩, List.mem_of_getElem? (i := 24) (by decide +kernel), List.mem_of_getElem? (i := 888) (by decide +kernel), List.mem_of_getElem? (i := 889) (by decide +kernel)⟩
theorem lw_p34 : lw_okq (⟨"KeepForget", "openHoldCount", "()I"⟩, 13) := ⟨⟨by decide +kernel, by decide +kernel⟩, List.mem_of_getElem? (i := 24) (by decide +kernel), List.mem_of_getElem? (i := 892) (by decide +kernel), List.mem_of_getElem? (i := 893) (by decide +kernel)⟩
theorem lw_p35 : lw_okq (⟨"KeepForgetModel", "fail", "(I)I"⟩, 60) := ⟨⟨by decide +kernel, by decide +kernel⟩, List.mem_of_getElem? (i := 897) (by decide +kernel), List.mem_of_getElem? (i := 1108) (by decide +kernel), List.mem_of_getElem? (i := 1109) (by decide +kernel)⟩
theorem lw_p36 : lw_okq (⟨"KeepForgetModel", "step", "()V"⟩, 60) := ⟨⟨by decide +kernel, by decide +kernel⟩, List.mem_of_getElem? (i := 897) (by decide +kernel), List.mem_of_getElem? (i := 1143) (by decide +kernel), List.mem_of_getElem? (i := 1144) (by decide +kernel)⟩
theorem lw_p37 : lw_okq (⟨"KeepForgetModel", "byteAt", "(I)I"⟩, 60) := ⟨⟨by decide +kernel, by decide +kernel⟩, List.mem_of_getElem? (i := 897) (by decide +kernel), List.mem_of_getElem? (i := 1147) (by decide +kernel), List.mem_of_getElem? (i := 1148) (by decide +kernel)⟩
theorem lw_p38 : lw_okq (⟨"KeepForgetModel", "isWord", "(Ljava/lang/String;)Z"⟩, 60) := ⟨⟨by decide +kernel, by decide +kernel⟩, List.mem_of_getElem? (i := 897) (by decide +kernel), List.mem_of_getElem? (i := 1158) (by decide +kernel), List.mem_of_getElem? (i := 1159) (by decide +kernel)⟩
theorem lw_p39 : lw_okq (⟨"KeepForgetModel", "wrong", "(I)V"⟩, 60) := ⟨⟨by decide +kernel, by decide +kernel⟩, List.mem_of_getElem? (i := 897) (by decide +kernel), List.mem_of_getElem? (i := 1166) (by decide +kernel), List.mem_of_getElem? (i := 1167) (by decide +kernel)⟩
theorem lw_p40 : lw_okq (⟨"KeepForgetModel", "readRule", "()V"⟩, 60) := ⟨⟨by decide +kernel, by decide +kernel⟩, List.mem_of_getElem? (i := 897) (by decide +kernel), List.mem_of_getElem? (i := 1170) (by decide +kernel), List.mem_of_getElem? (i := 1171) (by decide +kernel)⟩
theorem lw_p41 : lw_okq (⟨"KeepForgetModel", "readWhat", "()V"⟩, 60) := ⟨⟨by decide +kernel, by decide +kernel⟩, List.mem_of_getElem? (i := 897) (by decide +kernel), List.mem_of_getElem? (i := 1174) (by decide +kernel), List.mem_of_getElem? (i := 1175) (by decide +kernel)⟩
theorem lw_p42 : lw_okq (⟨"KeepForgetModel", "readNumbered", "(II)I"⟩, 60) := ⟨⟨by decide +kernel, by decide +kernel⟩, List.mem_of_getElem? (i := 897) (by decide +kernel), List.mem_of_getElem? (i := 1179) (by decide +kernel), List.mem_of_getElem? (i := 1180) (by decide +kernel)⟩
theorem lw_p43 : lw_okq (⟨"KeepForgetModel", "numbered", "(II)I"⟩, 60) := ⟨⟨by decide +kernel, by decide +kernel⟩, List.mem_of_getElem? (i := 897) (by decide +kernel), List.mem_of_getElem? (i := 1183) (by decide +kernel), List.mem_of_getElem? (i := 1184) (by decide +kernel)⟩
theorem lw_p44 : lw_okq (⟨"KeepForgetModel", "readNumber", "()I"⟩, 60) := ⟨⟨by decide +kernel, by decide +kernel⟩, List.mem_of_getElem? (i := 897) (by decide +kernel), List.mem_of_getElem? (i := 1188) (by decide +kernel), List.mem_of_getElem? (i := 1189) (by decide +kernel)⟩
theorem lw_p45 : lw_okq (⟨"KeepForgetModel", "word", "(Ljava/lang/String;)V"⟩, 60) := ⟨⟨by decide +kernel, by decide +kernel⟩, List.mem_of_getElem? (i := 897) (by decide +kernel), List.mem_of_getElem? (i := 1196) (by decide +kernel), List.mem_of_getElem? (i := 1197) (by decide +kernel)⟩
theorem lw_p46 : lw_okq (⟨"KeepForgetModel", "readTests", "()V"⟩, 60) := ⟨⟨by decide +kernel, by decide +kernel⟩, List.mem_of_getElem? (i := 897) (by decide +kernel), List.mem_of_getElem? (i := 1200) (by decide +kernel), List.mem_of_getElem? (i := 1201) (by decide +kernel)⟩
theorem lw_p47 : lw_okq (⟨"KeepForgetModel", "isThing", "(I)Z"⟩, 60) := ⟨⟨by decide +kernel, by decide +kernel⟩, List.mem_of_getElem? (i := 897) (by decide +kernel), List.mem_of_getElem? (i := 1219) (by decide +kernel), List.mem_of_getElem? (i := 1220) (by decide +kernel)⟩
def lw_privs_3 : List (MethodName × Nat) := [(⟨"KeepForget", "sweep", "(I)V"⟩, 13), (⟨"KeepForget", "copyCount", "()I"⟩, 13), (⟨"KeepForget", "openHoldCount", "()I"⟩, 13), (⟨"KeepForgetModel", "fail", "(I)I"⟩, 60), (⟨"KeepForgetModel", "step", "()V"⟩, 60), (⟨"KeepForgetModel", "byteAt", "(I)I"⟩, 60), (⟨"KeepForgetModel", "isWord", "(Ljava/lang/String;)Z"⟩, 60), (⟨"KeepForgetModel", "wrong", "(I)V"⟩, 60), (⟨"KeepForgetModel", "readRule", "()V"⟩, 60), (⟨"KeepForgetModel", "readWhat", "()V"⟩, 60), (⟨"KeepForgetModel", "readNumbered", "(II)I"⟩, 60), (⟨"KeepForgetModel", "numbered", "(II)I"⟩, 60), (⟨"KeepForgetModel", "readNumber", "()I"⟩, 60), (⟨"KeepForgetModel", "word", "(Ljava/lang/String;)V"⟩, 60), (⟨"KeepForgetModel", "readTests", "()V"⟩, 60), (⟨"KeepForgetModel", "isThing", "(I)Z"⟩, 60)]
theorem lw_r3 : ∀ q ∈ lw_privs_3, lw_okq q := List.forall_mem_cons.mpr ⟨lw_p32, List.forall_mem_cons.mpr ⟨lw_p33, List.forall_mem_cons.mpr ⟨lw_p34, List.forall_mem_cons.mpr ⟨lw_p35, List.forall_mem_cons.mpr ⟨lw_p36, List.forall_mem_cons.mpr ⟨lw_p37, List.forall_mem_cons.mpr ⟨lw_p38, List.forall_mem_cons.mpr ⟨lw_p39, List.forall_mem_cons.mpr ⟨lw_p40, List.forall_mem_cons.mpr ⟨lw_p41, List.forall_mem_cons.mpr ⟨lw_p42, List.forall_mem_cons.mpr ⟨lw_p43, List.forall_mem_cons.mpr ⟨lw_p44, List.forall_mem_cons.mpr ⟨lw_p45, List.forall_mem_cons.mpr ⟨lw_p46, List.forall_mem_cons.mpr ⟨lw_p47, fun _ h => absurd h List.not_mem_nil⟩⟩⟩⟩⟩⟩⟩⟩⟩⟩⟩⟩⟩⟩⟩⟩
theorem lw_p48 : lw_okq (⟨"KeepForgetModel", "placesOf", "(II)I"⟩, 60) := ⟨⟨by decide +kernel, by decide +kernel⟩, List.mem_of_getElem? (i := 897) (by decide +kernel), List.mem_of_getElem? (i := 1237) (by decide +kernel), List.mem_of_getElem? (i := 1238) (by decide +kernel)⟩
theorem lw_p49 : lw_okq (⟨"KeepForgetModel", "force", "(I)I"⟩, 60) := ⟨⟨by decide +kernel, by decide +kernel⟩, List.mem_of_getElem? (i := 897) (by decide +kernel), List.mem_of_getElem? (i := 1241) (by decide +kernel), List.mem_of_getElem? (i := 1242) (by decide +kernel)⟩
theorem lw_p50 : lw_okq (⟨"KeepForgetModel", "isFor", "(III)Z"⟩, 60) := ⟨⟨by decide +kernel, by decide +kernel⟩, List.mem_of_getElem? (i := 897) (by decide +kernel), List.mem_of_getElem? (i := 1245) (by decide +kernel), List.mem_of_getElem? (i := 1246) (by decide +kernel)⟩
theorem lw_p51 : lw_okq (⟨"KeepForgetModel", "isDue", "(III)Z"⟩, 60) := ⟨⟨by decide +kernel, by decide +kernel⟩, List.mem_of_getElem? (i := 897) (by decide +kernel), List.mem_of_getElem? (i := 1269) (by decide +kernel), List.mem_of_getElem? (i := 1270) (by decide +kernel)⟩
theorem lw_p52 : lw_okq (⟨"KeepForgetModel", "know", "(II)V"⟩, 60) := ⟨⟨by decide +kernel, by decide +kernel⟩, List.mem_of_getElem? (i := 897) (by decide +kernel), List.mem_of_getElem? (i := 1273) (by decide +kernel), List.mem_of_getElem? (i := 1274) (by decide +kernel)⟩
theorem lw_p53 : lw_okq (⟨"KeepForgetModel", "tell", "(III)V"⟩, 60) := ⟨⟨by decide +kernel, by decide +kernel⟩, List.mem_of_getElem? (i := 897) (by decide +kernel), List.mem_of_getElem? (i := 1277) (by decide +kernel), List.mem_of_getElem? (i := 1278) (by decide +kernel)⟩
theorem lw_p54 : lw_okq (⟨"KeepForgetModel", "bid", "(III)V"⟩, 60) := ⟨⟨by decide +kernel, by decide +kernel⟩, List.mem_of_getElem? (i := 897) (by decide +kernel), List.mem_of_getElem? (i := 1282) (by decide +kernel), List.mem_of_getElem? (i := 1283) (by decide +kernel)⟩
theorem lw_p55 : lw_okq (⟨"KeepForgetModel", "until", "(II)I"⟩, 60) := ⟨⟨by decide +kernel, by decide +kernel⟩, List.mem_of_getElem? (i := 897) (by decide +kernel), List.mem_of_getElem? (i := 1286) (by decide +kernel), List.mem_of_getElem? (i := 1287) (by decide +kernel)⟩
theorem lw_p56 : lw_okq (⟨"KeepForgetModel", "isHeld", "(II)Z"⟩, 60) := ⟨⟨by decide +kernel, by decide +kernel⟩, List.mem_of_getElem? (i := 897) (by decide +kernel), List.mem_of_getElem? (i := 1290) (by decide +kernel), List.mem_of_getElem? (i := 1291) (by decide +kernel)⟩
theorem lw_p57 : lw_okq (⟨"KeepForgetModel", "isSet", "(I)Z"⟩, 60) := ⟨⟨by decide +kernel, by decide +kernel⟩, List.mem_of_getElem? (i := 897) (by decide +kernel), List.mem_of_getElem? (i := 1298) (by decide +kernel), List.mem_of_getElem? (i := 1299) (by decide +kernel)⟩
theorem lw_p58 : lw_okq (⟨"KeepForgetModel", "sweep", "(I)V"⟩, 60) := ⟨⟨by decide +kernel, by decide +kernel⟩, List.mem_of_getElem? (i := 897) (by decide +kernel), List.mem_of_getElem? (i := 1337) (by decide +kernel), List.mem_of_getElem? (i := 1338) (by decide +kernel)⟩
def lw_privs_4 : List (MethodName × Nat) := [(⟨"KeepForgetModel", "placesOf", "(II)I"⟩, 60), (⟨"KeepForgetModel", "force", "(I)I"⟩, 60), (⟨"KeepForgetModel", "isFor", "(III)Z"⟩, 60), (⟨"KeepForgetModel", "isDue", "(III)Z"⟩, 60), (⟨"KeepForgetModel", "know", "(II)V"⟩, 60), (⟨"KeepForgetModel", "tell", "(III)V"⟩, 60), (⟨"KeepForgetModel", "bid", "(III)V"⟩, 60), (⟨"KeepForgetModel", "until", "(II)I"⟩, 60), (⟨"KeepForgetModel", "isHeld", "(II)Z"⟩, 60), (⟨"KeepForgetModel", "isSet", "(I)Z"⟩, 60), (⟨"KeepForgetModel", "sweep", "(I)V"⟩, 60)]
theorem lw_r4 : ∀ q ∈ lw_privs_4, lw_okq q := List.forall_mem_cons.mpr ⟨lw_p48, List.forall_mem_cons.mpr ⟨lw_p49, List.forall_mem_cons.mpr ⟨lw_p50, List.forall_mem_cons.mpr ⟨lw_p51, List.forall_mem_cons.mpr ⟨lw_p52, List.forall_mem_cons.mpr ⟨lw_p53, List.forall_mem_cons.mpr ⟨lw_p54, List.forall_mem_cons.mpr ⟨lw_p55, List.forall_mem_cons.mpr ⟨lw_p56, List.forall_mem_cons.mpr ⟨lw_p57, List.forall_mem_cons.mpr ⟨lw_p58, fun _ h => absurd h List.not_mem_nil⟩⟩⟩⟩⟩⟩⟩⟩⟩⟩⟩
def lw_privs : List (MethodName × Nat) := lw_privs_1 ++ (lw_privs_2 ++ (lw_privs_3 ++ (lw_privs_4)))
def lw_tbl : List Cond := k2_sels lw_privs ++ tables_1
theorem lw_privs_ok : ∀ q ∈ lw_privs, lw_okq q := by
  show ∀ q ∈ lw_privs_1 ++ (lw_privs_2 ++ (lw_privs_3 ++ (lw_privs_4))), lw_okq q
  exact List.forall_mem_append.mpr ⟨lw_r1, List.forall_mem_append.mpr ⟨lw_r2, List.forall_mem_append.mpr ⟨lw_r3, lw_r4⟩⟩⟩
end
section
/-! ===== BEGIN words of one list among another's, by their places ===== -/
theorem goodIn_r {big : List Cond} (ws : List Cond) (ps : List Nat) (hp : ws = ps.filterMap (fun i => big[i]?)) (h : ws.all goodWord = true) : GoodIn big ws := by
  intro w hw
  have h1 := List.all_eq_true.mp h w hw
  rw [hp] at hw
  obtain ⟨i, -, hi⟩ := List.mem_filterMap.mp hw
  have hm : w ∈ big := by first | exact List.mem_of_getElem? hi | exact List.getElem?_mem hi
  exact ⟨hm, good_of_word h1⟩
theorem goodIn_app {big a b : List Cond} (ha : GoodIn big a) (hb : GoodIn big b) : GoodIn big (a ++ b) := fun w h => (List.mem_append.mp h).elim (ha w) (hb w)
theorem goodIn_ca {big a b : List Cond} {c : Cond} (ha : GoodIn big (c :: a)) (hb : GoodIn big b) : GoodIn big (c :: (a ++ b)) := fun w h => (List.mem_cons.mp h).elim (fun e => ha w (List.mem_cons.mpr (Or.inl e))) (fun h => (List.mem_append.mp h).elim (fun h => ha w (List.mem_cons.mpr (Or.inr h))) (hb w))
theorem goodIn_sub {big ws : List Cond} (hm : ∀ w ∈ ws, w ∈ big) (h : ws.all goodWord = true) : GoodIn big ws := fun w hw => ⟨hm w hw, good_of_word (List.all_eq_true.mp h w hw)⟩
/-! ===== END ===== -/

/-! ===== BEGIN exceptions that leave a method, and their catching by the caller (launches without stack traces) ===== -/
section VXA
/-! The laws vx_back, vx_callV, vx_callS, vx_callSW, vx_throw0, vx_throwS follow proofs of the library, with one case more: JvmDerived/Free/Laws.lean (Back.of_free), Shelf42/LK1.lean (callV, callS), Shelf/KitTraced.lean (throwNew0V, throwNewS). -/
/-- where a method has thrown q: the class by its name, the cell, what was written, the world -/
def vx_T (XC : String → State → State → Prop) (st : State) (q : Addr) (t : State) (mc ms : Nat) (free : Addr → Prop) : Prop :=
  ∃ (E : String) (ce : Cell) (L : List Loc), XC E st t ∧ t.heap[q]? = some ce ∧ ce.vm = .none ∧ st.vm.findClass E = some ce.cls ∧ st.WarmedH t.vm ∧ st.sameButNew ({ t with vm := st.vm } : State) L mc ms ∧ ∀ z ∈ L, free z.base
def vx_Q (Qc : Array Value → State → Outcome → State → Prop) (XC : String → State → State → Prop) (mc ms : Nat) (free : Addr → Prop) : Array Value → State → Outcome → State → Prop := fun a st o t =>
  (Qc a st o t ∧ ∃ L, FrameEnd st o t L mc ms ∧ ∀ q ∈ L, free q.base) ∨ ∃ q, o = .threw q ∧ vx_T XC st q t mc ms free
/-- a callee that returns or throws -/
def vx_Met (l : Launch) (y : MethodName) (ws : List Cond) (rm : Room) (Pc : Array Value → State → Prop) (Qc : Array Value → State → Outcome → State → Prop) (XC : String → State → State → Prop) (mc ms : Nat) (free : Addr → Prop) : Prop :=
  MetFree l y (headSpec ws rm) Pc (fun _ _ _ _ _ => True) (vx_Q Qc XC mc ms free)
def vx_Post (XC : String → State → State → Prop) (mc ms : Nat) (free : Addr → Prop) : Pt → Array Value → Addr → Pt → Prop := fun A a q B =>
  ∃ (g : JFrame) (mk : MethodId) (t : State) (L : List Loc) (E : String) (ce : Cell), B.U.heap = t.heap ∧ B.U.vm = t.vm ∧ XC E (A.U.calling g mk a) t ∧ t.heap[q]? = some ce ∧ ce.vm = .none ∧ A.U.vm.findClass E = some ce.cls ∧ B.locs = A.locs ++ L ∧ (∀ z ∈ L, free z.base) ∧ B.cells = A.cells + mc ∧ B.slots = A.slots + ms
def vx_Back (l : Launch) (R : Room) (p : Program) (e : Env) (below : List Frame) (s : State) (sargs : Array Value) (y : MethodName) (len W9 : Nat)
    (Pre : Pt → Array Value → Prop) (Post : Pt → Array Value → Option Value → Pt → Prop) (PostX : Pt → Array Value → Addr → Pt → Prop) : Prop :=
  ∀ (m : MethodId) (meth : Method) (c : Code) (A : Pt) (g : JFrame) (ig : Instr) (mk : MethodId) (a : Array Value),
    Stand p l e R s m sargs below meth c A.U A.locs A.cells A.slots → g.method = m → g.locals.size = c.maxLocals → decode c.code g.pc = .ok (ig, len) →
    2 * g.monitorRoom + (g.stack.map fun v => v.category).sum ≤ W9 → A.U.methodNamed? y = some mk → Pre A a →
    (∃ (v : Option Value) (B : Pt), Stand p l e R s m sargs below meth c B.U B.locs B.cells B.slots ∧ Post A a v B ∧
      Steps p.tables e below (doInvoke e (A.U.setTop g) [] mk a).1 (B.U.setTop { g with pc := g.pc + len, stack := v.toList ++ g.stack })) ∨
    (∃ (q : Addr) (B : Pt), Stand p l e R s m sargs below meth c B.U B.locs B.cells B.slots ∧ PostX A a q B ∧
      Steps p.tables e below (doInvoke e (A.U.setTop g) [] mk a).1 ((B.U.setTop g).pushFrame (.throwing q)))
section Payer
variable {l : Launch} {R : Room} {p : Program} {e : Env} {below : List Frame} {s : State} {sargs : Array Value} {y : MethodName} {len W9 : Nat}
theorem vx_back {ws : List Cond} {rm : Room} {Pc : Array Value → State → Prop} {Qc : Array Value → State → Outcome → State → Prop} {XC : String → State → State → Prop} {mc ms : Nat} {free : Addr → Prop} {bytes : ByteArray} {maxL : Nat} {ret : Option FieldType}
    (hM : vx_Met l y ws rm Pc Qc XC mc ms free) (hblind : FrameBlind Pc) (hrc : rm.cells = mc) (hrs : rm.slots = ms)
    (hframes : rm.frames + 1 ≤ R.frames) (hlocals : W9 + (maxL + 11) + rm.locals ≤ R.locals)
    (hws : ∀ w ∈ ws, ∀ a' U, s.WarmedH U.vm → w.before a' U = true) (hcode : Cond.code y bytes maxL ret ∈ ws) (hinit : ∀ a' U, s.WarmedH U.vm → (Cond.initialized y.cls).before a' U = true) :
    vx_Back l R p e below s sargs y len W9 (PreOf R mc ms Pc) (PostOf Qc mc ms free) (vx_Post XC mc ms free) := by
  intro m meth c A g ig mk a X hg hsize hdg hW hn hp
  have h1 : (headSpec ws rm).pre.before a A.U = true := atoms_intro fun w hw => hws w hw _ _ X.warmed
  have h2 : (Cond.code y bytes maxL ret).before a A.U = true := hws _ hcode _ _ X.warmed
  have h3 : (Cond.initialized y.cls).before a A.U = true := hinit _ _ X.warmed
  have h4 : A.cells + (headSpec ws rm).room.cells ≤ R.cells := by rw [show (headSpec ws rm).room.cells = mc from hrc]; exact hp.1
  have h5 : A.slots + (headSpec ws rm).room.slots ≤ R.slots := by rw [show (headSpec ws rm).room.slots = ms from hrs]; exact hp.2.1
  have hPc : Pc a (A.U.calling g mk a) := hblind _ _ _ _ hp.2.2
  obtain ⟨U, Ls, c0, s0⟩ := A
  dsimp only [Pt.U, Pt.locs, Pt.cells, Pt.slots] at h1 h2 h3 h4 h5 X hn hPc ⊢
  obtain ⟨methY, cY, hmY, hcY, -, hlY, -, -, -, -⟩ := Cond.code_spec hn h2
  obtain ⟨kY, hkY, -⟩ := className_of_methodNamed hn
  have hinitY : kY.init = .initialized := Cond.initialized_spec (findClass_of_methodNamed hn) hkY h3
  have h : At U g.method c below := by rw [hg]; exact X.here
  have hlocals9 : W9 + (maxL + 11) + (headSpec ws rm).room.locals ≤ R.locals := hlocals
  have happ : (headSpec ws rm).appliesLoose y e.platform (U.calling g mk a) = true :=
    Spec.appliesLoose_calling (g := g) h hdg hn hkY hinitY
      (X.room_calling (g := g) (R' := (headSpec ws rm).room) hsize hmY hcY hframes (by rw [hlY]; omega) h4 h5) h1
  obtain ⟨mid, hmid⟩ := h.above
  have hfr : (U.setTop g).frames = (.java g :: mid) ++ below := by rw [State.frames_setTop' g h.top, hmid]; rfl
  obtain ⟨o, s₂, hsteps, -, hend, hq⟩ := Steps.callFree hM p X.admits X.cas X.clock (acts := []) hfr happ hPc trivial
  have hq' : vx_Q Qc XC mc ms free a (U.calling g mk a) o s₂ := hq
  rw [State.frames_setTop' g h.top] at hend
  obtain ⟨g₀, hg0⟩ := Option.isSome_iff_exists.mp h.top
  obtain ⟨r, hr⟩ := State.topJava?_eq_some.mp hg0
  have hr' : (({ U with heap := s₂.heap, slotsUsed := s₂.slotsUsed } : State).setVm s₂.vm).frames = .java g₀ :: r := hr
  rcases hq' with ⟨hqc, L, hfe, hL⟩ | ⟨q, rfl, E, ce, L, hx, hce, hcv, hcl, hW₂, hsm, hL⟩
  · obtain ⟨⟨v, rfl⟩, hW₂, e2, q2, q3, q4, q5, q6⟩ := id hfe
    have e3 : s₂ = ({ (U.calling g mk a).setFrames s₂.frames with heap := s₂.heap, slotsUsed := s₂.slotsUsed } : State).setVm s₂.vm := by
      have : s₂ = ({ s₂ with vm := (U.calling g mk a).vm } : State).setVm s₂.vm := rfl
      rw [e2] at this
      exact this
    obtain ⟨c₂, i₂, len₂, hc₂, hd₂, hf₂⟩ := hend
    have hW' : U.WarmedH s₂.vm := hW₂
    have hcc : c₂ = c := by
      have h1 : s₂.code? g.method = U.code? g.method := by
        rw [State.code?_eq, State.code?_eq, hW'.alike.method?]
      exact Option.some.inj (hc₂.symm.trans (h1.trans h.code))
    subst hcc
    have hlen : len₂ = len := by rw [hdg] at hd₂; cases hd₂; rfl
    subst hlen
    have hs₂ : s₂ = (({ U with heap := s₂.heap, slotsUsed := s₂.slotsUsed } : State).setVm s₂.vm).setTop { g with pc := g.pc + len₂, stack := v.toList ++ g.stack } := by
      refine e3.trans ?_
      rw [hf₂, State.calling_eq h.top, State.setFrames_setFrames, State.setTop_of_frames _ hr', hr]
      rfl
    have hsame : U.sameButNew ({ U with heap := s₂.heap, slotsUsed := s₂.slotsUsed } : State) L mc ms := by
      refine ⟨?_, q2, q3, q4, q5, q6⟩
      obtain ⟨t, ht, -⟩ := State.frames_cons hr
      show ({ U with heap := s₂.heap, slotsUsed := s₂.slotsUsed } : State) = { U.setFrames U.frames with heap := s₂.heap, slotsUsed := s₂.slotsUsed }
      rw [State.setFrames_self ht]
    subst hg
    refine Or.inl ⟨v, ⟨(({ U with heap := s₂.heap, slotsUsed := s₂.slotsUsed } : State).setVm s₂.vm), Ls ++ L, c0 + mc, s0 + ms⟩,
      ⟨X.admits, X.cas, X.clock, X.frames, X.room, X.hears, X.method, X.code, (X.here.setHeapUsed s₂.heap s₂.slotsUsed).setVm hW'.alike, X.tail, State.WarmedH.trans X.warmed hW', X.limits, X.bytes, X.same.trans (hsame.setVm s.vm)⟩,
      ⟨g, mk, s₂, L, rfl, rfl, hqc, rfl, hL, rfl, rfl⟩, ?_⟩
    show Steps p.tables e below _ ((({ U with heap := s₂.heap, slotsUsed := s₂.slotsUsed } : State).setVm s₂.vm).setTop { g with pc := g.pc + len₂, stack := v.toList ++ g.stack })
    rw [← hs₂]
    exact hsteps
  · obtain ⟨e2, q2, q3, q4, q5, q6⟩ := id hsm
    have e3 : s₂ = ({ (U.calling g mk a).setFrames s₂.frames with heap := s₂.heap, slotsUsed := s₂.slotsUsed } : State).setVm s₂.vm := by
      have : s₂ = ({ s₂ with vm := (U.calling g mk a).vm } : State).setVm s₂.vm := rfl
      rw [e2] at this
      exact this
    have hf₂ : s₂.frames = .throwing q :: .java g :: U.frames.tail := hend
    have hW' : U.WarmedH s₂.vm := hW₂
    have hs₂ : s₂ = ((({ U with heap := s₂.heap, slotsUsed := s₂.slotsUsed } : State).setVm s₂.vm).setTop g).pushFrame (.throwing q) := by
      refine e3.trans ?_
      rw [hf₂, State.calling_eq h.top, State.setFrames_setFrames, State.pushFrame, State.frames_setTop _ hr', State.setTop_of_frames _ hr', State.setFrames_setFrames, hr]
      rfl
    have hsame : U.sameButNew ({ U with heap := s₂.heap, slotsUsed := s₂.slotsUsed } : State) L mc ms := by
      refine ⟨?_, q2, q3, q4, q5, q6⟩
      obtain ⟨t, ht, -⟩ := State.frames_cons hr
      show ({ U with heap := s₂.heap, slotsUsed := s₂.slotsUsed } : State) = { U.setFrames U.frames with heap := s₂.heap, slotsUsed := s₂.slotsUsed }
      rw [State.setFrames_self ht]
    subst hg
    refine Or.inr ⟨q, ⟨(({ U with heap := s₂.heap, slotsUsed := s₂.slotsUsed } : State).setVm s₂.vm), Ls ++ L, c0 + mc, s0 + ms⟩,
      ⟨X.admits, X.cas, X.clock, X.frames, X.room, X.hears, X.method, X.code, (X.here.setHeapUsed s₂.heap s₂.slotsUsed).setVm hW'.alike, X.tail, State.WarmedH.trans X.warmed hW', X.limits, X.bytes, X.same.trans (hsame.setVm s.vm)⟩,
      ⟨g, mk, s₂, L, E, ce, rfl, rfl, hx, hce, hcv, hcl, rfl, hL, rfl, rfl⟩, ?_⟩
    show Steps p.tables e below _ (((({ U with heap := s₂.heap, slotsUsed := s₂.slotsUsed } : State).setVm s₂.vm).setTop g).pushFrame (.throwing q))
    rw [← hs₂]
    exact hsteps
end Payer
section Calls
variable {p : Program} {l : Launch} {e : Env} {R : Room} {s : State} {m : MethodId} {args : Array Value} {below : List Frame} {meth : Method} {c : Code} {T : State} {locs : List Loc} {cells slots : Nat}
theorem vx_callV (X : Stand p l e R s m args below meth c T locs cells slots) (hexec : p.tables.exec = Jvm.exec) {own C : String} {index : Nat} {y : MethodName} {bytes : ByteArray} {maxL : Nat} {ret : Option FieldType}
    (hown : s.vm.findClass own = some m.cls) (hlink : (Cond.methodLink own index y).before args s = true) (hinst : (Cond.instanceMethod y).before args s = true) (hsel : (Cond.selects C y y).before args s = true)
    (hcode : (Cond.code y bytes maxL ret).before args s = true) (hy : y.cls ≠ "java/lang/invoke/MethodHandle" ∧ y.cls ≠ "java/lang/invoke/VarHandle")
    {W9 : Nat} {Pre : Pt → Array Value → Prop} {Post : Pt → Array Value → Option Value → Pt → Prop} {PostX : Pt → Array Value → Addr → Pt → Prop} (hK : vx_Back l R p e below s args y 3 W9 Pre Post PostX)
    {b : Addr} {cellB : Cell} (hcell : T.heap[b]? = some cellB) (hobj : cellB.vm.isStatics = false) (hcls : s.vm.findClass C = some cellB.cls)
    {g : JFrame} (hg : g.method = m) (hsize : g.locals.size = c.maxLocals) {argsL rest : List Value} (hlen : ∀ sig, parseMethodDescriptor y.desc = some sig → argsL.length = sig.parameters.length)
    (hstack : g.stack = argsL.reverse ++ .ref b :: rest) (hW : 2 * g.monitorRoom + (rest.map fun v => v.category).sum ≤ W9) (hdg : decode c.code g.pc = .ok (.invokevirtual index, 3))
    (hpre : ∀ vm₁, s.WarmedH vm₁ → Pre ⟨T.setVm vm₁, locs, cells, slots⟩ (Value.ref b :: argsL).toArray) :
    (∃ (v : Option Value) (vm₁ : Vm) (B : Pt), s.WarmedH vm₁ ∧ Stand p l e R s m args below meth c B.U B.locs B.cells B.slots ∧ Post ⟨T.setVm vm₁, locs, cells, slots⟩ (Value.ref b :: argsL).toArray v B ∧
      ∀ target, Steps p.tables e below (B.U.setTop { g with pc := g.pc + 3, stack := v.toList ++ rest }) target → Steps p.tables e below (T.setTop g) target) ∨
    (∃ (q : Addr) (vm₁ : Vm) (B : Pt), s.WarmedH vm₁ ∧ Stand p l e R s m args below meth c B.U B.locs B.cells B.slots ∧ PostX ⟨T.setVm vm₁, locs, cells, slots⟩ (Value.ref b :: argsL).toArray q B ∧
      Steps p.tables e below (T.setTop g) ((B.U.setTop { g with stack := rest }).pushFrame (.throwing q))) := by
  obtain ⟨mk, methM, hnamed, hmethM, hstM, habM⟩ := Cond.instanceMethod_spec hinst
  obtain ⟨methM', cM, hmethM', -, -, -, -, -, -, hsigM⟩ := Cond.code_spec hnamed hcode
  cases hmethM.symm.trans hmethM'
  obtain ⟨c2, r2, m2, q1, q2, q3, q4, kP, hkP, hkPi⟩ := Cond.selects_spec hsel
  cases hcls.symm.trans q1
  cases (State.methodFound?_of_named hnamed hy).symm.trans q2
  cases hnamed.symm.trans q3
  have hselP : selectMethod e.platform s.vm cellB.cls mk = .method mk := by rw [Launch.admits_selectMethod X.admits]; exact q4
  obtain ⟨vm₁, X₁, hstep₁⟩ := X.invokevirtual hexec hown hlink hnamed hmethM hstM hkP hkPi hy (a := b) (cell := cellB) hcell
    (fun z h => by rw [h] at hobj; cases hobj) hselP hmethM habM hkP hkPi (g := g) hg (argsL := argsL) (rest := rest) (hlen _ hsigM) hstack hdg
  rcases hK m meth c ⟨T.setVm vm₁, locs, cells, slots⟩ { g with stack := rest } (.invokevirtual index) mk (Value.ref b :: argsL).toArray X₁ hg hsize hdg hW (X₁.named hnamed) (hpre vm₁ X₁.warmed) with ⟨v, B, X', hpost, hsteps⟩ | ⟨q, B, X', hpost, hsteps⟩
  · exact Or.inl ⟨v, vm₁, B, X₁.warmed, X', hpost, fun target h => hstep₁ _ fun acts => by rw [doInvoke_state]; exact hsteps.trans h⟩
  · exact Or.inr ⟨q, vm₁, B, X₁.warmed, X', hpost, hstep₁ _ fun acts => by rw [doInvoke_state]; exact hsteps⟩
theorem vx_callS (X : Stand p l e R s m args below meth c T locs cells slots) (hexec : p.tables.exec = Jvm.exec) {own : String} {index : Nat} {y : MethodName} {bytes : ByteArray} {maxL : Nat} {ret : Option FieldType}
    (hown : s.vm.findClass own = some m.cls) (hlink : (Cond.methodLink own index y).before args s = true) (hstat : (Cond.static y).before args s = true) (hinit : (Cond.initialized y.cls).before args s = true)
    (hcode : (Cond.code y bytes maxL ret).before args s = true) (hy : y.cls ≠ "java/lang/invoke/MethodHandle" ∧ y.cls ≠ "java/lang/invoke/VarHandle")
    {W9 : Nat} {Pre : Pt → Array Value → Prop} {Post : Pt → Array Value → Option Value → Pt → Prop} {PostX : Pt → Array Value → Addr → Pt → Prop} (hK : vx_Back l R p e below s args y 3 W9 Pre Post PostX)
    {g : JFrame} (hg : g.method = m) (hsize : g.locals.size = c.maxLocals) {argsL rest : List Value} (hlen : ∀ sig, parseMethodDescriptor y.desc = some sig → argsL.length = sig.parameters.length)
    (hstack : g.stack = argsL.reverse ++ rest) (hW : 2 * g.monitorRoom + (rest.map fun v => v.category).sum ≤ W9) (hdg : decode c.code g.pc = .ok (.invokestatic index, 3))
    (hpre : ∀ vm₁, s.WarmedH vm₁ → Pre ⟨T.setVm vm₁, locs, cells, slots⟩ argsL.toArray) :
    (∃ (v : Option Value) (vm₁ : Vm) (B : Pt), s.WarmedH vm₁ ∧ Stand p l e R s m args below meth c B.U B.locs B.cells B.slots ∧ Post ⟨T.setVm vm₁, locs, cells, slots⟩ argsL.toArray v B ∧
      ∀ target, Steps p.tables e below (B.U.setTop { g with pc := g.pc + 3, stack := v.toList ++ rest }) target → Steps p.tables e below (T.setTop g) target) ∨
    (∃ (q : Addr) (vm₁ : Vm) (B : Pt), s.WarmedH vm₁ ∧ Stand p l e R s m args below meth c B.U B.locs B.cells B.slots ∧ PostX ⟨T.setVm vm₁, locs, cells, slots⟩ argsL.toArray q B ∧
      Steps p.tables e below (T.setTop g) ((B.U.setTop { g with stack := rest }).pushFrame (.throwing q))) := by
  obtain ⟨mk, hnamed⟩ := Cond.code_named hcode
  obtain ⟨methM, cM, hmethM, -, -, -, -, -, -, hsigM⟩ := Cond.code_spec hnamed hcode
  have hstatic : methM.isStatic = true := Cond.static_spec hnamed hmethM hstat
  obtain ⟨kP, hkP, -⟩ := className_of_methodNamed hnamed
  have hinitP : kP.init = .initialized := Cond.initialized_spec (findClass_of_methodNamed hnamed) hkP hinit
  obtain ⟨vm₁, X₁, hstep₁⟩ := X.invokestatic hexec hown hlink hnamed hmethM hstatic hkP hinitP hy (g := g) hg (argsL := argsL) (rest := rest) (hlen _ hsigM) hstack hdg
  rcases hK m meth c ⟨T.setVm vm₁, locs, cells, slots⟩ { g with stack := rest } (.invokestatic index) mk argsL.toArray X₁ hg hsize hdg hW (X₁.named hnamed) (hpre vm₁ X₁.warmed) with ⟨v, B, X', hpost, hsteps⟩ | ⟨q, B, X', hpost, hsteps⟩
  · exact Or.inl ⟨v, vm₁, B, X₁.warmed, X', hpost, fun target h => hstep₁ _ fun acts => by rw [doInvoke_state]; exact hsteps.trans h⟩
  · exact Or.inr ⟨q, vm₁, B, X₁.warmed, X', hpost, hstep₁ _ fun acts => by rw [doInvoke_state]; exact hsteps⟩
end Calls
theorem vx_cls {s : State} {T : State} {vm₁ : Vm} {E : String} {k : ClassId} (hW : s.WarmedH vm₁) (h : (T.setVm vm₁).vm.findClass E = some k) : s.vm.findClass E = some k := by
  have h1 : vm₁.findClass E = some k := h
  rw [hW.alike.findClass] at h1
  exact h1
/-- the method's frame g, with q thrown over it -/
def vx_W (p : Program) (l : Launch) (e : Env) (R : Room) (s : State) (m : MethodId) (args : Array Value) (below : List Frame) (meth : Method) (c : Code) (H : Heap) (locs : List Loc) (cells slots : Nat) (Q : State → Prop) (g : JFrame) (q : Addr) : Prop :=
  ∀ T : State, T.heap = H → Stand p l e R s m args below meth c T locs cells slots → ∃ t, Steps p.tables e below ((T.setTop g).pushFrame (.throwing q)) t ∧ Q t
def vx_Run (p : Program) (l : Launch) (e : Env) (R : Room) (s : State) (m : MethodId) (args : Array Value) (below : List Frame) (meth : Method) (c : Code) (H : Heap) (locs : List Loc) (cells slots mc ms : Nat) (g : JFrame) (rest : List Value) (Qa : State → Outcome → State → Prop) (XC : String → State → State → Prop) (free : Addr → Prop) : Prop :=
  ∀ T : State, T.heap = H → Stand p l e R s m args below meth c T locs cells slots →
    (∃ (v : Option Value) (st₀ t T' : State) (L : List Loc), st₀.heap = H ∧ Stand p l e R s m args below meth c T' (locs ++ L) (cells + mc) (slots + ms) ∧ (∀ q ∈ L, free q.base) ∧ T'.heap = t.heap ∧ T'.vm = t.vm ∧ Qa st₀ (.returned v) t ∧
      Goes p e below T g T' { g with pc := g.pc + 3, stack := v.toList ++ rest }) ∨
    (∃ (q : Addr) (st₀ t T' : State) (L : List Loc) (E : String) (ce : Cell), st₀.heap = H ∧ Stand p l e R s m args below meth c T' (locs ++ L) (cells + mc) (slots + ms) ∧ (∀ z ∈ L, free z.base) ∧ T'.heap = t.heap ∧ T'.vm = t.vm ∧ XC E st₀ t ∧ t.heap[q]? = some ce ∧ ce.vm = .none ∧ s.vm.findClass E = some ce.cls ∧
      Steps p.tables e below (T.setTop g) ((T'.setTop { g with stack := rest }).pushFrame (.throwing q)))
def vx_X {S : Type} (px : S → Prop) (B : String → S → State → Prop) (A : Nat → Prop) : String → State → State → Prop := fun E st t => ∃ u : S, px u ∧ B E u t ∧ va_F A st t
section Runs
variable {p : Program} {l : Launch} {e : Env} {R : Room} {s : State} {m : MethodId} {args : Array Value} {below : List Frame} {meth : Method} {c : Code} {H : Heap} {locs : List Loc} {cells slots : Nat}
variable {y : MethodName} {bytes cc : ByteArray} {maxL nL mc ms n index : Nat} {ret : Option FieldType} {ws : List Cond} {rm : Room} {Pc : Array Value → State → Prop} {Qc : Array Value → State → Outcome → State → Prop} {XC : String → State → State → Prop} {free : Addr → Prop} {Ts : List Cond} {own C : String} {b : Addr} {As rest : List Value} {g : JFrame}
theorem vx_callBack (cb : CallB R s args own index y bytes maxL ret ws rm mc ms n) (hM : vx_Met l y ws rm Pc Qc XC mc ms free) (hbl : FrameBlind Pc) : vx_Back l R p e below s args y 3 8 (PreOf R mc ms Pc) (PostOf Qc mc ms free) (vx_Post XC mc ms free) := by
  obtain ⟨hrc, hrs, hfr, hlo, hws, hcw, -, hini, -⟩ := cb
  exact vx_back (bytes := bytes) (maxL := maxL) (ret := ret) hM hbl hrc hrs hfr hlo hws hcw (fun a' U hW => word_at hW (Or.inl (by first | rfl | simp [Cond.onTables, Cond.keeps, Cond.steady])) hini)
theorem vx_runV (S : CallFix p m c cc nL s args Ts own) (hM : vx_Met l y ws rm Pc Qc XC mc ms free) (cw : CallW R s args own C index y bytes maxL ret ws rm mc ms n) (hp : PreV s H C b Pc As)
    (hg : g.method = m) (hn : As.length = n) (hsize : g.locals.size = nL) (hstack : g.stack = As.reverse ++ .ref b :: rest) (hW : 2 * g.monitorRoom + (rest.map fun v => v.category).sum ≤ 8) (hdg : decode cc g.pc = .ok (.invokevirtual index, 3)) (hf : cells + mc ≤ R.cells ∧ slots + ms ≤ R.slots) :
    vx_Run p l e R s m args below meth c H locs cells slots mc ms g rest (Qc (Value.ref b :: As).toArray) XC free := by
  have hK : vx_Back l R p e below s args y 3 8 (PreOf R mc ms Pc) (PostOf Qc mc ms free) (vx_Post XC mc ms free) := vx_callBack cw.1 hM hp.1
  obtain ⟨⟨-, -, -, -, -, -, hcode, -, hy, hlen, hl⟩, hin, hse⟩ := cw
  obtain ⟨hx, hb, hml, ho, -⟩ := S
  obtain ⟨-, ⟨cellB, hcB, hoB, hclB⟩, hPc⟩ := hp
  intro T hT X
  rcases vx_callV X hx (C := C) (bytes := bytes) (maxL := maxL) (ret := ret) ho hl hin hse hcode hy hK (by rw [hT]; exact hcB) hoB hclB hg (hsize.trans hml.symm) (argsL := As) (rest := rest) (fun sig h => hn.trans (hlen sig h)) hstack hW (by rw [hb]; exact hdg)
    (fun vm₁ hW₁ => ⟨hf.1, hf.2, hPc (T.setVm vm₁) hT hW₁⟩) with ⟨v, vm₁, ⟨U', l2, c2, s2⟩, hW₁, X', ⟨g', mk, t, L, e1, e2, hq, h1, hL, h2, h3⟩, st⟩ | ⟨q, vm₁, ⟨U', l2, c2, s2⟩, hW₁, X', ⟨g', mk, t, L, E, ce, e1, e2, hq, hce, hcv, hcl, h1, hL, h2, h3⟩, st⟩
  · dsimp only [Pt.U, Pt.locs, Pt.cells, Pt.slots] at X' e1 e2 h1 h2 h3 st
    subst h1; subst h2; subst h3
    exact Or.inl ⟨v, (T.setVm vm₁).calling g' mk (Value.ref b :: As).toArray, t, U', L, hT, X', hL, e1, e2, hq, st⟩
  · dsimp only [Pt.U, Pt.locs, Pt.cells, Pt.slots] at X' e1 e2 h1 h2 h3 st hcl
    subst h1; subst h2; subst h3
    exact Or.inr ⟨q, (T.setVm vm₁).calling g' mk (Value.ref b :: As).toArray, t, U', L, E, ce, hT, X', hL, e1, e2, hq, hce, hcv, vx_cls hW₁ hcl, st⟩
theorem vx_runS (S : CallFix p m c cc nL s args Ts own) (hM : vx_Met l y ws rm Pc Qc XC mc ms free) (cw : CallB R s args own index y bytes maxL ret ws rm mc ms n ∧ (Cond.static y).before args s = true) (hp : PreS s H Pc As)
    (hg : g.method = m) (hn : As.length = n) (hsize : g.locals.size = nL) (hstack : g.stack = As.reverse ++ rest) (hW : 2 * g.monitorRoom + (rest.map fun v => v.category).sum ≤ 8) (hdg : decode cc g.pc = .ok (.invokestatic index, 3)) (hf : cells + mc ≤ R.cells ∧ slots + ms ≤ R.slots) :
    vx_Run p l e R s m args below meth c H locs cells slots mc ms g rest (Qc As.toArray) XC free := by
  have hK : vx_Back l R p e below s args y 3 8 (PreOf R mc ms Pc) (PostOf Qc mc ms free) (vx_Post XC mc ms free) := vx_callBack cw.1 hM hp.1
  obtain ⟨⟨-, -, -, -, -, -, hcode, hini, hy, hlen, hl⟩, hstt⟩ := cw
  obtain ⟨hx, hb, hml, ho, -⟩ := S
  intro T hT X
  rcases vx_callS X hx (bytes := bytes) (maxL := maxL) (ret := ret) ho hl hstt hini hcode hy hK hg (hsize.trans hml.symm) (argsL := As) (rest := rest) (fun sig h => hn.trans (hlen sig h)) hstack hW (by rw [hb]; exact hdg)
    (fun vm₁ hW₁ => ⟨hf.1, hf.2, hp.2 (T.setVm vm₁) hT hW₁⟩) with ⟨v, vm₁, ⟨U', l2, c2, s2⟩, hW₁, X', ⟨g', mk, t, L, e1, e2, hq, h1, hL, h2, h3⟩, st⟩ | ⟨q, vm₁, ⟨U', l2, c2, s2⟩, hW₁, X', ⟨g', mk, t, L, E, ce, e1, e2, hq, hce, hcv, hcl, h1, hL, h2, h3⟩, st⟩
  · dsimp only [Pt.U, Pt.locs, Pt.cells, Pt.slots] at X' e1 e2 h1 h2 h3 st
    subst h1; subst h2; subst h3
    exact Or.inl ⟨v, (T.setVm vm₁).calling g' mk As.toArray, t, U', L, hT, X', hL, e1, e2, hq, st⟩
  · dsimp only [Pt.U, Pt.locs, Pt.cells, Pt.slots] at X' e1 e2 h1 h2 h3 st hcl
    subst h1; subst h2; subst h3
    exact Or.inr ⟨q, (T.setVm vm₁).calling g' mk As.toArray, t, U', L, E, ce, hT, X', hL, e1, e2, hq, hce, hcv, vx_cls hW₁ hcl, st⟩
end Runs
section Rows
variable {p : Program} {l : Launch} {e : Env} {R : Room} {s : State} {m : MethodId} {args : Array Value} {below : List Frame} {meth : Method} {c : Code} {H : Heap} {locs : List Loc} {cells slots : Nat} {Q : State → Prop}
variable {mc ms : Nat} {free : Addr → Prop} {A0 A1 : Nat → Prop} {H0 : Heap} {a : Array Value} {pc : Nat} {ls : Array Slot} {st0 rest : List Value}
theorem vx_keep {st₀ t T' : State} {L : List Loc} (h0 : st₀.heap = H) (e1 : T'.heap = t.heap) (hS : va_S A0 H0 H locs) (hA : ∀ q, q < H.size → A1 q → A0 q) (hf : ∀ q, free q → A0 q) (hL : ∀ q ∈ L, free q.base) (hF : va_F A1 st₀ t) :
    H.size ≤ T'.heap.size ∧ (∀ q : Nat, q < H.size → ¬ A1 q → T'.heap[q]? = H[q]?) ∧ va_S A0 H0 T'.heap (locs ++ L) := by
  obtain ⟨hz, hk⟩ := hF
  rw [h0] at hz hk
  exact ⟨by rw [e1]; exact hz, fun q h1 h2 => by rw [e1]; exact hk q h1 h2,
    ⟨Nat.le_trans hS.1 (by rw [e1]; exact hz), fun q h1 h2 => by rw [e1, hk q (Nat.lt_of_lt_of_le h1 hS.1) (fun z => h2 (hA q (Nat.lt_of_lt_of_le h1 hS.1) z))]; exact hS.2.1 q h1 h2, fun q hq => by
      rcases List.mem_append.mp hq with h | h
      · exact hS.2.2 q h
      · exact hf _ (hL q h)⟩⟩
theorem vx_calli {S SX : Type} {post : Int32 → S → Prop} {px : SX → Prop} {B : S → State → Prop} {BX : String → SX → State → Prop} {AX : Nat → Prop} (hr : vx_Run p l e R s m args below meth c H locs cells slots mc ms (F0 m pc ls st0) rest (va_Qi post B A1 a) (vx_X px BX AX) free) (hS : va_S A0 H0 H locs) (hA : ∀ q, q < H.size → A1 q → A0 q) (hf : ∀ q, free q → A0 q) (hAX : ∀ q, q < H.size → AX q → A0 q)
    (kx : ∀ (E : String) (ce : Cell) (q9 : Addr) (u : SX) (t : State) (H1 : Heap) (locs1 : List Loc), t.heap = H1 → s.vm.Alike t.vm → px u → BX E u t → H.size ≤ H1.size → (∀ q : Nat, q < H.size → ¬ AX q → H1[q]? = H[q]?) → va_S A0 H0 H1 locs1 → H1[q9]? = some ce → ce.vm = .none → s.vm.findClass E = some ce.cls → vx_W p l e R s m args below meth c H1 locs1 (cells + mc) (slots + ms) Q (F0 m pc ls rest) q9)
    (kk : ∀ (r : Int32) (u : S) (t : State) (H1 : Heap) (locs1 : List Loc), t.heap = H1 → s.vm.Alike t.vm → post r u → B u t → H.size ≤ H1.size → (∀ q : Nat, q < H.size → ¬ A1 q → H1[q]? = H[q]?) → va_S A0 H0 H1 locs1 → W p l e R s m args below meth c H1 locs1 (cells + mc) (slots + ms) Q (F0 m (pc + 3) ls (.int r :: rest))) : W p l e R s m args below meth c H locs cells slots Q (F0 m pc ls st0) := by
  intro T hT X
  rcases hr T hT X with ⟨v, st₀, t, T', L, h0, X', hL, e1, e2, ⟨⟨r, u, hv, hp, hb⟩, hF⟩, st⟩ | ⟨q, st₀, t, T', L, E, ce, h0, X', hL, e1, e2, ⟨u, hp, hb, hF⟩, hce, hcv, hcl, st⟩
  · cases hv
    obtain ⟨k1, k2, k3⟩ := vx_keep h0 e1 hS hA hf hL hF
    obtain ⟨t2, a1, b1⟩ := kk r u t T'.heap (locs ++ L) e1.symm (by rw [← e2]; exact X'.warmed.alike) hp hb k1 k2 k3 T' rfl X'
    exact ⟨t2, st t2 a1, b1⟩
  · obtain ⟨k1, k2, k3⟩ := vx_keep h0 e1 hS hAX hf hL hF
    obtain ⟨t2, a1, b1⟩ := kx E ce q u t T'.heap (locs ++ L) e1.symm (by rw [← e2]; exact X'.warmed.alike) hp hb k1 k2 k3 (by rw [e1]; exact hce) hcv hcl T' rfl X'
    exact ⟨t2, st.trans a1, b1⟩
theorem vx_calll {S SX : Type} {post : Int64 → S → Prop} {px : SX → Prop} {B : S → State → Prop} {BX : String → SX → State → Prop} {AX : Nat → Prop} (hr : vx_Run p l e R s m args below meth c H locs cells slots mc ms (F0 m pc ls st0) rest (va_Ql post B A1 a) (vx_X px BX AX) free) (hS : va_S A0 H0 H locs) (hA : ∀ q, q < H.size → A1 q → A0 q) (hf : ∀ q, free q → A0 q) (hAX : ∀ q, q < H.size → AX q → A0 q)
    (kx : ∀ (E : String) (ce : Cell) (q9 : Addr) (u : SX) (t : State) (H1 : Heap) (locs1 : List Loc), t.heap = H1 → s.vm.Alike t.vm → px u → BX E u t → H.size ≤ H1.size → (∀ q : Nat, q < H.size → ¬ AX q → H1[q]? = H[q]?) → va_S A0 H0 H1 locs1 → H1[q9]? = some ce → ce.vm = .none → s.vm.findClass E = some ce.cls → vx_W p l e R s m args below meth c H1 locs1 (cells + mc) (slots + ms) Q (F0 m pc ls rest) q9)
    (kk : ∀ (r : Int64) (u : S) (t : State) (H1 : Heap) (locs1 : List Loc), t.heap = H1 → s.vm.Alike t.vm → post r u → B u t → H.size ≤ H1.size → (∀ q : Nat, q < H.size → ¬ A1 q → H1[q]? = H[q]?) → va_S A0 H0 H1 locs1 → W p l e R s m args below meth c H1 locs1 (cells + mc) (slots + ms) Q (F0 m (pc + 3) ls (.long r :: rest))) : W p l e R s m args below meth c H locs cells slots Q (F0 m pc ls st0) := by
  intro T hT X
  rcases hr T hT X with ⟨v, st₀, t, T', L, h0, X', hL, e1, e2, ⟨⟨r, u, hv, hp, hb⟩, hF⟩, st⟩ | ⟨q, st₀, t, T', L, E, ce, h0, X', hL, e1, e2, ⟨u, hp, hb, hF⟩, hce, hcv, hcl, st⟩
  · cases hv
    obtain ⟨k1, k2, k3⟩ := vx_keep h0 e1 hS hA hf hL hF
    obtain ⟨t2, a1, b1⟩ := kk r u t T'.heap (locs ++ L) e1.symm (by rw [← e2]; exact X'.warmed.alike) hp hb k1 k2 k3 T' rfl X'
    exact ⟨t2, st t2 a1, b1⟩
  · obtain ⟨k1, k2, k3⟩ := vx_keep h0 e1 hS hAX hf hL hF
    obtain ⟨t2, a1, b1⟩ := kx E ce q u t T'.heap (locs ++ L) e1.symm (by rw [← e2]; exact X'.warmed.alike) hp hb k1 k2 k3 (by rw [e1]; exact hce) hcv hcl T' rfl X'
    exact ⟨t2, st.trans a1, b1⟩
theorem vx_callf {S SX : Type} {post : UInt32 → S → Prop} {px : SX → Prop} {B : S → State → Prop} {BX : String → SX → State → Prop} {AX : Nat → Prop} (hr : vx_Run p l e R s m args below meth c H locs cells slots mc ms (F0 m pc ls st0) rest (va_Qf post B A1 a) (vx_X px BX AX) free) (hS : va_S A0 H0 H locs) (hA : ∀ q, q < H.size → A1 q → A0 q) (hf : ∀ q, free q → A0 q) (hAX : ∀ q, q < H.size → AX q → A0 q)
    (kx : ∀ (E : String) (ce : Cell) (q9 : Addr) (u : SX) (t : State) (H1 : Heap) (locs1 : List Loc), t.heap = H1 → s.vm.Alike t.vm → px u → BX E u t → H.size ≤ H1.size → (∀ q : Nat, q < H.size → ¬ AX q → H1[q]? = H[q]?) → va_S A0 H0 H1 locs1 → H1[q9]? = some ce → ce.vm = .none → s.vm.findClass E = some ce.cls → vx_W p l e R s m args below meth c H1 locs1 (cells + mc) (slots + ms) Q (F0 m pc ls rest) q9)
    (kk : ∀ (r : UInt32) (u : S) (t : State) (H1 : Heap) (locs1 : List Loc), t.heap = H1 → s.vm.Alike t.vm → post r u → B u t → H.size ≤ H1.size → (∀ q : Nat, q < H.size → ¬ A1 q → H1[q]? = H[q]?) → va_S A0 H0 H1 locs1 → W p l e R s m args below meth c H1 locs1 (cells + mc) (slots + ms) Q (F0 m (pc + 3) ls (.float r :: rest))) : W p l e R s m args below meth c H locs cells slots Q (F0 m pc ls st0) := by
  intro T hT X
  rcases hr T hT X with ⟨v, st₀, t, T', L, h0, X', hL, e1, e2, ⟨⟨r, u, hv, hp, hb⟩, hF⟩, st⟩ | ⟨q, st₀, t, T', L, E, ce, h0, X', hL, e1, e2, ⟨u, hp, hb, hF⟩, hce, hcv, hcl, st⟩
  · cases hv
    obtain ⟨k1, k2, k3⟩ := vx_keep h0 e1 hS hA hf hL hF
    obtain ⟨t2, a1, b1⟩ := kk r u t T'.heap (locs ++ L) e1.symm (by rw [← e2]; exact X'.warmed.alike) hp hb k1 k2 k3 T' rfl X'
    exact ⟨t2, st t2 a1, b1⟩
  · obtain ⟨k1, k2, k3⟩ := vx_keep h0 e1 hS hAX hf hL hF
    obtain ⟨t2, a1, b1⟩ := kx E ce q u t T'.heap (locs ++ L) e1.symm (by rw [← e2]; exact X'.warmed.alike) hp hb k1 k2 k3 (by rw [e1]; exact hce) hcv hcl T' rfl X'
    exact ⟨t2, st.trans a1, b1⟩
theorem vx_calld {S SX : Type} {post : UInt64 → S → Prop} {px : SX → Prop} {B : S → State → Prop} {BX : String → SX → State → Prop} {AX : Nat → Prop} (hr : vx_Run p l e R s m args below meth c H locs cells slots mc ms (F0 m pc ls st0) rest (va_Qd post B A1 a) (vx_X px BX AX) free) (hS : va_S A0 H0 H locs) (hA : ∀ q, q < H.size → A1 q → A0 q) (hf : ∀ q, free q → A0 q) (hAX : ∀ q, q < H.size → AX q → A0 q)
    (kx : ∀ (E : String) (ce : Cell) (q9 : Addr) (u : SX) (t : State) (H1 : Heap) (locs1 : List Loc), t.heap = H1 → s.vm.Alike t.vm → px u → BX E u t → H.size ≤ H1.size → (∀ q : Nat, q < H.size → ¬ AX q → H1[q]? = H[q]?) → va_S A0 H0 H1 locs1 → H1[q9]? = some ce → ce.vm = .none → s.vm.findClass E = some ce.cls → vx_W p l e R s m args below meth c H1 locs1 (cells + mc) (slots + ms) Q (F0 m pc ls rest) q9)
    (kk : ∀ (r : UInt64) (u : S) (t : State) (H1 : Heap) (locs1 : List Loc), t.heap = H1 → s.vm.Alike t.vm → post r u → B u t → H.size ≤ H1.size → (∀ q : Nat, q < H.size → ¬ A1 q → H1[q]? = H[q]?) → va_S A0 H0 H1 locs1 → W p l e R s m args below meth c H1 locs1 (cells + mc) (slots + ms) Q (F0 m (pc + 3) ls (.double r :: rest))) : W p l e R s m args below meth c H locs cells slots Q (F0 m pc ls st0) := by
  intro T hT X
  rcases hr T hT X with ⟨v, st₀, t, T', L, h0, X', hL, e1, e2, ⟨⟨r, u, hv, hp, hb⟩, hF⟩, st⟩ | ⟨q, st₀, t, T', L, E, ce, h0, X', hL, e1, e2, ⟨u, hp, hb, hF⟩, hce, hcv, hcl, st⟩
  · cases hv
    obtain ⟨k1, k2, k3⟩ := vx_keep h0 e1 hS hA hf hL hF
    obtain ⟨t2, a1, b1⟩ := kk r u t T'.heap (locs ++ L) e1.symm (by rw [← e2]; exact X'.warmed.alike) hp hb k1 k2 k3 T' rfl X'
    exact ⟨t2, st t2 a1, b1⟩
  · obtain ⟨k1, k2, k3⟩ := vx_keep h0 e1 hS hAX hf hL hF
    obtain ⟨t2, a1, b1⟩ := kx E ce q u t T'.heap (locs ++ L) e1.symm (by rw [← e2]; exact X'.warmed.alike) hp hb k1 k2 k3 (by rw [e1]; exact hce) hcv hcl T' rfl X'
    exact ⟨t2, st.trans a1, b1⟩
theorem vx_callv {S SX : Type} {post : S → Prop} {px : SX → Prop} {B : S → State → Prop} {BX : String → SX → State → Prop} {AX : Nat → Prop} (hr : vx_Run p l e R s m args below meth c H locs cells slots mc ms (F0 m pc ls st0) rest (va_Qv post B A1 a) (vx_X px BX AX) free) (hS : va_S A0 H0 H locs) (hA : ∀ q, q < H.size → A1 q → A0 q) (hf : ∀ q, free q → A0 q) (hAX : ∀ q, q < H.size → AX q → A0 q)
    (kx : ∀ (E : String) (ce : Cell) (q9 : Addr) (u : SX) (t : State) (H1 : Heap) (locs1 : List Loc), t.heap = H1 → s.vm.Alike t.vm → px u → BX E u t → H.size ≤ H1.size → (∀ q : Nat, q < H.size → ¬ AX q → H1[q]? = H[q]?) → va_S A0 H0 H1 locs1 → H1[q9]? = some ce → ce.vm = .none → s.vm.findClass E = some ce.cls → vx_W p l e R s m args below meth c H1 locs1 (cells + mc) (slots + ms) Q (F0 m pc ls rest) q9)
    (kk : ∀ (u : S) (t : State) (H1 : Heap) (locs1 : List Loc), t.heap = H1 → s.vm.Alike t.vm → post u → B u t → H.size ≤ H1.size → (∀ q : Nat, q < H.size → ¬ A1 q → H1[q]? = H[q]?) → va_S A0 H0 H1 locs1 → W p l e R s m args below meth c H1 locs1 (cells + mc) (slots + ms) Q (F0 m (pc + 3) ls (rest))) : W p l e R s m args below meth c H locs cells slots Q (F0 m pc ls st0) := by
  intro T hT X
  rcases hr T hT X with ⟨v, st₀, t, T', L, h0, X', hL, e1, e2, ⟨⟨u, hv, hp, hb⟩, hF⟩, st⟩ | ⟨q, st₀, t, T', L, E, ce, h0, X', hL, e1, e2, ⟨u, hp, hb, hF⟩, hce, hcv, hcl, st⟩
  · cases hv
    obtain ⟨k1, k2, k3⟩ := vx_keep h0 e1 hS hA hf hL hF
    obtain ⟨t2, a1, b1⟩ := kk u t T'.heap (locs ++ L) e1.symm (by rw [← e2]; exact X'.warmed.alike) hp hb k1 k2 k3 T' rfl X'
    exact ⟨t2, st t2 a1, b1⟩
  · obtain ⟨k1, k2, k3⟩ := vx_keep h0 e1 hS hAX hf hL hF
    obtain ⟨t2, a1, b1⟩ := kx E ce q u t T'.heap (locs ++ L) e1.symm (by rw [← e2]; exact X'.warmed.alike) hp hb k1 k2 k3 (by rw [e1]; exact hce) hcv hcl T' rfl X'
    exact ⟨t2, st.trans a1, b1⟩
end Rows
section Ends
variable {p : Program} {l : Launch} {e : Env} {R : Room} {s : State} {m : MethodId} {args : Array Value} {below : List Frame} {meth : Method} {c : Code} {H : Heap} {locs : List Loc} {cells slots : Nat} {Q : State → Prop}
variable {mc ms : Nat} {free : Addr → Prop} {A0 A1 : Nat → Prop} {H0 : Heap} {a : Array Value} {ls : Array Slot} {st0 rest : List Value}
variable {Qc : Array Value → State → Outcome → State → Prop} {XC : String → State → State → Prop}
/-- what a body that may throw owes at its end -/
def vx_MQ (below : List Frame) (Qc : Array Value → State → Outcome → State → Prop) (XC : String → State → State → Prop) (a : Array Value) (s : State) (mc ms : Nat) (free : Addr → Prop) : State → Prop := fun t =>
  ∃ o, t.status = .running ∧ Ended t below o ∧ vx_Q Qc XC mc ms free a s o t
theorem vx_ret {g : JFrame} {mc ms : Nat} (k : W p l e R s m args below meth c H locs cells slots (MQ below Qc args s mc ms free) g) : W p l e R s m args below meth c H locs cells slots (vx_MQ below Qc XC args s mc ms free) g := by
  intro T hT X
  obtain ⟨t, a1, o, b1, b2, b3, b4⟩ := k T hT X
  exact ⟨t, a1, o, b1, b2, Or.inl ⟨b3, b4⟩⟩
/-- not caught here: it goes on to the caller -/
theorem vx_widen {g : JFrame} {q : Addr} {k n : Nat} (h1 : cells ≤ k) (h2 : slots ≤ n) (kk : vx_W p l e R s m args below meth c H locs k n Q g q) : vx_W p l e R s m args below meth c H locs cells slots Q g q := fun T hT X => kk T hT (stand_widen X h1 h2)
theorem vx_out {pc : Nat} {E : String} {ce : Cell} {q : Addr} {mc ms : Nat} (hout : ∀ x ∈ c.exceptionTable.toList, covers x pc = false) (hlocks : meth.locks = false) (hcell : H[q]? = some ce) (hv : ce.vm = .none) (hcl : s.vm.findClass E = some ce.cls)
    (hx : ∀ t : State, t.heap = H → s.vm.Alike t.vm → XC E s t) (hf : ∀ z ∈ locs, free z.base) (hc : cells ≤ mc) (hs : slots ≤ ms) :
    vx_W p l e R s m args below meth c H locs cells slots (vx_MQ below Qc XC args s mc ms free) (F0 m pc ls rest) q := by
  intro T hT X
  obtain ⟨st1, hrun, hend, hW, hsm⟩ := X.leaveThrown q (g := F0 m pc ls rest) rfl rfl rfl hout hlocks
  have hcell9 : (T.setFrames (.throwing q :: below)).heap[q]? = some ce := by
    show T.heap[q]? = some ce
    rw [hT]; exact hcell
  exact ⟨_, st1, .threw q, hrun, hend, Or.inr ⟨q, rfl, E, ce, locs, hx _ hT hW.alike, hcell9, hv, hcl, hW, hsm.mono hc hs, hf⟩⟩
theorem vx_frame {U : State} {k n : Nat} (h : s.sameButNew ({ U with vm := s.vm } : State) locs k n) : s.heap.size ≤ U.heap.size ∧ ∀ q : Nat, q < s.heap.size → (∀ z ∈ locs, z.base ≠ q) → U.heap[q]? = s.heap[q]? := by
  obtain ⟨-, h2, -, -, -, h6⟩ := h
  refine ⟨h2, fun q hq hz => ?_⟩
  obtain ⟨c9, e1, e2, e3, e4⟩ := h6 q _ (Array.getElem?_eq_getElem hq)
  have hs : c9.slots = (s.heap[q]).slots := Array.ext_getElem? fun i => e4 i fun hm => hz _ hm rfl
  have h9 : c9 = s.heap[q] := by
    rw [hs] at e2
    exact e2
  have e5 : U.heap[q]? = some c9 := e1
  rw [e5, h9, Array.getElem?_eq_getElem hq]
/-- the words of a throw but the four that speak of the heap -/
def vx_no (w : Cond) : Bool := decide (w ≠ .isRef (.static Bundle.tN "UNASSIGNED_STACK" Bundle.steD)) && decide (w ≠ .isRef (.static Bundle.tN "SUPPRESSED_SENTINEL" Bundle.listD)) && decide (w ≠ .laysStatic Bundle.tN "UNASSIGNED_STACK" Bundle.steD) && decide (w ≠ .laysStatic Bundle.tN "SUPPRESSED_SENTINEL" Bundle.listD)
def vx_at0 (own : String) (ic : Nat) (X : String) (names : List String) : List Cond := (Bundle.ownAtoms0 own ic X names).filter vx_no
def vx_atS (own : String) (ic : Nat) (X : String) (names : List String) : List Cond := (Bundle.ownAtoms own ic X names).filter vx_no
/-- a word that the tables alone decide, or a good one -/
def vx_ot (w : Cond) : Bool := w.onTables || goodWord w
theorem vx_ot_at {args a' : Array Value} {s U : State} {w : Cond} (hW : s.WarmedH U.vm) (hvm : s.vm = U.vm) (hg : vx_ot w = true) (h : w.before args s = true) : w.before a' U = true := by
  simp only [vx_ot, Bool.or_eq_true] at hg
  rcases hg with hg | hg
  · exact va_tabs hg hvm h
  · exact word_at hW (good_of_word hg) h
/-- a list's words: the good ones out of the method's own list, the others by premises of their own -/
theorem vx_hat {args : Array Value} {s : State} {L B : List Cond} (h1 : ∀ w ∈ L.filter goodWord, w.before args s = true) (h2 : ∀ w ∈ L.filter (fun w => !goodWord w), w ∈ B) (h3 : ∀ w ∈ B, w.before args s = true) : ∀ w ∈ L, w.before args s = true := by
  intro w hw
  by_cases g : goodWord w = true
  · exact h1 w (List.mem_filter.mpr ⟨hw, g⟩)
  · refine h3 w (h2 w (List.mem_filter.mpr ⟨hw, ?_⟩))
    show (!goodWord w) = true
    cases hgw : goodWord w
    · rfl
    · exact absurd hgw g
theorem vx_c {args : Array Value} {s : State} {w : Cond} {B : List Cond} (h : w.before args s = true) (t : ∀ w ∈ B, w.before args s = true) : ∀ w' ∈ w :: B, w'.before args s = true := fun w' h' => (List.mem_cons.mp h').elim (fun e => by rw [e]; exact h) (t w')
theorem vx_n {args : Array Value} {s : State} : ∀ w ∈ ([] : List Cond), w.before args s = true := fun _ h => nomatch h
theorem vx_own {args : Array Value} {s : State} {L : List Cond} (h1 : ∀ w ∈ L.filter vx_no, w.before args s = true)
    (hU : (Cond.isRef (.static Bundle.tN "UNASSIGNED_STACK" Bundle.steD)).before args s = true) (hN : (Cond.isRef (.static Bundle.tN "SUPPRESSED_SENTINEL" Bundle.listD)).before args s = true)
    (lU : (Cond.laysStatic Bundle.tN "UNASSIGNED_STACK" Bundle.steD).before args s = true) (lN : (Cond.laysStatic Bundle.tN "SUPPRESSED_SENTINEL" Bundle.listD).before args s = true) : ∀ w ∈ L, w.before args s = true := by
  intro w hw
  by_cases e1 : w = .isRef (.static Bundle.tN "UNASSIGNED_STACK" Bundle.steD)
  · rw [e1]; exact hU
  · by_cases e2 : w = .isRef (.static Bundle.tN "SUPPRESSED_SENTINEL" Bundle.listD)
    · rw [e2]; exact hN
    · by_cases e3 : w = .laysStatic Bundle.tN "UNASSIGNED_STACK" Bundle.steD
      · rw [e3]; exact lU
      · by_cases e4 : w = .laysStatic Bundle.tN "SUPPRESSED_SENTINEL" Bundle.listD
        · rw [e4]; exact lN
        · exact h1 w (List.mem_filter.mpr ⟨hw, by unfold vx_no; rw [decide_eq_true e1, decide_eq_true e2, decide_eq_true e3, decide_eq_true e4]; rfl⟩)
/-- where a static field lies, its class's statics cell in H -/
def vx_L (C n d : String) (A : Nat → Prop) (U : State) (H : Heap) : Prop := ∃ (c : ClassId) (k : Class) (i : Nat) (f : Field) (a : Nat) (cell : Cell), U.vm.findClass C = some c ∧ U.fieldFound? C n d = some (c, k, i, f) ∧ f.isStatic = true ∧ k.statics = some a ∧ H[a]? = some cell ∧ cell.vm.isStatics = true ∧ cell.cls = c ∧ f.slot < cell.slots.size ∧ k.staticTypes[f.slot]? = some f.type ∧ ¬ A a
theorem vx_L.moved {C n d : String} {A : Nat → Prop} {u U : State} {H : Heap} (hvm : u.vm.Alike U.vm) (h : vx_L C n d A u H) : vx_L C n d A U H := by
  obtain ⟨c, k, i, f, a, cell, h1, h2, h3, h4, h5, h6, h7, h8, h9, h10⟩ := h
  obtain ⟨k', hi', he⟩ := State.fieldFound?_setVm hvm h2
  exact ⟨c, k', i, f, a, cell, by rw [hvm.findClass]; exact h1, hi', h3, by rw [he]; exact h4, h5, h6, h7, h8, by rw [he]; exact h9, h10⟩
theorem vx_L.kept {C n d : String} {A : Nat → Prop} {U : State} {H H1 : Heap} (h : vx_L C n d A U H) (hq : ∀ a : Nat, a < H.size → ¬ A a → H1[a]? = H[a]?) : vx_L C n d A U H1 := by
  obtain ⟨c, k, i, f, a, cell, h1, h2, h3, h4, h5, h6, h7, h8, h9, h10⟩ := h
  exact ⟨c, k, i, f, a, cell, h1, h2, h3, h4, by rw [hq a (Array.getElem?_eq_some_iff.mp h5).1 h10]; exact h5, h6, h7, h8, h9, h10⟩
theorem vx_L.narrow {C n d : String} {A B : Nat → Prop} {U : State} {H : Heap} (h : vx_L C n d A U H) (hAB : ∀ q, B q → A q) : vx_L C n d B U H := by
  obtain ⟨c, k, i, f, a, cell, h1, h2, h3, h4, h5, h6, h7, h8, h9, h10⟩ := h
  exact ⟨c, k, i, f, a, cell, h1, h2, h3, h4, h5, h6, h7, h8, h9, fun z => h10 (hAB _ z)⟩
theorem vx_L.word {C n d : String} {A : Nat → Prop} {s : State} {args : Array Value} (h : vx_L C n d A s s.heap) : (Cond.laysStatic C n d).before args s = true := by
  obtain ⟨c, k, i, f, a, cell, h1, h2, h3, h4, h5, h6, h7, h8, h9, -⟩ := h
  show (Cond.laysStatic C n d).holds args s none s [] = true
  exact Cond.laysStatic_of h1 h2 h3 h4 h5 h6 h7 h8 h9
/-- .. and what it holds: null or some reference -/
def vx_Zq (C n d : String) (A : Nat → Prop) (U : State) (H : Heap) : Prop := va_Zq C n d A U H ∧ vx_L C n d A U H
theorem vx_Zq.moved {C n d : String} {A : Nat → Prop} {u U : State} {H : Heap} (hvm : u.vm.Alike U.vm) (h : vx_Zq C n d A u H) : vx_Zq C n d A U H := ⟨va_Zq.moved hvm h.1, vx_L.moved hvm h.2⟩
theorem vx_Zq.kept {C n d : String} {A : Nat → Prop} {U : State} {H H1 : Heap} (h : vx_Zq C n d A U H) (hq : ∀ a : Nat, a < H.size → ¬ A a → H1[a]? = H[a]?) : vx_Zq C n d A U H1 := ⟨va_Zq.kept h.1 hq, vx_L.kept h.2 hq⟩
theorem vx_Zq.narrow {C n d : String} {A B : Nat → Prop} {U : State} {H : Heap} (h : vx_Zq C n d A U H) (hAB : ∀ q, B q → A q) : vx_Zq C n d B U H := ⟨va_Zq.narrow h.1 hAB, vx_L.narrow h.2 hAB⟩
theorem vx_Zqof {args : Array Value} {s : State} {C n d : String} {A : Nat → Prop} (hl : (Cond.laysStatic C n d).before args s = true) (hini : (Cond.initialized C).before args s = true) (h : (Cond.isRef (.static C n d)).before args s = true) (hA : ∀ a : Nat, a < s.heap.size → ¬ A a) : vx_Zq C n d A s s.heap := by
  refine ⟨va_Zqof hl hini h hA, ?_⟩
  obtain ⟨c, k, i, f, a, cell, h1, h2, h3, h4, h5, h6, h7, h8, h9⟩ := Cond.laysStatic_spec hl
  exact ⟨c, k, i, f, a, cell, h1, h2, h3, h4, h5, h6, h7, h8, h9, hA a (Array.getElem?_eq_some_iff.mp h5).1⟩
theorem vx_isRef {C n d : String} {v : Value} {A : Nat → Prop} {s : State} {args : Array Value} (h : va_Z C n d v A s s.heap) (hv : v.isRef = true) : (Cond.isRef (.static C n d)).before args s = true := by
  obtain ⟨cf, kf, fi, f, a, cell, h1, h2, h3, h4, h5, h6, h7, -⟩ := h
  have he : (Term.static C n d).eval args s none [] s = some v := by
    simp [Term.eval, State.fieldNamed?, h1, h2, h4, h5, h6, h7]
  simp only [Cond.before, Cond.holds, Cond.value, he]
  cases v <;> simp_all [Value.isRef]
theorem vx_isRefq {C n d : String} {A : Nat → Prop} {s : State} {args : Array Value} (h : va_Zq C n d A s s.heap) : (Cond.isRef (.static C n d)).before args s = true := by
  rcases h with h | ⟨t, h⟩
  · exact vx_isRef h rfl
  · exact vx_isRef h rfl
/-- the same frame, seen from here: as if the method were called anew in this heap -/
theorem vx_rebase {T : State} (X : Stand p l e R s m args below meth c T locs cells slots) {R' : Room} (hf : R'.frames ≤ R.frames) (hl : R'.locals ≤ R.locals) (hc : cells + R'.cells ≤ R.cells) (hs : slots + R'.slots ≤ R.slots) :
    Stand p l e R' ((T.setVm s.vm).setFrames (.invoking m args :: below)) m args below meth c T [] 0 0 := by
  have htop : (T.setVm s.vm).topJava?.isSome := X.here.top
  have hF : ((T.setVm s.vm).setFrames (.invoking m args :: below)).frames = .invoking m args :: below := State.frames_setFrames _ (State.cur_lt_of_top htop)
  obtain ⟨g₀, hg0⟩ := Option.isSome_iff_exists.mp htop
  obtain ⟨r, hr⟩ := State.topJava?_eq_some.mp hg0
  have hl9 : e.platform.stackLimits (T.setVm s.vm).me = e.platform.stackLimits s.me := X.limits
  have hb9 : (T.setVm s.vm).me.stackBytes = s.me.stackBytes := X.bytes
  refine ⟨X.admits, X.cas, X.clock, hF, ?_, X.hears, X.method, X.code, X.here, X.tail, X.warmed, ?_, ?_, ?_⟩
  · have h := X.room
    have hU : ((T.setVm s.vm).setFrames (.invoking m args :: below)).localsInUse = s.localsInUse := by
      rw [State.localsInUse_invoking hF (meth := meth) (c := c) X.method X.code, State.localsInUse_invoking X.frames X.method X.code]
    simp only [State.hasRoom, Bool.and_eq_true, decide_eq_true_eq] at h ⊢
    obtain ⟨⟨⟨⟨h1, h2, h3, h4, h5, h6⟩, h7⟩, h8⟩, h9⟩ := h
    rw [X.frames, List.length_cons] at h2 h3
    have q1 := X.heapSize
    have q2 := X.used
    simp only [hF, hU, List.length_cons, State.stackLimits_setFrames, State.stackBytes_setFrames, hl9, hb9]
    refine ⟨⟨⟨⟨by omega, by omega, by omega, by omega, by omega, h6⟩, ?_⟩, ?_⟩, X.book⟩
    · show T.heap.size + R'.cells ≤ e.platform.maxCells
      omega
    · show T.slotsUsed + R'.slots ≤ e.platform.maxSlots
      omega
  · rw [State.stackLimits_setFrames]; rfl
  · rw [State.stackBytes_setFrames]; rfl
  · refine ⟨?_, Nat.le_refl _, Nat.le_refl _, ?_, ?_, fun a c9 h9 => ⟨c9, h9, rfl, rfl, fun _ _ => rfl⟩⟩
    · obtain ⟨t, ht, -⟩ := State.frames_cons hr
      show T.setVm s.vm = { ((T.setVm s.vm).setFrames (.invoking m args :: below)).setFrames (T.setVm s.vm).frames with heap := T.heap, slotsUsed := T.slotsUsed }
      rw [State.setFrames_setFrames, State.setFrames_self ht]
      rfl
    · show T.slotsUsed = T.slotsUsed + ((T.heap.toList.drop T.heap.size).map (·.slots.size)).sum
      rw [List.drop_eq_nil_of_le (Nat.le_of_eq Array.length_toList)]
      rfl
    · show ((T.heap.toList.drop T.heap.size).map (·.slots.size)).sum ≤ 0
      rw [List.drop_eq_nil_of_le (Nat.le_of_eq Array.length_toList)]
      exact Nat.le_refl _
/-- 'throw new E()': new; dup; invokespecial; athrow -/
theorem vx_throw0 {cc : ByteArray} {pc : Nat} (hexec : p.tables.exec = Jvm.exec) (hb : c.code = cc) (hl : l.stackTraces = false) {own cls : String} {names : List String} {ik ic mc ms : Nat} {A : Nat → Prop}
    (hown : s.vm.findClass own = some m.cls) (hcls : Bundle.fit cls = true) (hnames : ∀ n ∈ names, Bundle.fit n = true)
    (hk : (Cond.classLink own ik cls).before args s = true) (hini : (Cond.initialized cls).before args s = true) (hat : ∀ w ∈ vx_at0 own ic cls names, w.before args s = true)
    (hgood : ∀ w ∈ Cond.classLink own ik cls :: Cond.initialized cls :: vx_at0 own ic cls names, vx_ot w = true)
    (hU : vx_Zq Bundle.tN "UNASSIGNED_STACK" Bundle.steD A s s.heap) (hN : vx_Zq Bundle.tN "SUPPRESSED_SENTINEL" Bundle.listD A s s.heap) (hS : va_S A s.heap H locs) (hsize : ls.size = c.maxLocals)
    (d0 : decode cc pc = .ok (.new ik, 3)) (d3 : decode cc (pc + 3) = .ok (.dup, 1)) (d4 : decode cc (pc + 4) = .ok (.invokespecial ic, 3)) (d7 : decode cc (pc + 7) = .ok (.athrow, 1))
    (hout : ∀ x ∈ c.exceptionTable.toList, covers x (pc + 7) = false)
    (hRframes : names.length + 3 < R.frames) (hRlocals : (rest.map fun v => v.category).sum + (13 * (names.length + 1) + 42) ≤ R.locals) (hRcells : cells + 1 ≤ R.cells) (hRslots : slots + 6 ≤ R.slots) (hlocks : meth.locks = false)
    (hx : ∀ t : State, s.vm.Alike t.vm → H.size ≤ t.heap.size → (∀ q : Nat, q < H.size → t.heap[q]? = H[q]?) → XC cls s t)
    (hf : ∀ z ∈ locs, free z.base) (hc : cells + 1 ≤ mc) (hs : slots + 6 ≤ ms) :
    W p l e R s m args below meth c H locs cells slots (vx_MQ below Qc XC args s mc ms free) (F0 m pc ls rest) := by
  intro T hT X
  have htr : e.platform.stackTraces = false := (show e.platform.stackTraces = l.stackTraces by rw [X.admits.platform]).trans hl
  have Y := vx_rebase X (R' := { frames := R.frames, locals := R.locals, cells := 1, slots := 6 }) (Nat.le_refl _) (Nat.le_refl _) hRcells hRslots
  obtain ⟨s', hA⟩ : ∃ z, z = (T.setVm s.vm).setFrames (.invoking m args :: below) := ⟨_, rfl⟩
  rw [← hA] at Y
  have hvm : s'.vm = s.vm := by rw [hA]; rfl
  have hhp : s'.heap = H := by rw [hA]; exact hT
  have hW0 : s.WarmedH s'.vm := by rw [hvm]; exact State.WarmedH.refl s
  have hat' : ∀ w ∈ vx_at0 own ic cls names, w.before args s' = true := fun w hw => vx_ot_at hW0 hvm.symm (hgood w (List.mem_cons_of_mem _ (List.mem_cons_of_mem _ hw))) (hat w hw)
  have hk' : (Cond.classLink own ik cls).before args s' = true := vx_ot_at hW0 hvm.symm (hgood _ List.mem_cons_self) hk
  have hini' : (Cond.initialized cls).before args s' = true := vx_ot_at hW0 hvm.symm (hgood _ (List.mem_cons_of_mem _ List.mem_cons_self)) hini
  have hU' : vx_Zq Bundle.tN "UNASSIGNED_STACK" Bundle.steD A s' s'.heap := by rw [hhp]; exact vx_Zq.moved hW0.alike (hU.kept hS.2.1)
  have hN' : vx_Zq Bundle.tN "SUPPRESSED_SENTINEL" Bundle.listD A s' s'.heap := by rw [hhp]; exact vx_Zq.moved hW0.alike (hN.kept hS.2.1)
  have h : ∀ w ∈ Bundle.ownAtoms0 own ic cls names, w.before args s' = true := vx_own hat' (vx_isRefq hU'.1) (vx_isRefq hN'.1) hU'.2.word hN'.2.word
  have hown' : s'.vm.findClass own = some m.cls := by rw [hvm]; exact hown
  have hins : (Cond.instantiable cls 6).before args s' = true := h _ (by simp [Bundle.ownAtoms0])
  obtain ⟨vm₁, cX, kX, hfX, hkX, -, -, X₁, st1⟩ := Y.newCold hexec (own := own) (C := cls) (index := ik) (n := 6) hown' hk' hins hini'
    (g := F0 m pc ls rest) rfl (by rw [hb]; exact d0) (Nat.le_refl _) (Nat.le_refl _)
  generalize hT1 : (T.setVm vm₁).pushCell { cls := cX, slots := kX.instanceTypes.map defaultValue, vm := .none } = T1 at X₁ st1
  have hcat : (Value.ref T.heap.size).category = 1 := rfl
  have hcellA : T1.heap[T.heap.size]? = some (freshCell cX kX) := by rw [← hT1]; exact State.heap_pushCell_size _ _
  have d3' : decode c.code (pc + 3) = .ok (.dup, 1) := by rw [hb]; exact d3
  obtain ⟨U, hsteps, hrun, hend, hW, hsame, ce, hce, hO⟩ := X₁.ctorThrow0 hexec htr (own := own) (cls := cls) (names := names) (ic := ic) hown' hcls hnames h (fun x hx => nomatch hx) hfX hkX hcellA (by rw [hhp, hT]; exact Nat.le_refl _)
    (g := { method := m, pc := pc + 4, locals := ls, stack := .ref T.heap.size :: .ref T.heap.size :: rest, locked := none }) rfl hsize rfl rfl (rest := rest) rfl
    (by rw [hb]; exact d4) (by rw [hb]; exact d7) hout hRframes (by simp only [List.map_cons, List.sum_cons, hcat]; omega) hlocks
  obtain ⟨f1, f2⟩ := vx_frame hsame
  rw [hhp] at f1 f2
  have hWs : s.WarmedH U.vm := State.WarmedH.trans hW0 hW
  have hcl : s.vm.findClass cls = some ce.cls := by
    have h9 := hO.cls
    rw [hvm] at h9
    exact h9
  have hall : s.sameButNew ({ U with vm := s.vm } : State) locs mc ms := by
    subst hA
    obtain ⟨e1, e2⟩ := hsame
    rw [State.setFrames_setFrames] at e1
    have h2 : (T.setVm s.vm).sameButNew ({ U with vm := s.vm } : State) [] (0 + 1) (0 + 6) := ⟨e1, e2⟩
    have h3 := X.same.trans h2
    rw [List.append_nil] at h3
    exact h3.mono hc hs
  refine ⟨U, ?_, .threw T.heap.size, hrun, hend, Or.inr ⟨T.heap.size, rfl, cls, ce, locs, hx U hWs.alike f1 (fun q hq => f2 q hq (fun z hz => nomatch hz)), hce, hO.vm, hcl, hWs, hall, hf⟩⟩
  refine st1 _ ?_
  show Steps p.tables e below (T1.setTop { method := m, pc := pc + 3, locals := ls, stack := .ref T.heap.size :: rest, locked := none }) _
  jvm_step X₁.here [X₁.here.top, hexec, d3', Value.category]
  exact hsteps
/-- 'throw new E("text")': new; dup; ldc; invokespecial; athrow -/
theorem vx_throwS {cc : ByteArray} {pc : Nat} (hexec : p.tables.exec = Jvm.exec) (hb : c.code = cc) (hl : l.stackTraces = false) {own cls text : String} {names : List String} {ik is ic mc ms sa : Nat} {A : Nat → Prop}
    (hown : s.vm.findClass own = some m.cls) (hcls : Bundle.fit cls = true) (hnames : ∀ n ∈ names, Bundle.fit n = true)
    (hk : (Cond.classLink own ik cls).before args s = true) (hini : (Cond.initialized cls).before args s = true) (hstr : vk_R own is text sa s) (hat : ∀ w ∈ vx_atS own ic cls names, w.before args s = true)
    (hgood : ∀ w ∈ Cond.classLink own ik cls :: Cond.initialized cls :: vx_atS own ic cls names, vx_ot w = true)
    (hU : vx_Zq Bundle.tN "UNASSIGNED_STACK" Bundle.steD A s s.heap) (hN : vx_Zq Bundle.tN "SUPPRESSED_SENTINEL" Bundle.listD A s s.heap) (hS : va_S A s.heap H locs) (hsize : ls.size = c.maxLocals)
    (d0 : decode cc pc = .ok (.new ik, 3)) (d3 : decode cc (pc + 3) = .ok (.dup, 1)) (d4 : decode cc (pc + 4) = .ok (.ldc is, 2)) (d6 : decode cc (pc + 6) = .ok (.invokespecial ic, 3)) (d9 : decode cc (pc + 9) = .ok (.athrow, 1))
    (hout : ∀ x ∈ c.exceptionTable.toList, covers x (pc + 9) = false)
    (hRframes : names.length + 3 < R.frames) (hRlocals : (rest.map fun v => v.category).sum + (13 * (names.length + 1) + 43) ≤ R.locals) (hRcells : cells + 1 ≤ R.cells) (hRslots : slots + 6 ≤ R.slots) (hlocks : meth.locks = false)
    (hx : ∀ t : State, s.vm.Alike t.vm → H.size ≤ t.heap.size → (∀ q : Nat, q < H.size → t.heap[q]? = H[q]?) → XC cls s t)
    (hf : ∀ z ∈ locs, free z.base) (hc : cells + 1 ≤ mc) (hs : slots + 6 ≤ ms) :
    W p l e R s m args below meth c H locs cells slots (vx_MQ below Qc XC args s mc ms free) (F0 m pc ls rest) := by
  intro T hT X
  have htr : e.platform.stackTraces = false := (show e.platform.stackTraces = l.stackTraces by rw [X.admits.platform]).trans hl
  have Y := vx_rebase X (R' := { frames := R.frames, locals := R.locals, cells := 1, slots := 6 }) (Nat.le_refl _) (Nat.le_refl _) hRcells hRslots
  obtain ⟨s', hA⟩ : ∃ z, z = (T.setVm s.vm).setFrames (.invoking m args :: below) := ⟨_, rfl⟩
  rw [← hA] at Y
  have hvm : s'.vm = s.vm := by rw [hA]; rfl
  have hhp : s'.heap = H := by rw [hA]; exact hT
  have hW0 : s.WarmedH s'.vm := by rw [hvm]; exact State.WarmedH.refl s
  have hat' : ∀ w ∈ vx_atS own ic cls names, w.before args s' = true := fun w hw => vx_ot_at hW0 hvm.symm (hgood w (List.mem_cons_of_mem _ (List.mem_cons_of_mem _ hw))) (hat w hw)
  have hk' : (Cond.classLink own ik cls).before args s' = true := vx_ot_at hW0 hvm.symm (hgood _ List.mem_cons_self) hk
  have hini' : (Cond.initialized cls).before args s' = true := vx_ot_at hW0 hvm.symm (hgood _ (List.mem_cons_of_mem _ List.mem_cons_self)) hini
  have hU' : vx_Zq Bundle.tN "UNASSIGNED_STACK" Bundle.steD A s' s'.heap := by rw [hhp]; exact vx_Zq.moved hW0.alike (hU.kept hS.2.1)
  have hN' : vx_Zq Bundle.tN "SUPPRESSED_SENTINEL" Bundle.listD A s' s'.heap := by rw [hhp]; exact vx_Zq.moved hW0.alike (hN.kept hS.2.1)
  have h : ∀ w ∈ Bundle.ownAtoms own ic cls names, w.before args s' = true := vx_own hat' (vx_isRefq hU'.1) (vx_isRefq hN'.1) hU'.2.word hN'.2.word
  have hown' : s'.vm.findClass own = some m.cls := by rw [hvm]; exact hown
  have hins : (Cond.instantiable cls 6).before args s' = true := h _ (by simp [Bundle.ownAtoms])
  obtain ⟨vm₁, cX, kX, hfX, hkX, -, -, X₁, st1⟩ := Y.newCold hexec (own := own) (C := cls) (index := ik) (n := 6) hown' hk' hins hini'
    (g := F0 m pc ls rest) rfl (by rw [hb]; exact d0) (Nat.le_refl _) (Nat.le_refl _)
  generalize hT1 : (T.setVm vm₁).pushCell { cls := cX, slots := kX.instanceTypes.map defaultValue, vm := .none } = T1 at X₁ st1
  have hcat : (Value.ref T.heap.size).category = 1 := rfl
  have hcellA : T1.heap[T.heap.size]? = some (freshCell cX kX) := by rw [← hT1]; exact State.heap_pushCell_size _ _
  have d3' : decode c.code (pc + 3) = .ok (.dup, 1) := by rw [hb]; exact d3
  have d4' : decode c.code (pc + 4) = .ok (.ldc is, 2) := by rw [hb]; exact d4
  have hstr' : vk_R own is text sa s' := vk_R.warm hW0 hstr
  obtain ⟨U, hsteps, hrun, hend, hW, hsame, ce, hce, hO⟩ := X₁.ctorThrowS hexec htr (own := own) (cls := cls) (names := names) (ic := ic) hown' hcls hnames h (fun x hx => nomatch hx) hfX hkX hcellA (by rw [hhp, hT]; exact Nat.le_refl _) (msg := .ref sa) rfl
    (g := { method := m, pc := pc + 6, locals := ls, stack := .ref sa :: .ref T.heap.size :: .ref T.heap.size :: rest, locked := none }) rfl hsize rfl rfl (rest := rest) rfl
    (by rw [hb]; exact d6) (by rw [hb]; exact d9) hout hRframes (by simp only [List.map_cons, List.sum_cons, hcat]; omega) hlocks
  obtain ⟨f1, f2⟩ := vx_frame hsame
  rw [hhp] at f1 f2
  have hWs : s.WarmedH U.vm := State.WarmedH.trans hW0 hW
  have hcl : s.vm.findClass cls = some ce.cls := by
    have h9 := hO.cls
    rw [hvm] at h9
    exact h9
  have hall : s.sameButNew ({ U with vm := s.vm } : State) locs mc ms := by
    subst hA
    obtain ⟨e1, e2⟩ := hsame
    rw [State.setFrames_setFrames] at e1
    have h2 : (T.setVm s.vm).sameButNew ({ U with vm := s.vm } : State) [] (0 + 1) (0 + 6) := ⟨e1, e2⟩
    have h3 := X.same.trans h2
    rw [List.append_nil] at h3
    exact h3.mono hc hs
  refine ⟨U, ?_, .threw T.heap.size, hrun, hend, Or.inr ⟨T.heap.size, rfl, cls, ce, locs, hx U hWs.alike f1 (fun q hq => f2 q hq (fun z hz => nomatch hz)), hce, hO.vm, hcl, hWs, hall, hf⟩⟩
  refine st1 _ ?_
  show Steps p.tables e below (T1.setTop { method := m, pc := pc + 3, locals := ls, stack := .ref T.heap.size :: rest, locked := none }) _
  jvm_step X₁.here [X₁.here.top, hexec, d3', Value.category]
  exact X₁.ldcString hexec (own := own) (text := text) (index := is) (a := sa) hown' hstr'.1 hstr'.2
    (g := { method := m, pc := pc + 4, locals := ls, stack := .ref T.heap.size :: .ref T.heap.size :: rest, locked := none }) rfl d4' _ hsteps
/-- 'throw new E("text")', the text by a wide index -/
theorem vx_throwSW {cc : ByteArray} {pc : Nat} (hexec : p.tables.exec = Jvm.exec) (hb : c.code = cc) (hl : l.stackTraces = false) {own cls text : String} {names : List String} {ik is ic mc ms sa : Nat} {A : Nat → Prop}
    (hown : s.vm.findClass own = some m.cls) (hcls : Bundle.fit cls = true) (hnames : ∀ n ∈ names, Bundle.fit n = true)
    (hk : (Cond.classLink own ik cls).before args s = true) (hini : (Cond.initialized cls).before args s = true) (hstr : vk_R own is text sa s) (hat : ∀ w ∈ vx_atS own ic cls names, w.before args s = true)
    (hgood : ∀ w ∈ Cond.classLink own ik cls :: Cond.initialized cls :: vx_atS own ic cls names, vx_ot w = true)
    (hU : vx_Zq Bundle.tN "UNASSIGNED_STACK" Bundle.steD A s s.heap) (hN : vx_Zq Bundle.tN "SUPPRESSED_SENTINEL" Bundle.listD A s s.heap) (hS : va_S A s.heap H locs) (hsize : ls.size = c.maxLocals)
    (d0 : decode cc pc = .ok (.new ik, 3)) (d3 : decode cc (pc + 3) = .ok (.dup, 1)) (d4 : decode cc (pc + 4) = .ok (.ldc_w is, 3)) (d7 : decode cc (pc + 7) = .ok (.invokespecial ic, 3)) (d10 : decode cc (pc + 10) = .ok (.athrow, 1))
    (hout : ∀ x ∈ c.exceptionTable.toList, covers x (pc + 10) = false)
    (hRframes : names.length + 3 < R.frames) (hRlocals : (rest.map fun v => v.category).sum + (13 * (names.length + 1) + 43) ≤ R.locals) (hRcells : cells + 1 ≤ R.cells) (hRslots : slots + 6 ≤ R.slots) (hlocks : meth.locks = false)
    (hx : ∀ t : State, s.vm.Alike t.vm → H.size ≤ t.heap.size → (∀ q : Nat, q < H.size → t.heap[q]? = H[q]?) → XC cls s t)
    (hf : ∀ z ∈ locs, free z.base) (hc : cells + 1 ≤ mc) (hs : slots + 6 ≤ ms) :
    W p l e R s m args below meth c H locs cells slots (vx_MQ below Qc XC args s mc ms free) (F0 m pc ls rest) := by
  intro T hT X
  have htr : e.platform.stackTraces = false := (show e.platform.stackTraces = l.stackTraces by rw [X.admits.platform]).trans hl
  have Y := vx_rebase X (R' := { frames := R.frames, locals := R.locals, cells := 1, slots := 6 }) (Nat.le_refl _) (Nat.le_refl _) hRcells hRslots
  obtain ⟨s', hA⟩ : ∃ z, z = (T.setVm s.vm).setFrames (.invoking m args :: below) := ⟨_, rfl⟩
  rw [← hA] at Y
  have hvm : s'.vm = s.vm := by rw [hA]; rfl
  have hhp : s'.heap = H := by rw [hA]; exact hT
  have hW0 : s.WarmedH s'.vm := by rw [hvm]; exact State.WarmedH.refl s
  have hat' : ∀ w ∈ vx_atS own ic cls names, w.before args s' = true := fun w hw => vx_ot_at hW0 hvm.symm (hgood w (List.mem_cons_of_mem _ (List.mem_cons_of_mem _ hw))) (hat w hw)
  have hk' : (Cond.classLink own ik cls).before args s' = true := vx_ot_at hW0 hvm.symm (hgood _ List.mem_cons_self) hk
  have hini' : (Cond.initialized cls).before args s' = true := vx_ot_at hW0 hvm.symm (hgood _ (List.mem_cons_of_mem _ List.mem_cons_self)) hini
  have hU' : vx_Zq Bundle.tN "UNASSIGNED_STACK" Bundle.steD A s' s'.heap := by rw [hhp]; exact vx_Zq.moved hW0.alike (hU.kept hS.2.1)
  have hN' : vx_Zq Bundle.tN "SUPPRESSED_SENTINEL" Bundle.listD A s' s'.heap := by rw [hhp]; exact vx_Zq.moved hW0.alike (hN.kept hS.2.1)
  have h : ∀ w ∈ Bundle.ownAtoms own ic cls names, w.before args s' = true := vx_own hat' (vx_isRefq hU'.1) (vx_isRefq hN'.1) hU'.2.word hN'.2.word
  have hown' : s'.vm.findClass own = some m.cls := by rw [hvm]; exact hown
  have hins : (Cond.instantiable cls 6).before args s' = true := h _ (by simp [Bundle.ownAtoms])
  obtain ⟨vm₁, cX, kX, hfX, hkX, -, -, X₁, st1⟩ := Y.newCold hexec (own := own) (C := cls) (index := ik) (n := 6) hown' hk' hins hini'
    (g := F0 m pc ls rest) rfl (by rw [hb]; exact d0) (Nat.le_refl _) (Nat.le_refl _)
  generalize hT1 : (T.setVm vm₁).pushCell { cls := cX, slots := kX.instanceTypes.map defaultValue, vm := .none } = T1 at X₁ st1
  have hcat : (Value.ref T.heap.size).category = 1 := rfl
  have hcellA : T1.heap[T.heap.size]? = some (freshCell cX kX) := by rw [← hT1]; exact State.heap_pushCell_size _ _
  have d3' : decode c.code (pc + 3) = .ok (.dup, 1) := by rw [hb]; exact d3
  have d4' : decode c.code (pc + 4) = .ok (.ldc_w is, 3) := by rw [hb]; exact d4
  have hstr' : vk_R own is text sa s' := vk_R.warm hW0 hstr
  obtain ⟨U, hsteps, hrun, hend, hW, hsame, ce, hce, hO⟩ := X₁.ctorThrowS hexec htr (own := own) (cls := cls) (names := names) (ic := ic) hown' hcls hnames h (fun x hx => nomatch hx) hfX hkX hcellA (by rw [hhp, hT]; exact Nat.le_refl _) (msg := .ref sa) rfl
    (g := { method := m, pc := pc + 7, locals := ls, stack := .ref sa :: .ref T.heap.size :: .ref T.heap.size :: rest, locked := none }) rfl hsize rfl rfl (rest := rest) rfl
    (by rw [hb]; exact d7) (by rw [hb]; exact d10) hout hRframes (by simp only [List.map_cons, List.sum_cons, hcat]; omega) hlocks
  obtain ⟨f1, f2⟩ := vx_frame hsame
  rw [hhp] at f1 f2
  have hWs : s.WarmedH U.vm := State.WarmedH.trans hW0 hW
  have hcl : s.vm.findClass cls = some ce.cls := by
    have h9 := hO.cls
    rw [hvm] at h9
    exact h9
  have hall : s.sameButNew ({ U with vm := s.vm } : State) locs mc ms := by
    subst hA
    obtain ⟨e1, e2⟩ := hsame
    rw [State.setFrames_setFrames] at e1
    have h2 : (T.setVm s.vm).sameButNew ({ U with vm := s.vm } : State) [] (0 + 1) (0 + 6) := ⟨e1, e2⟩
    have h3 := X.same.trans h2
    rw [List.append_nil] at h3
    exact h3.mono hc hs
  refine ⟨U, ?_, .threw T.heap.size, hrun, hend, Or.inr ⟨T.heap.size, rfl, cls, ce, locs, hx U hWs.alike f1 (fun q hq => f2 q hq (fun z hz => nomatch hz)), hce, hO.vm, hcl, hWs, hall, hf⟩⟩
  refine st1 _ ?_
  show Steps p.tables e below (T1.setTop { method := m, pc := pc + 3, locals := ls, stack := .ref T.heap.size :: rest, locked := none }) _
  jvm_step X₁.here [X₁.here.top, hexec, d3', Value.category]
  exact X₁.ldcStringW hexec (own := own) (text := text) (index := is) (a := sa) hown' hstr'.1 hstr'.2
    (g := { method := m, pc := pc + 4, locals := ls, stack := .ref T.heap.size :: .ref T.heap.size :: rest, locked := none }) rfl d4' _ hsteps
end Ends
section Bodies
variable {l : Launch}
theorem vx_ofW {y : MethodName} {ws ws' : List Cond} {rm : Room} {Pc : Array Value → State → Prop} {Qc : Array Value → State → Outcome → State → Prop} {XC : String → State → State → Prop} {mc ms : Nat} {free : Addr → Prop} {cc : ByteArray} {maxL : Nat} {ret : Option FieldType}
    (hy : plainName y.cls = true) (hw : ws = Cond.code y cc maxL ret :: ws')
    (body : ∀ p e s m args below meth c s₁, BodyLoose p l y (headSpec ws rm) cc maxL ret e s m args below meth c s₁ → c.maxLocals = maxL → (∀ x ∈ c.exceptionTable.toList, False) → Pc args s →
      W p l e (headSpec ws rm).room s m args below meth c s.heap [] 0 0 (vx_MQ below Qc XC args s mc ms free) (entryFrame m args maxL)) : vx_Met l y ws rm Pc Qc XC mc ms free := by
  refine MetFree.of_bodyS (code := cc) (maxLocals := maxL) (ret := ret) hy ?_ ?_
  · intro args s m h hn
    obtain ⟨meth, c, h1, h2, h3, h4, h5, h6, -, -⟩ := Cond.code_spec hn (atoms_spec (ws := ws) h _ (by rw [hw]; exact List.mem_cons_self))
    exact ⟨meth, c, h1, h2, h3, h4, h5, h6⟩
  · intro p e s m args below meth c s₁ B hml hP _
    have hh0 : s₁.heap = s.heap := by rw [B.state]; rfl
    have ht : ∀ x ∈ c.exceptionTable.toList, False := by
      obtain ⟨meth9, c9, h1, h2, -, -, -, -, h7, -⟩ := Cond.code_spec B.named (atoms_spec (ws := ws) B.pre _ (by rw [hw]; exact List.mem_cons_self))
      cases Option.some.inj (h1.symm.trans B.method)
      cases Option.some.inj (h2.symm.trans (Stand.of_body B).code)
      intro x hx
      rw [Array.isEmpty_iff.mp h7] at hx
      cases hx
    obtain ⟨t, a1, o, b1, b2, b3⟩ := body p e s m args below meth c s₁ B hml ht hP s₁ hh0 (Stand.of_body B)
    exact ⟨t, o, a1, b1, b2, b3⟩
/-- the table of a body with handlers -/
theorem vx_table {p : Program} {x y : MethodName} {S : Spec} {cc bytes : ByteArray} {maxL maxL' : Nat} {ret ret' : Option FieldType} {e : Env} {s s₁ : State} {m : MethodId} {args : Array Value} {below : List Frame} {meth : Method} {c : Code} {hh : List (Nat × Nat × Nat × Nat)}
    (B : BodyLoose p l y S cc maxL ret e s m args below meth c s₁) (h : (Cond.codeWith y bytes maxL' ret' hh).before args s = true) : c.exceptionTable.toList = tableOf hh := by
  obtain ⟨m9, meth9, c9, hn9, h1, h2, -, -, h6, -⟩ := Cond.codeWith_spec h
  cases Option.some.inj (hn9.symm.trans B.named)
  cases Option.some.inj (h1.symm.trans B.method)
  cases Option.some.inj (h2.symm.trans (Stand.of_body B).code)
  rw [← h6, table_eq]
end Bodies
end VXA
/-! ===== END ===== -/
/-! ===== BEGIN a static call of a method with an exception table ===== -/
section VXS
variable {p : Program} {l : Launch} {e : Env} {R : Room} {s : State} {m : MethodId} {args : Array Value} {below : List Frame} {meth : Method} {c : Code} {T : State} {H : Heap} {locs : List Loc} {cells slots : Nat}
abbrev vx_CSW (R : Room) (s : State) (args : Array Value) (own : String) (index : Nat) (y : MethodName) (bytes : ByteArray) (maxL : Nat) (ret : Option FieldType) (hh : List (Nat × Nat × Nat × Nat)) (ws : List Cond) (rm : Room) (mc ms n : Nat) : Prop :=
  (rm.cells = mc ∧ rm.slots = ms ∧ rm.frames + 1 ≤ R.frames ∧ 8 + (maxL + 11) + rm.locals ≤ R.locals ∧ (∀ w ∈ ws, ∀ (a' : Array Value) (U : State), s.WarmedH U.vm → w.before a' U = true) ∧ Cond.codeWith y bytes maxL ret hh ∈ ws) ∧
  (Cond.codeWith y bytes maxL ret hh).before args s = true ∧ (Cond.initialized y.cls).before args s = true ∧ (y.cls ≠ "java/lang/invoke/MethodHandle" ∧ y.cls ≠ "java/lang/invoke/VarHandle") ∧
  (∀ sig, parseMethodDescriptor y.desc = some sig → n = sig.parameters.length) ∧ (Cond.methodLink own index y).before args s = true ∧ (Cond.static y).before args s = true
theorem vx_cwSW {own : String} {index maxL mc ms : Nat} {y : MethodName} {bytes : ByteArray} {ret : Option FieldType} {hh : List (Nat × Nat × Nat × Nat)} {Ts ws ws' : List Cond} {rm : Room} (n : Nat) (ht : ∀ w ∈ Ts, w.before args s = true) (hT : GoodIn Ts (va_wsS own index y ws)) (hw : ws = Cond.codeWith y bytes maxL ret hh :: ws') (hrc : rm.cells = mc) (hrs : rm.slots = ms)
    (hd : y.cls ≠ "java/lang/invoke/MethodHandle" ∧ y.cls ≠ "java/lang/invoke/VarHandle" ∧ (parseMethodDescriptor y.desc).map (fun d => d.parameters.length) = some n) (hR : rm.frames + 1 ≤ R.frames ∧ 8 + (maxL + 11) + rm.locals ≤ R.locals) :
    vx_CSW R s args own index y bytes maxL ret hh ws rm mc ms n := by
  have ok : ∀ w ∈ va_wsS own index y ws, w.before args s = true := fun w h => ht w (hT w h).1
  have hG : GoodIn Ts ws := fun w h => hT w (by unfold va_wsS; exact List.mem_append_right _ h)
  have hc : Cond.codeWith y bytes maxL ret hh ∈ ws := by rw [hw]; exact List.mem_cons_self
  refine ⟨⟨hrc, hrs, hR.1, hR.2, pay_in ht hG, hc⟩, ht _ (hG _ hc).1, ok _ (by simp [va_wsS]), ⟨hd.1, hd.2.1⟩, fun sig h => ?_, ok _ (by simp [va_wsS]), ok _ (by simp [va_wsS])⟩
  have h2 := hd.2.2
  rw [h] at h2
  exact (Option.some.inj h2).symm
theorem vx_callSW (X : Stand p l e R s m args below meth c T locs cells slots) (hexec : p.tables.exec = Jvm.exec) {own : String} {index : Nat} {y : MethodName} {bytes : ByteArray} {maxL : Nat} {ret : Option FieldType} {hh : List (Nat × Nat × Nat × Nat)}
    (hown : s.vm.findClass own = some m.cls) (hlink : (Cond.methodLink own index y).before args s = true) (hstat : (Cond.static y).before args s = true) (hinit : (Cond.initialized y.cls).before args s = true)
    (hcode : (Cond.codeWith y bytes maxL ret hh).before args s = true) (hy : y.cls ≠ "java/lang/invoke/MethodHandle" ∧ y.cls ≠ "java/lang/invoke/VarHandle")
    {W9 : Nat} {Pre : Pt → Array Value → Prop} {Post : Pt → Array Value → Option Value → Pt → Prop} (hK : Back l R p e below s args y 3 W9 Pre Post)
    {g : JFrame} (hg : g.method = m) (hsize : g.locals.size = c.maxLocals) {argsL rest : List Value} (hlen : ∀ sig, parseMethodDescriptor y.desc = some sig → argsL.length = sig.parameters.length)
    (hstack : g.stack = argsL.reverse ++ rest) (hW : 2 * g.monitorRoom + (rest.map fun v => v.category).sum ≤ W9) (hdg : decode c.code g.pc = .ok (.invokestatic index, 3))
    (hpre : ∀ vm₁, s.WarmedH vm₁ → Pre ⟨T.setVm vm₁, locs, cells, slots⟩ argsL.toArray) :
    ∃ (v : Option Value) (vm₁ : Vm) (B : Pt), s.WarmedH vm₁ ∧ Stand p l e R s m args below meth c B.U B.locs B.cells B.slots ∧ Post ⟨T.setVm vm₁, locs, cells, slots⟩ argsL.toArray v B ∧
      ∀ target, Steps p.tables e below (B.U.setTop { g with pc := g.pc + 3, stack := v.toList ++ rest }) target → Steps p.tables e below (T.setTop g) target := by
  obtain ⟨mk, methM, cM, hnamed, hmethM, -, -, -, -, -, -, hsigM⟩ := Cond.codeWith_spec hcode
  have hstatic : methM.isStatic = true := Cond.static_spec hnamed hmethM hstat
  obtain ⟨kP, hkP, -⟩ := className_of_methodNamed hnamed
  have hinitP : kP.init = .initialized := Cond.initialized_spec (findClass_of_methodNamed hnamed) hkP hinit
  obtain ⟨vm₁, X₁, hstep₁⟩ := X.invokestatic hexec hown hlink hnamed hmethM hstatic hkP hinitP hy (g := g) hg (argsL := argsL) (rest := rest) (hlen _ hsigM) hstack hdg
  obtain ⟨v, B, X', hpost, hsteps⟩ := hK m meth c ⟨T.setVm vm₁, locs, cells, slots⟩ { g with stack := rest } (.invokestatic index) mk argsL.toArray X₁ hg hsize hdg hW (X₁.named hnamed) (hpre vm₁ X₁.warmed)
  exact ⟨v, vm₁, B, X₁.warmed, X', hpost, fun target h => hstep₁ _ fun acts => by rw [doInvoke_state]; exact hsteps.trans h⟩
theorem vx_runSW {y : MethodName} {bytes cc : ByteArray} {maxL nL mc ms n index : Nat} {ret : Option FieldType} {hh : List (Nat × Nat × Nat × Nat)} {ws : List Cond} {rm : Room} {Pc : Array Value → State → Prop} {Qc : Array Value → State → Outcome → State → Prop} {free : Addr → Prop} {Ts : List Cond} {own : String} {As rest : List Value} {g : JFrame}
    (S : CallFix p m c cc nL s args Ts own) (hM : Met l y ws rm Pc Qc mc ms free) (cw : vx_CSW R s args own index y bytes maxL ret hh ws rm mc ms n) (hp : PreS s H Pc As)
    (hg : g.method = m) (hn : As.length = n) (hsize : g.locals.size = nL) (hstack : g.stack = As.reverse ++ rest) (hW : 2 * g.monitorRoom + (rest.map fun v => v.category).sum ≤ 8) (hdg : decode cc g.pc = .ok (.invokestatic index, 3)) (hf : cells + mc ≤ R.cells ∧ slots + ms ≤ R.slots) :
    va_Run p l e R s m args below meth c H locs cells slots mc ms g rest (Qc As.toArray) (free) := by
  obtain ⟨⟨hrc, hrs, hfr, hlo, hws, hcw⟩, hcode, hini, hy, hlen, hl, hstt⟩ := cw
  have hK : Back l R p e below s args y 3 8 (PreOf R mc ms Pc) (PostOf Qc mc ms free) := va_backW (hh := hh) (bytes := bytes) (maxL := maxL) (ret := ret) hM hp.1 hrc hrs hfr hlo hws hcw (fun a' U hW => word_at hW (Or.inl (by first | rfl | simp [Cond.onTables, Cond.keeps, Cond.steady])) hini)
  obtain ⟨hx, hb, hml, ho, -⟩ := S
  intro T hT X
  obtain ⟨v, vm₁, ⟨U', l2, c2, s2⟩, hW₁, X', ⟨g', mk, t, L, e1, e2, hq, h1, hL, h2, h3⟩, st⟩ := vx_callSW X hx (hh := hh) (bytes := bytes) (maxL := maxL) (ret := ret) ho hl hstt hini hcode hy hK hg (hsize.trans hml.symm) (argsL := As) (rest := rest) (fun sig h => hn.trans (hlen sig h)) hstack hW (by rw [hb]; exact hdg)
    (fun vm₁ hW₁ => ⟨hf.1, hf.2, hp.2 (T.setVm vm₁) hT hW₁⟩)
  dsimp only [Pt.U, Pt.locs, Pt.cells, Pt.slots] at X' e1 e2 h1 h2 h3 st
  subst h1; subst h2; subst h3
  exact ⟨v, (T.setVm vm₁).calling g' mk As.toArray, t, U', L, hT, X', hL, e1, e2, hq, st⟩
/-- a thing of a world lies in the heap -/
theorem vx_lt {D : va_G} {cl : List vw_C} {ws : va_W} {H1 : Heap} (h : va_P D cl ws H1) {k : Nat} {q : Nat × va_E} (hk : ws[k]? = some q) : q.1 < H1.size := (h k q hk).lt
end VXS
/-! ===== END ===== -/
/-! ===== BEGIN methods with a table of their own: called by a name, returning or throwing ===== -/
section VXH
/-! vx_backW, vx_callVX, vx_callSX, vx_callVW, vx_runVW, vx_runVX, vx_runSX, vx_ofWH follow the same proofs as their sisters above (Free/Laws.lean, Shelf42/LK1.lean); vx_outP calls Shelf42/NT130.lean (outThrough). -/
section
variable {l : Launch} {R : Room} {p : Program} {e : Env} {below : List Frame} {s : State} {sargs : Array Value} {y : MethodName} {len W9 : Nat}
theorem vx_backW {ws : List Cond} {rm : Room} {Pc : Array Value → State → Prop} {Qc : Array Value → State → Outcome → State → Prop} {XC : String → State → State → Prop} {mc ms : Nat} {free : Addr → Prop} {bytes : ByteArray} {maxL : Nat} {ret : Option FieldType} {hh : List (Nat × Nat × Nat × Nat)}
    (hM : vx_Met l y ws rm Pc Qc XC mc ms free) (hblind : FrameBlind Pc) (hrc : rm.cells = mc) (hrs : rm.slots = ms)
    (hframes : rm.frames + 1 ≤ R.frames) (hlocals : W9 + (maxL + 11) + rm.locals ≤ R.locals)
    (hws : ∀ w ∈ ws, ∀ a' U, s.WarmedH U.vm → w.before a' U = true) (hcode : Cond.codeWith y bytes maxL ret hh ∈ ws) (hinit : ∀ a' U, s.WarmedH U.vm → (Cond.initialized y.cls).before a' U = true) :
    vx_Back l R p e below s sargs y len W9 (PreOf R mc ms Pc) (PostOf Qc mc ms free) (vx_Post XC mc ms free) := by
  intro m meth c A g ig mk a X hg hsize hdg hW hn hp
  have h1 : (headSpec ws rm).pre.before a A.U = true := atoms_intro fun w hw => hws w hw _ _ X.warmed
  have h2 : (Cond.codeWith y bytes maxL ret hh).before a A.U = true := hws _ hcode _ _ X.warmed
  have h3 : (Cond.initialized y.cls).before a A.U = true := hinit _ _ X.warmed
  have h4 : A.cells + (headSpec ws rm).room.cells ≤ R.cells := by rw [show (headSpec ws rm).room.cells = mc from hrc]; exact hp.1
  have h5 : A.slots + (headSpec ws rm).room.slots ≤ R.slots := by rw [show (headSpec ws rm).room.slots = ms from hrs]; exact hp.2.1
  have hPc : Pc a (A.U.calling g mk a) := hblind _ _ _ _ hp.2.2
  obtain ⟨U, Ls, c0, s0⟩ := A
  dsimp only [Pt.U, Pt.locs, Pt.cells, Pt.slots] at h1 h2 h3 h4 h5 X hn hPc ⊢
  obtain ⟨m9, methY, cY, hn9, hmY, hcY, -, hlY, -⟩ := Cond.codeWith_spec h2
  cases Option.some.inj (hn9.symm.trans hn)
  obtain ⟨kY, hkY, -⟩ := className_of_methodNamed hn
  have hinitY : kY.init = .initialized := Cond.initialized_spec (findClass_of_methodNamed hn) hkY h3
  have h : At U g.method c below := by rw [hg]; exact X.here
  have hlocals9 : W9 + (maxL + 11) + (headSpec ws rm).room.locals ≤ R.locals := hlocals
  have happ : (headSpec ws rm).appliesLoose y e.platform (U.calling g mk a) = true :=
    Spec.appliesLoose_calling (g := g) h hdg hn hkY hinitY
      (X.room_calling (g := g) (R' := (headSpec ws rm).room) hsize hmY hcY hframes (by rw [hlY]; omega) h4 h5) h1
  obtain ⟨mid, hmid⟩ := h.above
  have hfr : (U.setTop g).frames = (.java g :: mid) ++ below := by rw [State.frames_setTop' g h.top, hmid]; rfl
  obtain ⟨o, s₂, hsteps, -, hend, hq⟩ := Steps.callFree hM p X.admits X.cas X.clock (acts := []) hfr happ hPc trivial
  have hq' : vx_Q Qc XC mc ms free a (U.calling g mk a) o s₂ := hq
  rw [State.frames_setTop' g h.top] at hend
  obtain ⟨g₀, hg0⟩ := Option.isSome_iff_exists.mp h.top
  obtain ⟨r, hr⟩ := State.topJava?_eq_some.mp hg0
  have hr' : (({ U with heap := s₂.heap, slotsUsed := s₂.slotsUsed } : State).setVm s₂.vm).frames = .java g₀ :: r := hr
  rcases hq' with ⟨hqc, L, hfe, hL⟩ | ⟨q, rfl, E, ce, L, hx, hce, hcv, hcl, hW₂, hsm, hL⟩
  · obtain ⟨⟨v, rfl⟩, hW₂, e2, q2, q3, q4, q5, q6⟩ := id hfe
    have e3 : s₂ = ({ (U.calling g mk a).setFrames s₂.frames with heap := s₂.heap, slotsUsed := s₂.slotsUsed } : State).setVm s₂.vm := by
      have : s₂ = ({ s₂ with vm := (U.calling g mk a).vm } : State).setVm s₂.vm := rfl
      rw [e2] at this
      exact this
    obtain ⟨c₂, i₂, len₂, hc₂, hd₂, hf₂⟩ := hend
    have hW' : U.WarmedH s₂.vm := hW₂
    have hcc : c₂ = c := by
      have h1 : s₂.code? g.method = U.code? g.method := by
        rw [State.code?_eq, State.code?_eq, hW'.alike.method?]
      exact Option.some.inj (hc₂.symm.trans (h1.trans h.code))
    subst hcc
    have hlen : len₂ = len := by rw [hdg] at hd₂; cases hd₂; rfl
    subst hlen
    have hs₂ : s₂ = (({ U with heap := s₂.heap, slotsUsed := s₂.slotsUsed } : State).setVm s₂.vm).setTop { g with pc := g.pc + len₂, stack := v.toList ++ g.stack } := by
      refine e3.trans ?_
      rw [hf₂, State.calling_eq h.top, State.setFrames_setFrames, State.setTop_of_frames _ hr', hr]
      rfl
    have hsame : U.sameButNew ({ U with heap := s₂.heap, slotsUsed := s₂.slotsUsed } : State) L mc ms := by
      refine ⟨?_, q2, q3, q4, q5, q6⟩
      obtain ⟨t, ht, -⟩ := State.frames_cons hr
      show ({ U with heap := s₂.heap, slotsUsed := s₂.slotsUsed } : State) = { U.setFrames U.frames with heap := s₂.heap, slotsUsed := s₂.slotsUsed }
      rw [State.setFrames_self ht]
    subst hg
    refine Or.inl ⟨v, ⟨(({ U with heap := s₂.heap, slotsUsed := s₂.slotsUsed } : State).setVm s₂.vm), Ls ++ L, c0 + mc, s0 + ms⟩,
      ⟨X.admits, X.cas, X.clock, X.frames, X.room, X.hears, X.method, X.code, (X.here.setHeapUsed s₂.heap s₂.slotsUsed).setVm hW'.alike, X.tail, State.WarmedH.trans X.warmed hW', X.limits, X.bytes, X.same.trans (hsame.setVm s.vm)⟩,
      ⟨g, mk, s₂, L, rfl, rfl, hqc, rfl, hL, rfl, rfl⟩, ?_⟩
    show Steps p.tables e below _ ((({ U with heap := s₂.heap, slotsUsed := s₂.slotsUsed } : State).setVm s₂.vm).setTop { g with pc := g.pc + len₂, stack := v.toList ++ g.stack })
    rw [← hs₂]
    exact hsteps
  · obtain ⟨e2, q2, q3, q4, q5, q6⟩ := id hsm
    have e3 : s₂ = ({ (U.calling g mk a).setFrames s₂.frames with heap := s₂.heap, slotsUsed := s₂.slotsUsed } : State).setVm s₂.vm := by
      have : s₂ = ({ s₂ with vm := (U.calling g mk a).vm } : State).setVm s₂.vm := rfl
      rw [e2] at this
      exact this
    have hf₂ : s₂.frames = .throwing q :: .java g :: U.frames.tail := hend
    have hW' : U.WarmedH s₂.vm := hW₂
    have hs₂ : s₂ = ((({ U with heap := s₂.heap, slotsUsed := s₂.slotsUsed } : State).setVm s₂.vm).setTop g).pushFrame (.throwing q) := by
      refine e3.trans ?_
      rw [hf₂, State.calling_eq h.top, State.setFrames_setFrames, State.pushFrame, State.frames_setTop _ hr', State.setTop_of_frames _ hr', State.setFrames_setFrames, hr]
      rfl
    have hsame : U.sameButNew ({ U with heap := s₂.heap, slotsUsed := s₂.slotsUsed } : State) L mc ms := by
      refine ⟨?_, q2, q3, q4, q5, q6⟩
      obtain ⟨t, ht, -⟩ := State.frames_cons hr
      show ({ U with heap := s₂.heap, slotsUsed := s₂.slotsUsed } : State) = { U.setFrames U.frames with heap := s₂.heap, slotsUsed := s₂.slotsUsed }
      rw [State.setFrames_self ht]
    subst hg
    refine Or.inr ⟨q, ⟨(({ U with heap := s₂.heap, slotsUsed := s₂.slotsUsed } : State).setVm s₂.vm), Ls ++ L, c0 + mc, s0 + ms⟩,
      ⟨X.admits, X.cas, X.clock, X.frames, X.room, X.hears, X.method, X.code, (X.here.setHeapUsed s₂.heap s₂.slotsUsed).setVm hW'.alike, X.tail, State.WarmedH.trans X.warmed hW', X.limits, X.bytes, X.same.trans (hsame.setVm s.vm)⟩,
      ⟨g, mk, s₂, L, E, ce, rfl, rfl, hx, hce, hcv, hcl, rfl, hL, rfl, rfl⟩, ?_⟩
    show Steps p.tables e below _ (((({ U with heap := s₂.heap, slotsUsed := s₂.slotsUsed } : State).setVm s₂.vm).setTop g).pushFrame (.throwing q))
    rw [← hs₂]
    exact hsteps
end
variable {p : Program} {l : Launch} {e : Env} {R : Room} {s : State} {m : MethodId} {args : Array Value} {below : List Frame} {meth : Method} {c : Code} {T : State} {H : Heap} {locs : List Loc} {cells slots : Nat}
theorem vx_callVX (X : Stand p l e R s m args below meth c T locs cells slots) (hexec : p.tables.exec = Jvm.exec) {own C : String} {index : Nat} {y : MethodName} {bytes : ByteArray} {maxL : Nat} {ret : Option FieldType} {hh : List (Nat × Nat × Nat × Nat)}
    (hown : s.vm.findClass own = some m.cls) (hlink : (Cond.methodLink own index y).before args s = true) (hinst : (Cond.instanceMethod y).before args s = true) (hsel : (Cond.selects C y y).before args s = true)
    (hcode : (Cond.codeWith y bytes maxL ret hh).before args s = true) (hy : y.cls ≠ "java/lang/invoke/MethodHandle" ∧ y.cls ≠ "java/lang/invoke/VarHandle")
    {W9 : Nat} {Pre : Pt → Array Value → Prop} {Post : Pt → Array Value → Option Value → Pt → Prop} {PostX : Pt → Array Value → Addr → Pt → Prop} (hK : vx_Back l R p e below s args y 3 W9 Pre Post PostX)
    {b : Addr} {cellB : Cell} (hcell : T.heap[b]? = some cellB) (hobj : cellB.vm.isStatics = false) (hcls : s.vm.findClass C = some cellB.cls)
    {g : JFrame} (hg : g.method = m) (hsize : g.locals.size = c.maxLocals) {argsL rest : List Value} (hlen : ∀ sig, parseMethodDescriptor y.desc = some sig → argsL.length = sig.parameters.length)
    (hstack : g.stack = argsL.reverse ++ .ref b :: rest) (hW : 2 * g.monitorRoom + (rest.map fun v => v.category).sum ≤ W9) (hdg : decode c.code g.pc = .ok (.invokevirtual index, 3))
    (hpre : ∀ vm₁, s.WarmedH vm₁ → Pre ⟨T.setVm vm₁, locs, cells, slots⟩ (Value.ref b :: argsL).toArray) :
    (∃ (v : Option Value) (vm₁ : Vm) (B : Pt), s.WarmedH vm₁ ∧ Stand p l e R s m args below meth c B.U B.locs B.cells B.slots ∧ Post ⟨T.setVm vm₁, locs, cells, slots⟩ (Value.ref b :: argsL).toArray v B ∧
      ∀ target, Steps p.tables e below (B.U.setTop { g with pc := g.pc + 3, stack := v.toList ++ rest }) target → Steps p.tables e below (T.setTop g) target) ∨
    (∃ (q : Addr) (vm₁ : Vm) (B : Pt), s.WarmedH vm₁ ∧ Stand p l e R s m args below meth c B.U B.locs B.cells B.slots ∧ PostX ⟨T.setVm vm₁, locs, cells, slots⟩ (Value.ref b :: argsL).toArray q B ∧
      Steps p.tables e below (T.setTop g) ((B.U.setTop { g with stack := rest }).pushFrame (.throwing q))) := by
  obtain ⟨mk, methM, hnamed, hmethM, hstM, habM⟩ := Cond.instanceMethod_spec hinst
  obtain ⟨m8, methM', cM, hn8, hmethM', -, -, -, -, -, -, hsigM⟩ := Cond.codeWith_spec hcode
  cases Option.some.inj (hn8.symm.trans hnamed)
  cases hmethM.symm.trans hmethM'
  obtain ⟨c2, r2, m2, q1, q2, q3, q4, kP, hkP, hkPi⟩ := Cond.selects_spec hsel
  cases hcls.symm.trans q1
  cases (State.methodFound?_of_named hnamed hy).symm.trans q2
  cases hnamed.symm.trans q3
  have hselP : selectMethod e.platform s.vm cellB.cls mk = .method mk := by rw [Launch.admits_selectMethod X.admits]; exact q4
  obtain ⟨vm₁, X₁, hstep₁⟩ := X.invokevirtual hexec hown hlink hnamed hmethM hstM hkP hkPi hy (a := b) (cell := cellB) hcell
    (fun z h => by rw [h] at hobj; cases hobj) hselP hmethM habM hkP hkPi (g := g) hg (argsL := argsL) (rest := rest) (hlen _ hsigM) hstack hdg
  rcases hK m meth c ⟨T.setVm vm₁, locs, cells, slots⟩ { g with stack := rest } (.invokevirtual index) mk (Value.ref b :: argsL).toArray X₁ hg hsize hdg hW (X₁.named hnamed) (hpre vm₁ X₁.warmed) with ⟨v, B, X', hpost, hsteps⟩ | ⟨q, B, X', hpost, hsteps⟩
  · exact Or.inl ⟨v, vm₁, B, X₁.warmed, X', hpost, fun target h => hstep₁ _ fun acts => by rw [doInvoke_state]; exact hsteps.trans h⟩
  · exact Or.inr ⟨q, vm₁, B, X₁.warmed, X', hpost, hstep₁ _ fun acts => by rw [doInvoke_state]; exact hsteps⟩
theorem vx_callSX (X : Stand p l e R s m args below meth c T locs cells slots) (hexec : p.tables.exec = Jvm.exec) {own : String} {index : Nat} {y : MethodName} {bytes : ByteArray} {maxL : Nat} {ret : Option FieldType} {hh : List (Nat × Nat × Nat × Nat)}
    (hown : s.vm.findClass own = some m.cls) (hlink : (Cond.methodLink own index y).before args s = true) (hstat : (Cond.static y).before args s = true) (hinit : (Cond.initialized y.cls).before args s = true)
    (hcode : (Cond.codeWith y bytes maxL ret hh).before args s = true) (hy : y.cls ≠ "java/lang/invoke/MethodHandle" ∧ y.cls ≠ "java/lang/invoke/VarHandle")
    {W9 : Nat} {Pre : Pt → Array Value → Prop} {Post : Pt → Array Value → Option Value → Pt → Prop} {PostX : Pt → Array Value → Addr → Pt → Prop} (hK : vx_Back l R p e below s args y 3 W9 Pre Post PostX)
    {g : JFrame} (hg : g.method = m) (hsize : g.locals.size = c.maxLocals) {argsL rest : List Value} (hlen : ∀ sig, parseMethodDescriptor y.desc = some sig → argsL.length = sig.parameters.length)
    (hstack : g.stack = argsL.reverse ++ rest) (hW : 2 * g.monitorRoom + (rest.map fun v => v.category).sum ≤ W9) (hdg : decode c.code g.pc = .ok (.invokestatic index, 3))
    (hpre : ∀ vm₁, s.WarmedH vm₁ → Pre ⟨T.setVm vm₁, locs, cells, slots⟩ argsL.toArray) :
    (∃ (v : Option Value) (vm₁ : Vm) (B : Pt), s.WarmedH vm₁ ∧ Stand p l e R s m args below meth c B.U B.locs B.cells B.slots ∧ Post ⟨T.setVm vm₁, locs, cells, slots⟩ argsL.toArray v B ∧
      ∀ target, Steps p.tables e below (B.U.setTop { g with pc := g.pc + 3, stack := v.toList ++ rest }) target → Steps p.tables e below (T.setTop g) target) ∨
    (∃ (q : Addr) (vm₁ : Vm) (B : Pt), s.WarmedH vm₁ ∧ Stand p l e R s m args below meth c B.U B.locs B.cells B.slots ∧ PostX ⟨T.setVm vm₁, locs, cells, slots⟩ argsL.toArray q B ∧
      Steps p.tables e below (T.setTop g) ((B.U.setTop { g with stack := rest }).pushFrame (.throwing q))) := by
  obtain ⟨mk, methM, cM, hnamed, hmethM, -, -, -, -, -, -, hsigM⟩ := Cond.codeWith_spec hcode
  have hstatic : methM.isStatic = true := Cond.static_spec hnamed hmethM hstat
  obtain ⟨kP, hkP, -⟩ := className_of_methodNamed hnamed
  have hinitP : kP.init = .initialized := Cond.initialized_spec (findClass_of_methodNamed hnamed) hkP hinit
  obtain ⟨vm₁, X₁, hstep₁⟩ := X.invokestatic hexec hown hlink hnamed hmethM hstatic hkP hinitP hy (g := g) hg (argsL := argsL) (rest := rest) (hlen _ hsigM) hstack hdg
  rcases hK m meth c ⟨T.setVm vm₁, locs, cells, slots⟩ { g with stack := rest } (.invokestatic index) mk argsL.toArray X₁ hg hsize hdg hW (X₁.named hnamed) (hpre vm₁ X₁.warmed) with ⟨v, B, X', hpost, hsteps⟩ | ⟨q, B, X', hpost, hsteps⟩
  · exact Or.inl ⟨v, vm₁, B, X₁.warmed, X', hpost, fun target h => hstep₁ _ fun acts => by rw [doInvoke_state]; exact hsteps.trans h⟩
  · exact Or.inr ⟨q, vm₁, B, X₁.warmed, X', hpost, hstep₁ _ fun acts => by rw [doInvoke_state]; exact hsteps⟩
theorem vx_callVW (X : Stand p l e R s m args below meth c T locs cells slots) (hexec : p.tables.exec = Jvm.exec) {own C : String} {index : Nat} {y : MethodName} {bytes : ByteArray} {maxL : Nat} {ret : Option FieldType} {hh : List (Nat × Nat × Nat × Nat)}
    (hown : s.vm.findClass own = some m.cls) (hlink : (Cond.methodLink own index y).before args s = true) (hinst : (Cond.instanceMethod y).before args s = true) (hsel : (Cond.selects C y y).before args s = true)
    (hcode : (Cond.codeWith y bytes maxL ret hh).before args s = true) (hy : y.cls ≠ "java/lang/invoke/MethodHandle" ∧ y.cls ≠ "java/lang/invoke/VarHandle")
    {W9 : Nat} {Pre : Pt → Array Value → Prop} {Post : Pt → Array Value → Option Value → Pt → Prop} (hK : Back l R p e below s args y 3 W9 Pre Post)
    {b : Addr} {cellB : Cell} (hcell : T.heap[b]? = some cellB) (hobj : cellB.vm.isStatics = false) (hcls : s.vm.findClass C = some cellB.cls)
    {g : JFrame} (hg : g.method = m) (hsize : g.locals.size = c.maxLocals) {argsL rest : List Value} (hlen : ∀ sig, parseMethodDescriptor y.desc = some sig → argsL.length = sig.parameters.length)
    (hstack : g.stack = argsL.reverse ++ .ref b :: rest) (hW : 2 * g.monitorRoom + (rest.map fun v => v.category).sum ≤ W9) (hdg : decode c.code g.pc = .ok (.invokevirtual index, 3))
    (hpre : ∀ vm₁, s.WarmedH vm₁ → Pre ⟨T.setVm vm₁, locs, cells, slots⟩ (Value.ref b :: argsL).toArray) :
    ∃ (v : Option Value) (vm₁ : Vm) (B : Pt), s.WarmedH vm₁ ∧ Stand p l e R s m args below meth c B.U B.locs B.cells B.slots ∧ Post ⟨T.setVm vm₁, locs, cells, slots⟩ (Value.ref b :: argsL).toArray v B ∧
      ∀ target, Steps p.tables e below (B.U.setTop { g with pc := g.pc + 3, stack := v.toList ++ rest }) target → Steps p.tables e below (T.setTop g) target := by
  obtain ⟨mk, methM, hnamed, hmethM, hstM, habM⟩ := Cond.instanceMethod_spec hinst
  obtain ⟨m8, methM', cM, hn8, hmethM', -, -, -, -, -, -, hsigM⟩ := Cond.codeWith_spec hcode
  cases Option.some.inj (hn8.symm.trans hnamed)
  cases hmethM.symm.trans hmethM'
  obtain ⟨c2, r2, m2, q1, q2, q3, q4, kP, hkP, hkPi⟩ := Cond.selects_spec hsel
  cases hcls.symm.trans q1
  cases (State.methodFound?_of_named hnamed hy).symm.trans q2
  cases hnamed.symm.trans q3
  have hselP : selectMethod e.platform s.vm cellB.cls mk = .method mk := by rw [Launch.admits_selectMethod X.admits]; exact q4
  obtain ⟨vm₁, X₁, hstep₁⟩ := X.invokevirtual hexec hown hlink hnamed hmethM hstM hkP hkPi hy (a := b) (cell := cellB) hcell
    (fun z h => by rw [h] at hobj; cases hobj) hselP hmethM habM hkP hkPi (g := g) hg (argsL := argsL) (rest := rest) (hlen _ hsigM) hstack hdg
  obtain ⟨v, B, X', hpost, hsteps⟩ := hK m meth c ⟨T.setVm vm₁, locs, cells, slots⟩ { g with stack := rest } (.invokevirtual index) mk (Value.ref b :: argsL).toArray X₁ hg hsize hdg hW (X₁.named hnamed) (hpre vm₁ X₁.warmed)
  exact ⟨v, vm₁, B, X₁.warmed, X', hpost, fun target h => hstep₁ _ fun acts => by rw [doInvoke_state]; exact hsteps.trans h⟩
abbrev vx_CVW (R : Room) (s : State) (args : Array Value) (own C : String) (index : Nat) (y : MethodName) (bytes : ByteArray) (maxL : Nat) (ret : Option FieldType) (hh : List (Nat × Nat × Nat × Nat)) (ws : List Cond) (rm : Room) (mc ms n : Nat) : Prop :=
  (rm.cells = mc ∧ rm.slots = ms ∧ rm.frames + 1 ≤ R.frames ∧ 8 + (maxL + 11) + rm.locals ≤ R.locals ∧ (∀ w ∈ ws, ∀ (a' : Array Value) (U : State), s.WarmedH U.vm → w.before a' U = true) ∧ Cond.codeWith y bytes maxL ret hh ∈ ws) ∧
  (Cond.codeWith y bytes maxL ret hh).before args s = true ∧ (Cond.initialized y.cls).before args s = true ∧ (y.cls ≠ "java/lang/invoke/MethodHandle" ∧ y.cls ≠ "java/lang/invoke/VarHandle") ∧
  (∀ sig, parseMethodDescriptor y.desc = some sig → n = sig.parameters.length) ∧ (Cond.methodLink own index y).before args s = true ∧ (Cond.instanceMethod y).before args s = true ∧ (Cond.selects C y y).before args s = true
theorem vx_cwVW {own C : String} {index maxL mc ms : Nat} {y : MethodName} {bytes : ByteArray} {ret : Option FieldType} {hh : List (Nat × Nat × Nat × Nat)} {Ts ws ws' : List Cond} {rm : Room} (n : Nat) (ht : ∀ w ∈ Ts, w.before args s = true) (hT : GoodIn Ts (wsV own index C y ws)) (hw : ws = Cond.codeWith y bytes maxL ret hh :: ws') (hrc : rm.cells = mc) (hrs : rm.slots = ms)
    (hd : y.cls = C ∧ y.cls ≠ "java/lang/invoke/MethodHandle" ∧ y.cls ≠ "java/lang/invoke/VarHandle" ∧ (parseMethodDescriptor y.desc).map (fun d => d.parameters.length) = some n) (hR : rm.frames + 1 ≤ R.frames ∧ 8 + (maxL + 11) + rm.locals ≤ R.locals) :
    vx_CVW R s args own C index y bytes maxL ret hh ws rm mc ms n := by
  obtain ⟨hC, hd⟩ := hd
  subst hC
  have ok : ∀ w ∈ wsV own index y.cls y ws, w.before args s = true := fun w h => ht w (hT w h).1
  have hG : GoodIn Ts ws := fun w h => hT w (by unfold wsV; exact List.mem_append_right _ h)
  have hc : Cond.codeWith y bytes maxL ret hh ∈ ws := by rw [hw]; exact List.mem_cons_self
  refine ⟨⟨hrc, hrs, hR.1, hR.2, pay_in ht hG, hc⟩, ht _ (hG _ hc).1, ok _ (by simp [wsV]), ⟨hd.1, hd.2.1⟩, fun sig h => ?_, ok _ (by simp [wsV]), ok _ (by simp [wsV]), ok _ (by simp [wsV])⟩
  have h2 := hd.2.2
  rw [h] at h2
  exact (Option.some.inj h2).symm
theorem vx_runVW {y : MethodName} {bytes cc : ByteArray} {maxL nL mc ms n index : Nat} {ret : Option FieldType} {hh : List (Nat × Nat × Nat × Nat)} {ws : List Cond} {rm : Room} {Pc : Array Value → State → Prop} {Qc : Array Value → State → Outcome → State → Prop} {free : Addr → Prop} {Ts : List Cond} {own C : String} {b : Addr} {As rest : List Value} {g : JFrame}
    (S : CallFix p m c cc nL s args Ts own) (hM : Met l y ws rm Pc Qc mc ms free) (cw : vx_CVW R s args own C index y bytes maxL ret hh ws rm mc ms n) (hp : PreV s H C b Pc As)
    (hg : g.method = m) (hn : As.length = n) (hsize : g.locals.size = nL) (hstack : g.stack = As.reverse ++ .ref b :: rest) (hW : 2 * g.monitorRoom + (rest.map fun v => v.category).sum ≤ 8) (hdg : decode cc g.pc = .ok (.invokevirtual index, 3)) (hf : cells + mc ≤ R.cells ∧ slots + ms ≤ R.slots) :
    va_Run p l e R s m args below meth c H locs cells slots mc ms g rest (Qc (Value.ref b :: As).toArray) free := by
  obtain ⟨⟨hrc, hrs, hfr, hlo, hws, hcw⟩, hcode, hini, hy, hlen, hl, hin, hse⟩ := cw
  have hK : Back l R p e below s args y 3 8 (PreOf R mc ms Pc) (PostOf Qc mc ms free) := va_backW (hh := hh) (bytes := bytes) (maxL := maxL) (ret := ret) hM hp.1 hrc hrs hfr hlo hws hcw (fun a' U hW => word_at hW (Or.inl (by first | rfl | simp [Cond.onTables, Cond.keeps, Cond.steady])) hini)
  obtain ⟨hx, hb, hml, ho, -⟩ := S
  obtain ⟨-, ⟨cellB, hcB, hoB, hclB⟩, hPc⟩ := hp
  intro T hT X
  obtain ⟨v, vm₁, ⟨U', l2, c2, s2⟩, hW₁, X', ⟨g', mk, t, L, e1, e2, hq, h1, hL, h2, h3⟩, st⟩ := vx_callVW X hx (C := C) (hh := hh) (bytes := bytes) (maxL := maxL) (ret := ret) ho hl hin hse hcode hy hK (by rw [hT]; exact hcB) hoB hclB hg (hsize.trans hml.symm) (argsL := As) (rest := rest) (fun sig h => hn.trans (hlen sig h)) hstack hW (by rw [hb]; exact hdg)
    (fun vm₁ hW₁ => ⟨hf.1, hf.2, hPc (T.setVm vm₁) hT hW₁⟩)
  dsimp only [Pt.U, Pt.locs, Pt.cells, Pt.slots] at X' e1 e2 h1 h2 h3 st
  subst h1; subst h2; subst h3
  exact ⟨v, (T.setVm vm₁).calling g' mk (Value.ref b :: As).toArray, t, U', L, hT, X', hL, e1, e2, hq, st⟩
section
variable {y : MethodName} {bytes cc : ByteArray} {maxL nL mc ms n index : Nat} {ret : Option FieldType} {ws : List Cond} {rm : Room} {Pc : Array Value → State → Prop} {Qc : Array Value → State → Outcome → State → Prop} {XC : String → State → State → Prop} {free : Addr → Prop} {Ts : List Cond} {own C : String} {b : Addr} {As rest : List Value} {g : JFrame}
theorem vx_runVX {hh : List (Nat × Nat × Nat × Nat)} (S : CallFix p m c cc nL s args Ts own) (hM : vx_Met l y ws rm Pc Qc XC mc ms free) (cw : vx_CVW R s args own C index y bytes maxL ret hh ws rm mc ms n) (hp : PreV s H C b Pc As)
    (hg : g.method = m) (hn : As.length = n) (hsize : g.locals.size = nL) (hstack : g.stack = As.reverse ++ .ref b :: rest) (hW : 2 * g.monitorRoom + (rest.map fun v => v.category).sum ≤ 8) (hdg : decode cc g.pc = .ok (.invokevirtual index, 3)) (hf : cells + mc ≤ R.cells ∧ slots + ms ≤ R.slots) :
    vx_Run p l e R s m args below meth c H locs cells slots mc ms g rest (Qc (Value.ref b :: As).toArray) XC free := by
  obtain ⟨⟨hrc, hrs, hfr, hlo, hws, hcw⟩, hcode, hini, hy, hlen, hl, hin, hse⟩ := cw
  have hK : vx_Back l R p e below s args y 3 8 (PreOf R mc ms Pc) (PostOf Qc mc ms free) (vx_Post XC mc ms free) := vx_backW (hh := hh) (bytes := bytes) (maxL := maxL) (ret := ret) hM hp.1 hrc hrs hfr hlo hws hcw (fun a' U hW => word_at hW (Or.inl (by first | rfl | simp [Cond.onTables, Cond.keeps, Cond.steady])) hini)
  obtain ⟨hx, hb, hml, ho, -⟩ := S
  obtain ⟨-, ⟨cellB, hcB, hoB, hclB⟩, hPc⟩ := hp
  intro T hT X
  rcases vx_callVX X hx (C := C) (hh := hh) (bytes := bytes) (maxL := maxL) (ret := ret) ho hl hin hse hcode hy hK (by rw [hT]; exact hcB) hoB hclB hg (hsize.trans hml.symm) (argsL := As) (rest := rest) (fun sig h => hn.trans (hlen sig h)) hstack hW (by rw [hb]; exact hdg)
    (fun vm₁ hW₁ => ⟨hf.1, hf.2, hPc (T.setVm vm₁) hT hW₁⟩) with ⟨v, vm₁, ⟨U', l2, c2, s2⟩, hW₁, X', ⟨g', mk, t, L, e1, e2, hq, h1, hL, h2, h3⟩, st⟩ | ⟨q, vm₁, ⟨U', l2, c2, s2⟩, hW₁, X', ⟨g', mk, t, L, E, ce, e1, e2, hq, hce, hcv, hcl, h1, hL, h2, h3⟩, st⟩
  · dsimp only [Pt.U, Pt.locs, Pt.cells, Pt.slots] at X' e1 e2 h1 h2 h3 st
    subst h1; subst h2; subst h3
    exact Or.inl ⟨v, (T.setVm vm₁).calling g' mk (Value.ref b :: As).toArray, t, U', L, hT, X', hL, e1, e2, hq, st⟩
  · dsimp only [Pt.U, Pt.locs, Pt.cells, Pt.slots] at X' e1 e2 h1 h2 h3 st hcl
    subst h1; subst h2; subst h3
    exact Or.inr ⟨q, (T.setVm vm₁).calling g' mk (Value.ref b :: As).toArray, t, U', L, E, ce, hT, X', hL, e1, e2, hq, hce, hcv, vx_cls hW₁ hcl, st⟩
theorem vx_runSX {hh : List (Nat × Nat × Nat × Nat)} (S : CallFix p m c cc nL s args Ts own) (hM : vx_Met l y ws rm Pc Qc XC mc ms free) (cw : vx_CSW R s args own index y bytes maxL ret hh ws rm mc ms n) (hp : PreS s H Pc As)
    (hg : g.method = m) (hn : As.length = n) (hsize : g.locals.size = nL) (hstack : g.stack = As.reverse ++ rest) (hW : 2 * g.monitorRoom + (rest.map fun v => v.category).sum ≤ 8) (hdg : decode cc g.pc = .ok (.invokestatic index, 3)) (hf : cells + mc ≤ R.cells ∧ slots + ms ≤ R.slots) :
    vx_Run p l e R s m args below meth c H locs cells slots mc ms g rest (Qc As.toArray) XC free := by
  obtain ⟨⟨hrc, hrs, hfr, hlo, hws, hcw⟩, hcode, hini, hy, hlen, hl, hstt⟩ := cw
  have hK : vx_Back l R p e below s args y 3 8 (PreOf R mc ms Pc) (PostOf Qc mc ms free) (vx_Post XC mc ms free) := vx_backW (hh := hh) (bytes := bytes) (maxL := maxL) (ret := ret) hM hp.1 hrc hrs hfr hlo hws hcw (fun a' U hW => word_at hW (Or.inl (by first | rfl | simp [Cond.onTables, Cond.keeps, Cond.steady])) hini)
  obtain ⟨hx, hb, hml, ho, -⟩ := S
  intro T hT X
  rcases vx_callSX X hx (hh := hh) (bytes := bytes) (maxL := maxL) (ret := ret) ho hl hstt hini hcode hy hK hg (hsize.trans hml.symm) (argsL := As) (rest := rest) (fun sig h => hn.trans (hlen sig h)) hstack hW (by rw [hb]; exact hdg)
    (fun vm₁ hW₁ => ⟨hf.1, hf.2, hp.2 (T.setVm vm₁) hT hW₁⟩) with ⟨v, vm₁, ⟨U', l2, c2, s2⟩, hW₁, X', ⟨g', mk, t, L, e1, e2, hq, h1, hL, h2, h3⟩, st⟩ | ⟨q, vm₁, ⟨U', l2, c2, s2⟩, hW₁, X', ⟨g', mk, t, L, E, ce, e1, e2, hq, hce, hcv, hcl, h1, hL, h2, h3⟩, st⟩
  · dsimp only [Pt.U, Pt.locs, Pt.cells, Pt.slots] at X' e1 e2 h1 h2 h3 st
    subst h1; subst h2; subst h3
    exact Or.inl ⟨v, (T.setVm vm₁).calling g' mk As.toArray, t, U', L, hT, X', hL, e1, e2, hq, st⟩
  · dsimp only [Pt.U, Pt.locs, Pt.cells, Pt.slots] at X' e1 e2 h1 h2 h3 st hcl
    subst h1; subst h2; subst h3
    exact Or.inr ⟨q, (T.setVm vm₁).calling g' mk As.toArray, t, U', L, E, ce, hT, X', hL, e1, e2, hq, hce, hcv, vx_cls hW₁ hcl, st⟩
end
end VXH
theorem vx_ofWH {l : Launch} {y : MethodName} {ws ws' : List Cond} {rm : Room} {Pc : Array Value → State → Prop} {Qc : Array Value → State → Outcome → State → Prop} {XC : String → State → State → Prop} {mc ms : Nat} {free : Addr → Prop} {cc : ByteArray} {maxL : Nat} {ret : Option FieldType} {hh : List (Nat × Nat × Nat × Nat)}
    (hy : plainName y.cls = true) (hw : ws = Cond.codeWith y cc maxL ret hh :: ws')
    (body : ∀ p e s m args below meth c s₁, BodyLoose p l y (headSpec ws rm) cc maxL ret e s m args below meth c s₁ → c.maxLocals = maxL → Pc args s →
      W p l e (headSpec ws rm).room s m args below meth c s.heap [] 0 0 (vx_MQ below Qc XC args s mc ms free) (entryFrame m args maxL)) : vx_Met l y ws rm Pc Qc XC mc ms free := by
  refine MetFree.of_bodyS (code := cc) (maxLocals := maxL) (ret := ret) hy ?_ ?_
  · intro args s m h hn
    obtain ⟨m9, meth, c, hn9, h1, h2, h3, h4, -, h5, h6, -⟩ := Cond.codeWith_spec (atoms_spec (ws := ws) h _ (by rw [hw]; exact List.mem_cons_self))
    cases hn.symm.trans hn9
    exact ⟨meth, c, h1, h2, h3, h4, h5, h6⟩
  · intro p e s m args below meth c s₁ B hml hP _
    have hh0 : s₁.heap = s.heap := by rw [B.state]; rfl
    obtain ⟨t, a1, o, b1, b2, b3⟩ := body p e s m args below meth c s₁ B hml hP s₁ hh0 (Stand.of_body B)
    exact ⟨t, o, a1, b1, b2, b3⟩
/-! ===== END ===== -/
end
section
def RX0 : String := "KeepForget$Dates"
def TX0 : u_T := fun k => match k with
  | _ => ("", "", "", false)
def tyX0 : Nat → FieldType := fun k => match k with
  | _ => .int
abbrev wsX00 : List Cond := u_ws RX0 TX0 0
theorem nmX0 : ∀ a, a < 0 → ∀ b, b < 0 → a ≠ b → (TX0 a).2.1 ≠ (TX0 b).2.1 := by decide +kernel
theorem tyX0_ok : ∀ k, k < 0 → parseFieldDescriptor (TX0 k).2.2.1 = some (tyX0 k) := by decide +kernel
abbrev cX0_monthStart : ByteArray := prog_2_method_2_code
def yX0_monthStart : MethodName := ⟨RX0, "monthStart", "(I)I"⟩
abbrev cX0_monthLength : ByteArray := prog_2_method_3_code
def yX0_monthLength : MethodName := ⟨RX0, "monthLength", "(I)I"⟩
abbrev cX0_monthOf : ByteArray := prog_2_method_4_code
def yX0_monthOf : MethodName := ⟨RX0, "monthOf", "(I)I"⟩
abbrev cX0_monthsAfter : ByteArray := prog_2_method_5_code
def yX0_monthsAfter : MethodName := ⟨RX0, "monthsAfter", "(II)I"⟩
def RX1 : String := "KeepForget$Hold"
def TX1 : u_T := fun k => match k with
  | 0 => ("KeepForget$Hold", "thing", "LKeepForget$Thing;", true)
  | 1 => ("KeepForget$Hold", "fields", "I", true)
  | _ => ("KeepForget$Hold", "isLifted", "Z", false)
def tyX1 : Nat → FieldType := fun k => match k with
  | 0 => .object "KeepForget$Thing"
  | 1 => .int
  | _ => .boolean
abbrev wsX10 : List Cond := u_ws RX1 TX1 3
theorem nmX1 : ∀ a, a < 3 → ∀ b, b < 3 → a ≠ b → (TX1 a).2.1 ≠ (TX1 b).2.1 := by decide +kernel
theorem tyX1_ok : ∀ k, k < 3 → parseFieldDescriptor (TX1 k).2.2.1 = some (tyX1 k) := by decide +kernel
abbrev cX1_init : ByteArray := prog_3_method_1_code
def yX1_init : MethodName := ⟨RX1, "<init>", "(LKeepForget$Thing;I)V"⟩
def RX2 : String := "KeepForget$Log"
def TX2 : u_T := fun k => match k with
  | 0 => ("KeepForget$Log", "parts", "[I", true)
  | 1 => ("KeepForget$Log", "lineCount", "I", false)
  | _ => ("KeepForget$Log", "lateCount", "I", false)
def tyX2 : Nat → FieldType := fun k => match k with
  | 0 => .array .int
  | 1 => .int
  | _ => .int
abbrev wsX20 : List Cond := u_ws RX2 TX2 3
theorem nmX2 : ∀ a, a < 3 → ∀ b, b < 3 → a ≠ b → (TX2 a).2.1 ≠ (TX2 b).2.1 := by decide +kernel
theorem tyX2_ok : ∀ k, k < 3 → parseFieldDescriptor (TX2 k).2.2.1 = some (tyX2 k) := by decide +kernel
abbrev cX2_init : ByteArray := prog_4_method_1_code
def yX2_init : MethodName := ⟨RX2, "<init>", "()V"⟩
abbrev cX2_add : ByteArray := prog_4_method_2_code
def yX2_add : MethodName := ⟨RX2, "add", "(IIIILKeepForget$Span;)V"⟩
def RX3 : String := "KeepForget$Rule"
def TX3 : u_T := fun k => match k with
  | 0 => ("KeepForget$Rule", "sort", "I", true)
  | 1 => ("KeepForget$Rule", "kinds", "I", false)
  | 2 => ("KeepForget$Rule", "fields", "I", false)
  | 3 => ("KeepForget$Rule", "stores", "I", false)
  | 4 => ("KeepForget$Rule", "amount", "I", false)
  | 5 => ("KeepForget$Rule", "unitMonths", "I", false)
  | 6 => ("KeepForget$Rule", "event", "I", false)
  | 7 => ("KeepForget$Rule", "rank", "I", false)
  | 8 => ("KeepForget$Rule", "testCount", "I", false)
  | 9 => ("KeepForget$Rule", "testFacts", "[I", true)
  | 10 => ("KeepForget$Rule", "testIsLess", "[Z", true)
  | _ => ("KeepForget$Rule", "testNumbers", "[I", true)
def tyX3 : Nat → FieldType := fun k => match k with
  | 0 => .int
  | 1 => .int
  | 2 => .int
  | 3 => .int
  | 4 => .int
  | 5 => .int
  | 6 => .int
  | 7 => .int
  | 8 => .int
  | 9 => .array .int
  | 10 => .array .boolean
  | _ => .array .int
abbrev wsX30 : List Cond := u_ws RX3 TX3 12
theorem nmX3 : ∀ a, a < 12 → ∀ b, b < 12 → a ≠ b → (TX3 a).2.1 ≠ (TX3 b).2.1 := by decide +kernel
theorem tyX3_ok : ∀ k, k < 12 → parseFieldDescriptor (TX3 k).2.2.1 = some (tyX3 k) := by decide +kernel
abbrev cX3_init : ByteArray := prog_5_method_1_code
def yX3_init : MethodName := ⟨RX3, "<init>", "(I)V"⟩
abbrev cX3_isFor : ByteArray := prog_5_method_2_code
def yX3_isFor : MethodName := ⟨RX3, "isFor", "(LKeepForget$Thing;I)Z"⟩
abbrev cX3_dayFor : ByteArray := prog_5_method_3_code
def yX3_dayFor : MethodName := ⟨RX3, "dayFor", "(LKeepForget$Thing;)I"⟩
def RX4 : String := "KeepForget$RuleReader"
def TX4 : u_T := fun k => match k with
  | 0 => ("KeepForget$RuleReader", "text", "[B", true)
  | 1 => ("KeepForget$RuleReader", "length", "I", true)
  | 2 => ("KeepForget$RuleReader", "token", "I", false)
  | 3 => ("KeepForget$RuleReader", "start", "I", false)
  | 4 => ("KeepForget$RuleReader", "end", "I", false)
  | 5 => ("KeepForget$RuleReader", "fault", "I", false)
  | _ => ("KeepForget$RuleReader", "faultPlace", "I", false)
def tyX4 : Nat → FieldType := fun k => match k with
  | 0 => .array .byte
  | 1 => .int
  | 2 => .int
  | 3 => .int
  | 4 => .int
  | 5 => .int
  | _ => .int
abbrev wsX40 : List Cond := u_ws RX4 TX4 7
theorem nmX4 : ∀ a, a < 7 → ∀ b, b < 7 → a ≠ b → (TX4 a).2.1 ≠ (TX4 b).2.1 := by decide +kernel
theorem tyX4_ok : ∀ k, k < 7 → parseFieldDescriptor (TX4 k).2.2.1 = some (tyX4 k) := by decide +kernel
abbrev cX4_init : ByteArray := prog_6_method_1_code
def yX4_init : MethodName := ⟨RX4, "<init>", "([BI)V"⟩
abbrev cX4_readInto : ByteArray := prog_6_method_2_code
def yX4_readInto : MethodName := ⟨RX4, "readInto", "(LKeepForget$RuleSet;)V"⟩
abbrev cX4_readRule : ByteArray := prog_6_method_3_code
def yX4_readRule : MethodName := ⟨RX4, "readRule", "(LKeepForget$RuleSet;)Z"⟩
abbrev cX4_ruleSort : ByteArray := prog_6_method_4_code
def yX4_ruleSort : MethodName := ⟨RX4, "ruleSort", "()I"⟩
abbrev cX4_readWhat : ByteArray := prog_6_method_5_code
def yX4_readWhat : MethodName := ⟨RX4, "readWhat", "(LKeepForget$Rule;)Z"⟩
abbrev cX4_readTime : ByteArray := prog_6_method_6_code
def yX4_readTime : MethodName := ⟨RX4, "readTime", "(LKeepForget$Rule;)Z"⟩
abbrev cX4_readStores : ByteArray := prog_6_method_7_code
def yX4_readStores : MethodName := ⟨RX4, "readStores", "(LKeepForget$Rule;)Z"⟩
abbrev cX4_readTests : ByteArray := prog_6_method_8_code
def yX4_readTests : MethodName := ⟨RX4, "readTests", "(LKeepForget$Rule;)Z"⟩
abbrev cX4_readTest : ByteArray := prog_6_method_9_code
def yX4_readTest : MethodName := ⟨RX4, "readTest", "(LKeepForget$Rule;)Z"⟩
abbrev cX4_readRank : ByteArray := prog_6_method_10_code
def yX4_readRank : MethodName := ⟨RX4, "readRank", "(LKeepForget$Rule;)Z"⟩
abbrev cX4_checkNumber : ByteArray := prog_6_method_11_code
def yX4_checkNumber : MethodName := ⟨RX4, "checkNumber", "()Z"⟩
abbrev cX4_number : ByteArray := prog_6_method_12_code
def yX4_number : MethodName := ⟨RX4, "number", "()I"⟩
abbrev cX4_fail : ByteArray := prog_6_method_13_code
def yX4_fail : MethodName := ⟨RX4, "fail", "(I)Z"⟩
abbrev cX4_isWord : ByteArray := prog_6_method_14_code
def yX4_isWord : MethodName := ⟨RX4, "isWord", "(Ljava/lang/String;)Z"⟩
abbrev cX4_isSign : ByteArray := prog_6_method_15_code
def yX4_isSign : MethodName := ⟨RX4, "isSign", "(C)Z"⟩
abbrev cX4_numbered : ByteArray := prog_6_method_16_code
def yX4_numbered : MethodName := ⟨RX4, "numbered", "(CI)I"⟩
abbrev cX4_bitOf : ByteArray := prog_6_method_17_code
def yX4_bitOf : MethodName := ⟨RX4, "bitOf", "(CI)I"⟩
abbrev cX4_next : ByteArray := prog_6_method_18_code
def yX4_next : MethodName := ⟨RX4, "next", "()V"⟩
abbrev cX4_isLetter : ByteArray := prog_6_method_19_code
def yX4_isLetter : MethodName := ⟨RX4, "isLetter", "(I)Z"⟩
abbrev cX4_isDigit : ByteArray := prog_6_method_20_code
def yX4_isDigit : MethodName := ⟨RX4, "isDigit", "(I)Z"⟩
def RX5 : String := "KeepForget$RuleSet"
def TX5 : u_T := fun k => match k with
  | 0 => ("KeepForget$RuleSet", "day", "I", true)
  | 1 => ("KeepForget$RuleSet", "rules", "[LKeepForget$Rule;", true)
  | 2 => ("KeepForget$RuleSet", "ruleCount", "I", false)
  | 3 => ("KeepForget$RuleSet", "turns", "[I", true)
  | _ => ("KeepForget$RuleSet", "turnCount", "I", false)
def tyX5 : Nat → FieldType := fun k => match k with
  | 0 => .int
  | 1 => .array (.object "KeepForget$Rule")
  | 2 => .int
  | 3 => .array .int
  | _ => .int
abbrev wsX50 : List Cond := u_ws RX5 TX5 5
theorem nmX5 : ∀ a, a < 5 → ∀ b, b < 5 → a ≠ b → (TX5 a).2.1 ≠ (TX5 b).2.1 := by decide +kernel
theorem tyX5_ok : ∀ k, k < 5 → parseFieldDescriptor (TX5 k).2.2.1 = some (tyX5 k) := by decide +kernel
abbrev cX5_init : ByteArray := prog_7_method_1_code
def yX5_init : MethodName := ⟨RX5, "<init>", "(I)V"⟩
abbrev cX5_isFull : ByteArray := prog_7_method_2_code
def yX5_isFull : MethodName := ⟨RX5, "isFull", "()Z"⟩
abbrev cX5_add : ByteArray := prog_7_method_3_code
def yX5_add : MethodName := ⟨RX5, "add", "(LKeepForget$Rule;)V"⟩
abbrev cX5_putInTurn : ByteArray := prog_7_method_4_code
def yX5_putInTurn : MethodName := ⟨RX5, "putInTurn", "(II)V"⟩
abbrev cX5_storesFor : ByteArray := prog_7_method_5_code
def yX5_storesFor : MethodName := ⟨RX5, "storesFor", "(LKeepForget$Thing;I)I"⟩
def RX6 : String := "KeepForget$Span"
def TX6 : u_T := fun k => match k with
  | 0 => ("KeepForget$Span", "from", "I", false)
  | 1 => ("KeepForget$Span", "to", "I", false)
  | 2 => ("KeepForget$Span", "fromRule", "I", false)
  | 3 => ("KeepForget$Span", "toRule", "I", false)
  | 4 => ("KeepForget$Span", "lostRules", "[I", true)
  | 5 => ("KeepForget$Span", "lostCount", "I", false)
  | 6 => ("KeepForget$Span", "isHeld", "Z", false)
  | _ => ("KeepForget$Span", "isWished", "Z", false)
def tyX6 : Nat → FieldType := fun k => match k with
  | 0 => .int
  | 1 => .int
  | 2 => .int
  | 3 => .int
  | 4 => .array .int
  | 5 => .int
  | 6 => .boolean
  | _ => .boolean
abbrev wsX60 : List Cond := u_ws RX6 TX6 8
theorem nmX6 : ∀ a, a < 8 → ∀ b, b < 8 → a ≠ b → (TX6 a).2.1 ≠ (TX6 b).2.1 := by decide +kernel
theorem tyX6_ok : ∀ k, k < 8 → parseFieldDescriptor (TX6 k).2.2.1 = some (tyX6 k) := by decide +kernel
abbrev cX6_init : ByteArray := prog_8_method_1_code
def yX6_init : MethodName := ⟨RX6, "<init>", "()V"⟩
abbrev cX6_settle : ByteArray := prog_8_method_2_code
def yX6_settle : MethodName := ⟨RX6, "settle", "(LKeepForget$Thing;ILKeepForget$RuleSet;)V"⟩
abbrev cX6_take : ByteArray := prog_8_method_3_code
def yX6_take : MethodName := ⟨RX6, "take", "(III)V"⟩
abbrev cX6_keepUntil : ByteArray := prog_8_method_4_code
def yX6_keepUntil : MethodName := ⟨RX6, "keepUntil", "(II)V"⟩
abbrev cX6_endAt : ByteArray := prog_8_method_5_code
def yX6_endAt : MethodName := ⟨RX6, "endAt", "(II)V"⟩
abbrev cX6_lose : ByteArray := prog_8_method_6_code
def yX6_lose : MethodName := ⟨RX6, "lose", "(I)V"⟩
abbrev cX6_isDue : ByteArray := prog_8_method_7_code
def yX6_isDue : MethodName := ⟨RX6, "isDue", "(I)Z"⟩
def RX7 : String := "KeepForget$Sweeper"
def TX7 : u_T := fun k => match k with
  | 0 => ("KeepForget$Sweeper", "every", "I", false)
  | _ => ("KeepForget$Sweeper", "first", "I", false)
def tyX7 : Nat → FieldType := fun k => match k with
  | 0 => .int
  | _ => .int
abbrev wsX70 : List Cond := u_ws RX7 TX7 2
theorem nmX7 : ∀ a, a < 2 → ∀ b, b < 2 → a ≠ b → (TX7 a).2.1 ≠ (TX7 b).2.1 := by decide +kernel
theorem tyX7_ok : ∀ k, k < 2 → parseFieldDescriptor (TX7 k).2.2.1 = some (tyX7 k) := by decide +kernel
abbrev cX7_init : ByteArray := prog_9_method_1_code
def yX7_init : MethodName := ⟨RX7, "<init>", "()V"⟩
abbrev cX7_firstFrom : ByteArray := prog_9_method_2_code
def yX7_firstFrom : MethodName := ⟨RX7, "firstFrom", "(I)I"⟩
def RX8 : String := "KeepForget$Thing"
def TX8 : u_T := fun k => match k with
  | 0 => ("KeepForget$Thing", "kind", "I", true)
  | 1 => ("KeepForget$Thing", "facts", "[I", true)
  | 2 => ("KeepForget$Thing", "events", "[I", true)
  | 3 => ("KeepForget$Thing", "copies", "[I", true)
  | 4 => ("KeepForget$Thing", "held", "I", false)
  | _ => ("KeepForget$Thing", "isWished", "Z", false)
def tyX8 : Nat → FieldType := fun k => match k with
  | 0 => .int
  | 1 => .array .int
  | 2 => .array .int
  | 3 => .array .int
  | 4 => .int
  | _ => .boolean
abbrev wsX80 : List Cond := u_ws RX8 TX8 6
theorem nmX8 : ∀ a, a < 6 → ∀ b, b < 6 → a ≠ b → (TX8 a).2.1 ≠ (TX8 b).2.1 := by decide +kernel
theorem tyX8_ok : ∀ k, k < 6 → parseFieldDescriptor (TX8 k).2.2.1 = some (tyX8 k) := by decide +kernel
abbrev cX8_init : ByteArray := prog_10_method_1_code
def yX8_init : MethodName := ⟨RX8, "<init>", "(I)V"⟩
abbrev cX8_hasCopy : ByteArray := prog_10_method_2_code
def yX8_hasCopy : MethodName := ⟨RX8, "hasCopy", "(II)Z"⟩
def RX9 : String := "KeepForget"
def TX9 : u_T := fun k => match k with
  | 0 => ("KeepForget", "tape", "[B", true)
  | 1 => ("KeepForget", "tapeLength", "I", false)
  | 2 => ("KeepForget", "faultPlace", "I", false)
  | 3 => ("KeepForget", "sets", "[LKeepForget$RuleSet;", true)
  | 4 => ("KeepForget", "setCount", "I", false)
  | 5 => ("KeepForget", "things", "[LKeepForget$Thing;", true)
  | 6 => ("KeepForget", "thingCount", "I", false)
  | 7 => ("KeepForget", "sweepers", "[LKeepForget$Sweeper;", true)
  | 8 => ("KeepForget", "holds", "[LKeepForget$Hold;", true)
  | 9 => ("KeepForget", "holdCount", "I", false)
  | 10 => ("KeepForget", "log", "LKeepForget$Log;", true)
  | 11 => ("KeepForget", "settled", "LKeepForget$Span;", true)
  | _ => ("KeepForget", "now", "I", false)
def tyX9 : Nat → FieldType := fun k => match k with
  | 0 => .array .byte
  | 1 => .int
  | 2 => .int
  | 3 => .array (.object "KeepForget$RuleSet")
  | 4 => .int
  | 5 => .array (.object "KeepForget$Thing")
  | 6 => .int
  | 7 => .array (.object "KeepForget$Sweeper")
  | 8 => .array (.object "KeepForget$Hold")
  | 9 => .int
  | 10 => .object "KeepForget$Log"
  | 11 => .object "KeepForget$Span"
  | _ => .int
abbrev wsX90 : List Cond := u_ws RX9 TX9 13
theorem nmX9 : ∀ a, a < 13 → ∀ b, b < 13 → a ≠ b → (TX9 a).2.1 ≠ (TX9 b).2.1 := by decide +kernel
theorem tyX9_ok : ∀ k, k < 13 → parseFieldDescriptor (TX9 k).2.2.1 = some (tyX9 k) := by decide +kernel
abbrev cX9_init : ByteArray := prog_1_method_1_code
def yX9_init : MethodName := ⟨RX9, "<init>", "()V"⟩
abbrev cX9_day : ByteArray := prog_1_method_2_code
def yX9_day : MethodName := ⟨RX9, "day", "(III)I"⟩
abbrev cX9_date : ByteArray := prog_1_method_3_code
def yX9_date : MethodName := ⟨RX9, "date", "(II)I"⟩
abbrev cX9_later : ByteArray := prog_1_method_4_code
def yX9_later : MethodName := ⟨RX9, "later", "(II)I"⟩
abbrev cX9_feed : ByteArray := prog_1_method_5_code
def yX9_feed : MethodName := ⟨RX9, "feed", "(IIIII)I"⟩
abbrev cX9_rules : ByteArray := prog_1_method_6_code
def yX9_rules : MethodName := ⟨RX9, "rules", "(II)I"⟩
abbrev cX9_fault : ByteArray := prog_1_method_7_code
def yX9_fault : MethodName := ⟨RX9, "fault", "()I"⟩
abbrev cX9_thing : ByteArray := prog_1_method_8_code
def yX9_thing : MethodName := ⟨RX9, "thing", "(I)I"⟩
abbrev cX9_fact : ByteArray := prog_1_method_9_code
def yX9_fact : MethodName := ⟨RX9, "fact", "(III)I"⟩
abbrev cX9_event : ByteArray := prog_1_method_10_code
def yX9_event : MethodName := ⟨RX9, "event", "(III)I"⟩
abbrev cX9_copy : ByteArray := prog_1_method_11_code
def yX9_copy : MethodName := ⟨RX9, "copy", "(III)Z"⟩
abbrev cX9_copies : ByteArray := prog_1_method_12_code
def yX9_copies : MethodName := ⟨RX9, "copies", "(II)I"⟩
abbrev cX9_store : ByteArray := prog_1_method_13_code
def yX9_store : MethodName := ⟨RX9, "store", "(III)V"⟩
abbrev cX9_hold : ByteArray := prog_1_method_14_code
def yX9_hold : MethodName := ⟨RX9, "hold", "(II)I"⟩
abbrev cX9_lift : ByteArray := prog_1_method_15_code
def yX9_lift : MethodName := ⟨RX9, "lift", "(I)Z"⟩
abbrev cX9_wish : ByteArray := prog_1_method_16_code
def yX9_wish : MethodName := ⟨RX9, "wish", "(I)I"⟩
abbrev cX9_span : ByteArray := prog_1_method_17_code
def yX9_span : MethodName := ⟨RX9, "span", "(IIII)I"⟩
abbrev cX9_lost : ByteArray := prog_1_method_18_code
def yX9_lost : MethodName := ⟨RX9, "lost", "(IIII)I"⟩
abbrev cX9_why : ByteArray := prog_1_method_19_code
def yX9_why : MethodName := ⟨RX9, "why", "(II)I"⟩
abbrev cX9_places : ByteArray := prog_1_method_20_code
def yX9_places : MethodName := ⟨RX9, "places", "(II)I"⟩
abbrev cX9_misplaced : ByteArray := prog_1_method_21_code
def yX9_misplaced : MethodName := ⟨RX9, "misplaced", "()I"⟩
abbrev cX9_planned : ByteArray := prog_1_method_22_code
def yX9_planned : MethodName := ⟨RX9, "planned", "(III)I"⟩
abbrev cX9_differ : ByteArray := prog_1_method_23_code
def yX9_differ : MethodName := ⟨RX9, "differ", "(II)I"⟩
abbrev cX9_bites : ByteArray := prog_1_method_24_code
def yX9_bites : MethodName := ⟨RX9, "bites", "(II)Z"⟩
abbrev cX9_days : ByteArray := prog_1_method_25_code
def yX9_days : MethodName := ⟨RX9, "days", "(I)I"⟩
abbrev cX9_entry : ByteArray := prog_1_method_26_code
def yX9_entry : MethodName := ⟨RX9, "entry", "(II)I"⟩
abbrev cX9_count : ByteArray := prog_1_method_27_code
def yX9_count : MethodName := ⟨RX9, "count", "(I)I"⟩
abbrev cX9_checkDay : ByteArray := prog_1_method_28_code
def yX9_checkDay : MethodName := ⟨RX9, "checkDay", "(I)V"⟩
abbrev cX9_checkField : ByteArray := prog_1_method_29_code
def yX9_checkField : MethodName := ⟨RX9, "checkField", "(I)V"⟩
abbrev cX9_checkStore : ByteArray := prog_1_method_30_code
def yX9_checkStore : MethodName := ⟨RX9, "checkStore", "(I)V"⟩
abbrev cX9_thingAt : ByteArray := prog_1_method_31_code
def yX9_thingAt : MethodName := ⟨RX9, "thingAt", "(I)LKeepForget$Thing;"⟩
abbrev cX9_setAt : ByteArray := prog_1_method_32_code
def yX9_setAt : MethodName := ⟨RX9, "setAt", "(I)LKeepForget$RuleSet;"⟩
abbrev cX9_chosenSet : ByteArray := prog_1_method_33_code
def yX9_chosenSet : MethodName := ⟨RX9, "chosenSet", "(I)LKeepForget$RuleSet;"⟩
abbrev cX9_setInForce : ByteArray := prog_1_method_34_code
def yX9_setInForce : MethodName := ⟨RX9, "setInForce", "()LKeepForget$RuleSet;"⟩
abbrev cX9_numberInForce : ByteArray := prog_1_method_35_code
def yX9_numberInForce : MethodName := ⟨RX9, "numberInForce", "()I"⟩
abbrev cX9_putOnTape : ByteArray := prog_1_method_36_code
def yX9_putOnTape : MethodName := ⟨RX9, "putOnTape", "(I)V"⟩
abbrev cX9_placesOf : ByteArray := prog_1_method_37_code
def yX9_placesOf : MethodName := ⟨RX9, "placesOf", "(LKeepForget$Thing;I)I"⟩
abbrev cX9_heldFields : ByteArray := prog_1_method_38_code
def yX9_heldFields : MethodName := ⟨RX9, "heldFields", "(LKeepForget$Thing;)I"⟩
abbrev cX9_openHoldCount : ByteArray := prog_1_method_39_code
def yX9_openHoldCount : MethodName := ⟨RX9, "openHoldCount", "()I"⟩
abbrev cX9_copyCount : ByteArray := prog_1_method_40_code
def yX9_copyCount : MethodName := ⟨RX9, "copyCount", "()I"⟩
abbrev cX9_plannedDay : ByteArray := prog_1_method_41_code
def yX9_plannedDay : MethodName := ⟨RX9, "plannedDay", "(LKeepForget$Thing;IILKeepForget$RuleSet;)I"⟩
abbrev cX9_nextBusyDay : ByteArray := prog_1_method_42_code
def yX9_nextBusyDay : MethodName := ⟨RX9, "nextBusyDay", "(I)I"⟩
abbrev cX9_sweep : ByteArray := prog_1_method_43_code
def yX9_sweep : MethodName := ⟨RX9, "sweep", "(I)V"⟩
def RX10 : String := "KeepForgetModel"
def TX10 : u_T := fun k => match k with
  | 0 => ("KeepForgetModel", "code", "I", false)
  | 1 => ("KeepForgetModel", "now", "I", false)
  | 2 => ("KeepForgetModel", "things", "I", false)
  | 3 => ("KeepForgetModel", "sets", "I", false)
  | 4 => ("KeepForgetModel", "holds", "I", false)
  | 5 => ("KeepForgetModel", "logged", "I", false)
  | 6 => ("KeepForgetModel", "late", "I", false)
  | 7 => ("KeepForgetModel", "taped", "I", false)
  | 8 => ("KeepForgetModel", "faultPlace", "I", false)
  | 9 => ("KeepForgetModel", "kind", "[I", true)
  | 10 => ("KeepForgetModel", "fact", "[I", true)
  | 11 => ("KeepForgetModel", "event", "[I", true)
  | 12 => ("KeepForgetModel", "copyBits", "[I", true)
  | 13 => ("KeepForgetModel", "isWished", "[Z", true)
  | 14 => ("KeepForgetModel", "every", "[I", true)
  | 15 => ("KeepForgetModel", "first", "[I", true)
  | 16 => ("KeepForgetModel", "holdThing", "[I", true)
  | 17 => ("KeepForgetModel", "holdFields", "[I", true)
  | 18 => ("KeepForgetModel", "isLifted", "[Z", true)
  | 19 => ("KeepForgetModel", "logThing", "[I", true)
  | 20 => ("KeepForgetModel", "logField", "[I", true)
  | 21 => ("KeepForgetModel", "logStore", "[I", true)
  | 22 => ("KeepForgetModel", "logDay", "[I", true)
  | 23 => ("KeepForgetModel", "logRule", "[I", true)
  | 24 => ("KeepForgetModel", "setDay", "[I", true)
  | 25 => ("KeepForgetModel", "ruleMany", "[I", true)
  | 26 => ("KeepForgetModel", "what", "[I", true)
  | 27 => ("KeepForgetModel", "ofKind", "[I", true)
  | 28 => ("KeepForgetModel", "ofField", "[I", true)
  | 29 => ("KeepForgetModel", "long0", "[I", true)
  | 30 => ("KeepForgetModel", "unit", "[I", true)
  | 31 => ("KeepForgetModel", "from", "[I", true)
  | 32 => ("KeepForgetModel", "stores", "[I", true)
  | 33 => ("KeepForgetModel", "rank", "[I", true)
  | 34 => ("KeepForgetModel", "testMany", "[I", true)
  | 35 => ("KeepForgetModel", "testFact", "[I", true)
  | 36 => ("KeepForgetModel", "testNumber", "[I", true)
  | 37 => ("KeepForgetModel", "isLess", "[Z", true)
  | 38 => ("KeepForgetModel", "tape", "[I", true)
  | 39 => ("KeepForgetModel", "at", "I", false)
  | 40 => ("KeepForgetModel", "size", "I", false)
  | 41 => ("KeepForgetModel", "token", "I", false)
  | 42 => ("KeepForgetModel", "sign", "I", false)
  | 43 => ("KeepForgetModel", "begins", "I", false)
  | 44 => ("KeepForgetModel", "ends", "I", false)
  | 45 => ("KeepForgetModel", "bad", "I", false)
  | 46 => ("KeepForgetModel", "badPlace", "I", false)
  | 47 => ("KeepForgetModel", "rule", "I", false)
  | 48 => ("KeepForgetModel", "spanFrom", "I", false)
  | 49 => ("KeepForgetModel", "spanTo", "I", false)
  | 50 => ("KeepForgetModel", "byFrom", "I", false)
  | 51 => ("KeepForgetModel", "byTo", "I", false)
  | 52 => ("KeepForgetModel", "losts", "I", false)
  | 53 => ("KeepForgetModel", "lostRow", "[I", true)
  | 54 => ("KeepForgetModel", "keptSet", "I", false)
  | 55 => ("KeepForgetModel", "isKept", "[Z", true)
  | 56 => ("KeepForgetModel", "keptFrom", "[I", true)
  | 57 => ("KeepForgetModel", "keptTo", "[I", true)
  | 58 => ("KeepForgetModel", "keptBy", "[I", true)
  | _ => ("KeepForgetModel", "heldBits", "[I", true)
def tyX10 : Nat → FieldType := fun k => match k with
  | 0 => .int
  | 1 => .int
  | 2 => .int
  | 3 => .int
  | 4 => .int
  | 5 => .int
  | 6 => .int
  | 7 => .int
  | 8 => .int
  | 9 => .array .int
  | 10 => .array .int
  | 11 => .array .int
  | 12 => .array .int
  | 13 => .array .boolean
  | 14 => .array .int
  | 15 => .array .int
  | 16 => .array .int
  | 17 => .array .int
  | 18 => .array .boolean
  | 19 => .array .int
  | 20 => .array .int
  | 21 => .array .int
  | 22 => .array .int
  | 23 => .array .int
  | 24 => .array .int
  | 25 => .array .int
  | 26 => .array .int
  | 27 => .array .int
  | 28 => .array .int
  | 29 => .array .int
  | 30 => .array .int
  | 31 => .array .int
  | 32 => .array .int
  | 33 => .array .int
  | 34 => .array .int
  | 35 => .array .int
  | 36 => .array .int
  | 37 => .array .boolean
  | 38 => .array .int
  | 39 => .int
  | 40 => .int
  | 41 => .int
  | 42 => .int
  | 43 => .int
  | 44 => .int
  | 45 => .int
  | 46 => .int
  | 47 => .int
  | 48 => .int
  | 49 => .int
  | 50 => .int
  | 51 => .int
  | 52 => .int
  | 53 => .array .int
  | 54 => .int
  | 55 => .array .boolean
  | 56 => .array .int
  | 57 => .array .int
  | 58 => .array .int
  | _ => .array .int
abbrev wsX100 : List Cond := u_ws RX10 TX10 60
theorem nmX10 : ∀ a, a < 60 → ∀ b, b < 60 → a ≠ b → (TX10 a).2.1 ≠ (TX10 b).2.1 := by decide +kernel
theorem tyX10_ok : ∀ k, k < 60 → parseFieldDescriptor (TX10 k).2.2.1 = some (tyX10 k) := by decide +kernel
abbrev cX10_init : ByteArray := prog_12_method_1_code
def yX10_init : MethodName := ⟨RX10, "<init>", "()V"⟩
abbrev cX10_thrown : ByteArray := prog_12_method_2_code
def yX10_thrown : MethodName := ⟨RX10, "thrown", "()I"⟩
abbrev cX10_fail : ByteArray := prog_12_method_3_code
def yX10_fail : MethodName := ⟨RX10, "fail", "(I)I"⟩
abbrev cX10_isLeap : ByteArray := prog_12_method_4_code
def yX10_isLeap : MethodName := ⟨RX10, "isLeap", "(I)Z"⟩
abbrev cX10_leaps : ByteArray := prog_12_method_5_code
def yX10_leaps : MethodName := ⟨RX10, "leaps", "(I)I"⟩
abbrev cX10_yearDay : ByteArray := prog_12_method_6_code
def yX10_yearDay : MethodName := ⟨RX10, "yearDay", "(I)I"⟩
abbrev cX10_monthDays : ByteArray := prog_12_method_7_code
def yX10_monthDays : MethodName := ⟨RX10, "monthDays", "(II)I"⟩
abbrev cX10_dayOf : ByteArray := prog_12_method_8_code
def yX10_dayOf : MethodName := ⟨RX10, "dayOf", "(III)I"⟩
abbrev cX10_isDay : ByteArray := prog_12_method_9_code
def yX10_isDay : MethodName := ⟨RX10, "isDay", "(I)Z"⟩
abbrev cX10_yearOf : ByteArray := prog_12_method_10_code
def yX10_yearOf : MethodName := ⟨RX10, "yearOf", "(I)I"⟩
abbrev cX10_monthOf : ByteArray := prog_12_method_11_code
def yX10_monthOf : MethodName := ⟨RX10, "monthOf", "(I)I"⟩
abbrev cX10_day : ByteArray := prog_12_method_12_code
def yX10_day : MethodName := ⟨RX10, "day", "(III)I"⟩
abbrev cX10_date : ByteArray := prog_12_method_13_code
def yX10_date : MethodName := ⟨RX10, "date", "(II)I"⟩
abbrev cX10_behind : ByteArray := prog_12_method_14_code
def yX10_behind : MethodName := ⟨RX10, "behind", "(II)I"⟩
abbrev cX10_later : ByteArray := prog_12_method_15_code
def yX10_later : MethodName := ⟨RX10, "later", "(II)I"⟩
abbrev cX10_feed : ByteArray := prog_12_method_16_code
def yX10_feed : MethodName := ⟨RX10, "feed", "(IIIII)I"⟩
abbrev cX10_byteAt : ByteArray := prog_12_method_17_code
def yX10_byteAt : MethodName := ⟨RX10, "byteAt", "(I)I"⟩
abbrev cX10_isLetter : ByteArray := prog_12_method_18_code
def yX10_isLetter : MethodName := ⟨RX10, "isLetter", "(I)Z"⟩
abbrev cX10_isDigit : ByteArray := prog_12_method_19_code
def yX10_isDigit : MethodName := ⟨RX10, "isDigit", "(I)Z"⟩
abbrev cX10_step : ByteArray := prog_12_method_20_code
def yX10_step : MethodName := ⟨RX10, "step", "()V"⟩
abbrev cX10_wrong : ByteArray := prog_12_method_21_code
def yX10_wrong : MethodName := ⟨RX10, "wrong", "(I)V"⟩
abbrev cX10_isWord : ByteArray := prog_12_method_22_code
def yX10_isWord : MethodName := ⟨RX10, "isWord", "(Ljava/lang/String;)Z"⟩
abbrev cX10_numbered : ByteArray := prog_12_method_23_code
def yX10_numbered : MethodName := ⟨RX10, "numbered", "(II)I"⟩
abbrev cX10_word : ByteArray := prog_12_method_24_code
def yX10_word : MethodName := ⟨RX10, "word", "(Ljava/lang/String;)V"⟩
abbrev cX10_readNumbered : ByteArray := prog_12_method_25_code
def yX10_readNumbered : MethodName := ⟨RX10, "readNumbered", "(II)I"⟩
abbrev cX10_readNumber : ByteArray := prog_12_method_26_code
def yX10_readNumber : MethodName := ⟨RX10, "readNumber", "()I"⟩
abbrev cX10_readWhat : ByteArray := prog_12_method_27_code
def yX10_readWhat : MethodName := ⟨RX10, "readWhat", "()V"⟩
abbrev cX10_readTests : ByteArray := prog_12_method_28_code
def yX10_readTests : MethodName := ⟨RX10, "readTests", "()V"⟩
abbrev cX10_readRule : ByteArray := prog_12_method_29_code
def yX10_readRule : MethodName := ⟨RX10, "readRule", "()V"⟩
abbrev cX10_rules : ByteArray := prog_12_method_30_code
def yX10_rules : MethodName := ⟨RX10, "rules", "(II)I"⟩
abbrev cX10_fault : ByteArray := prog_12_method_31_code
def yX10_fault : MethodName := ⟨RX10, "fault", "()I"⟩
abbrev cX10_isThing : ByteArray := prog_12_method_32_code
def yX10_isThing : MethodName := ⟨RX10, "isThing", "(I)Z"⟩
abbrev cX10_isField : ByteArray := prog_12_method_33_code
def yX10_isField : MethodName := ⟨RX10, "isField", "(I)Z"⟩
abbrev cX10_isStore : ByteArray := prog_12_method_34_code
def yX10_isStore : MethodName := ⟨RX10, "isStore", "(I)Z"⟩
abbrev cX10_thing : ByteArray := prog_12_method_35_code
def yX10_thing : MethodName := ⟨RX10, "thing", "(I)I"⟩
abbrev cX10_fact : ByteArray := prog_12_method_36_code
def yX10_fact : MethodName := ⟨RX10, "fact", "(III)I"⟩
abbrev cX10_event : ByteArray := prog_12_method_37_code
def yX10_event : MethodName := ⟨RX10, "event", "(III)I"⟩
abbrev cX10_force : ByteArray := prog_12_method_38_code
def yX10_force : MethodName := ⟨RX10, "force", "(I)I"⟩
abbrev cX10_isFor : ByteArray := prog_12_method_39_code
def yX10_isFor : MethodName := ⟨RX10, "isFor", "(III)Z"⟩
abbrev cX10_until : ByteArray := prog_12_method_40_code
def yX10_until : MethodName := ⟨RX10, "until", "(II)I"⟩
abbrev cX10_bid : ByteArray := prog_12_method_41_code
def yX10_bid : MethodName := ⟨RX10, "bid", "(III)V"⟩
abbrev cX10_tell : ByteArray := prog_12_method_42_code
def yX10_tell : MethodName := ⟨RX10, "tell", "(III)V"⟩
abbrev cX10_isHeld : ByteArray := prog_12_method_43_code
def yX10_isHeld : MethodName := ⟨RX10, "isHeld", "(II)Z"⟩
abbrev cX10_know : ByteArray := prog_12_method_44_code
def yX10_know : MethodName := ⟨RX10, "know", "(II)V"⟩
abbrev cX10_isDue : ByteArray := prog_12_method_45_code
def yX10_isDue : MethodName := ⟨RX10, "isDue", "(III)Z"⟩
abbrev cX10_placesOf : ByteArray := prog_12_method_46_code
def yX10_placesOf : MethodName := ⟨RX10, "placesOf", "(II)I"⟩
abbrev cX10_copy : ByteArray := prog_12_method_47_code
def yX10_copy : MethodName := ⟨RX10, "copy", "(III)Z"⟩
abbrev cX10_copies : ByteArray := prog_12_method_48_code
def yX10_copies : MethodName := ⟨RX10, "copies", "(II)I"⟩
abbrev cX10_store : ByteArray := prog_12_method_49_code
def yX10_store : MethodName := ⟨RX10, "store", "(III)V"⟩
abbrev cX10_hold : ByteArray := prog_12_method_50_code
def yX10_hold : MethodName := ⟨RX10, "hold", "(II)I"⟩
abbrev cX10_lift : ByteArray := prog_12_method_51_code
def yX10_lift : MethodName := ⟨RX10, "lift", "(I)Z"⟩
abbrev cX10_wish : ByteArray := prog_12_method_52_code
def yX10_wish : MethodName := ⟨RX10, "wish", "(I)I"⟩
abbrev cX10_isSet : ByteArray := prog_12_method_53_code
def yX10_isSet : MethodName := ⟨RX10, "isSet", "(I)Z"⟩
abbrev cX10_span : ByteArray := prog_12_method_54_code
def yX10_span : MethodName := ⟨RX10, "span", "(IIII)I"⟩
abbrev cX10_lost : ByteArray := prog_12_method_55_code
def yX10_lost : MethodName := ⟨RX10, "lost", "(IIII)I"⟩
abbrev cX10_why : ByteArray := prog_12_method_56_code
def yX10_why : MethodName := ⟨RX10, "why", "(II)I"⟩
abbrev cX10_places : ByteArray := prog_12_method_57_code
def yX10_places : MethodName := ⟨RX10, "places", "(II)I"⟩
abbrev cX10_ones : ByteArray := prog_12_method_58_code
def yX10_ones : MethodName := ⟨RX10, "ones", "(I)I"⟩
abbrev cX10_misplaced : ByteArray := prog_12_method_59_code
def yX10_misplaced : MethodName := ⟨RX10, "misplaced", "()I"⟩
abbrev cX10_planned : ByteArray := prog_12_method_60_code
def yX10_planned : MethodName := ⟨RX10, "planned", "(III)I"⟩
abbrev cX10_differ : ByteArray := prog_12_method_61_code
def yX10_differ : MethodName := ⟨RX10, "differ", "(II)I"⟩
abbrev cX10_bites : ByteArray := prog_12_method_62_code
def yX10_bites : MethodName := ⟨RX10, "bites", "(II)Z"⟩
abbrev cX10_sweep : ByteArray := prog_12_method_63_code
def yX10_sweep : MethodName := ⟨RX10, "sweep", "(I)V"⟩
abbrev cX10_days : ByteArray := prog_12_method_64_code
def yX10_days : MethodName := ⟨RX10, "days", "(I)I"⟩
abbrev cX10_entry : ByteArray := prog_12_method_65_code
def yX10_entry : MethodName := ⟨RX10, "entry", "(II)I"⟩
abbrev cX10_count : ByteArray := prog_12_method_66_code
def yX10_count : MethodName := ⟨RX10, "count", "(I)I"⟩
def RJ6 : String := "java/lang/Integer"
def TJ6 : u_T := fun k => match k with
  | _ => ("", "", "", false)
def tyJ6 : Nat → FieldType := fun k => match k with
  | _ => .int
abbrev wsJ60 : List Cond := u_ws RJ6 TJ6 0
theorem nmJ6 : ∀ a, a < 0 → ∀ b, b < 0 → a ≠ b → (TJ6 a).2.1 ≠ (TJ6 b).2.1 := by decide +kernel
theorem tyJ6_ok : ∀ k, k < 0 → parseFieldDescriptor (TJ6 k).2.2.1 = some (tyJ6 k) := by decide +kernel
abbrev cJ6_bitCount_0f7a4 : ByteArray := prog_15_method_49_code
def yJ6_bitCount_0f7a4 : MethodName := ⟨RJ6, "bitCount", "(I)I"⟩
def RJ9 : String := "java/lang/Math"
def TJ9 : u_T := fun k => match k with
  | _ => ("", "", "", false)
def tyJ9 : Nat → FieldType := fun k => match k with
  | _ => .int
abbrev wsJ90 : List Cond := u_ws RJ9 TJ9 0
theorem nmJ9 : ∀ a, a < 0 → ∀ b, b < 0 → a ≠ b → (TJ9 a).2.1 ≠ (TJ9 b).2.1 := by decide +kernel
theorem tyJ9_ok : ∀ k, k < 0 → parseFieldDescriptor (TJ9 k).2.2.1 = some (tyJ9 k) := by decide +kernel
abbrev cJ9_max_7cf53 : ByteArray := prog_16_method_65_code
def yJ9_max_7cf53 : MethodName := ⟨RJ9, "max", "(II)I"⟩
abbrev cJ9_min_7cf53 : ByteArray := prog_16_method_69_code
def yJ9_min_7cf53 : MethodName := ⟨RJ9, "min", "(II)I"⟩
def RJ0 : String := "java/lang/String"
def TJ0 : u_T := fun k => match k with
  | _ => ("", "", "", false)
def tyJ0 : Nat → FieldType := fun k => match k with
  | _ => .int
abbrev wsJ00 : List Cond := u_ws RJ0 TJ0 0
theorem nmJ0 : ∀ a, a < 0 → ∀ b, b < 0 → a ≠ b → (TJ0 a).2.1 ≠ (TJ0 b).2.1 := by decide +kernel
theorem tyJ0_ok : ∀ k, k < 0 → parseFieldDescriptor (TJ0 k).2.2.1 = some (tyJ0 k) := by decide +kernel
abbrev cJ0_length_8abf5 : ByteArray := prog_18_method_54_code
def yJ0_length_8abf5 : MethodName := ⟨RJ0, "length", "()I"⟩
abbrev cJ0_charAt_5068e : ByteArray := prog_18_method_56_code
def yJ0_charAt_5068e : MethodName := ⟨RJ0, "charAt", "(I)C"⟩
abbrev cJ0_coder_7d493 : ByteArray := prog_18_method_152_code
def yJ0_coder_7d493 : MethodName := ⟨RJ0, "coder", "()B"⟩
abbrev cJ0_isLatin1_aae02 : ByteArray := prog_18_method_154_code
def yJ0_isLatin1_aae02 : MethodName := ⟨RJ0, "isLatin1", "()Z"⟩
abbrev cJ0_checkIndex_df160 : ByteArray := prog_18_method_155_code
def yJ0_checkIndex_df160 : MethodName := ⟨RJ0, "checkIndex", "(II)V"⟩
def RJ1 : String := "java/lang/StringLatin1"
def TJ1 : u_T := fun k => match k with
  | _ => ("", "", "", false)
def tyJ1 : Nat → FieldType := fun k => match k with
  | _ => .int
abbrev wsJ10 : List Cond := u_ws RJ1 TJ1 0
theorem nmJ1 : ∀ a, a < 0 → ∀ b, b < 0 → a ≠ b → (TJ1 a).2.1 ≠ (TJ1 b).2.1 := by decide +kernel
theorem tyJ1_ok : ∀ k, k < 0 → parseFieldDescriptor (TJ1 k).2.2.1 = some (tyJ1 k) := by decide +kernel
abbrev cJ1_charAt_3b067 : ByteArray := prog_19_method_2_code
def yJ1_charAt_3b067 : MethodName := ⟨RJ1, "charAt", "([BI)C"⟩
def RJ2 : String := "java/lang/StringUTF16"
def TJ2 : u_T := fun k => match k with
  | _ => ("", "", "", false)
def tyJ2 : Nat → FieldType := fun k => match k with
  | _ => .int
abbrev wsJ20 : List Cond := u_ws RJ2 TJ2 0
theorem nmJ2 : ∀ a, a < 0 → ∀ b, b < 0 → a ≠ b → (TJ2 a).2.1 ≠ (TJ2 b).2.1 := by decide +kernel
theorem tyJ2_ok : ∀ k, k < 0 → parseFieldDescriptor (TJ2 k).2.2.1 = some (tyJ2 k) := by decide +kernel
abbrev cJ2_getChar_3b067 : ByteArray := prog_20_method_5_code
def yJ2_getChar_3b067 : MethodName := ⟨RJ2, "getChar", "([BI)C"⟩
abbrev cJ2_length_9d52b : ByteArray := prog_20_method_6_code
def yJ2_length_9d52b : MethodName := ⟨RJ2, "length", "([B)I"⟩
abbrev cJ2_charAt_3b067 : ByteArray := prog_20_method_83_code
def yJ2_charAt_3b067 : MethodName := ⟨RJ2, "charAt", "([BI)C"⟩
abbrev cJ2_checkIndex_2214a : ByteArray := prog_20_method_91_code
def yJ2_checkIndex_2214a : MethodName := ⟨RJ2, "checkIndex", "(I[B)V"⟩
def RJ3 : String := "jdk/internal/util/Preconditions"
def TJ3 : u_T := fun k => match k with
  | _ => ("", "", "", false)
def tyJ3 : Nat → FieldType := fun k => match k with
  | _ => .int
abbrev wsJ30 : List Cond := u_ws RJ3 TJ3 0
theorem nmJ3 : ∀ a, a < 0 → ∀ b, b < 0 → a ≠ b → (TJ3 a).2.1 ≠ (TJ3 b).2.1 := by decide +kernel
theorem tyJ3_ok : ∀ k, k < 0 → parseFieldDescriptor (TJ3 k).2.2.1 = some (tyJ3 k) := by decide +kernel
abbrev cJ3_checkIndex_8e157 : ByteArray := prog_23_method_11_code
def yJ3_checkIndex_8e157 : MethodName := ⟨RJ3, "checkIndex", "(IILjava/util/function/BiFunction;)I"⟩
def RL : String := "KeepForgetLaw"
abbrev cL_day : ByteArray := method_3_code
def yL_day : MethodName := ⟨RL, "day", "(LKeepForget;III[J)I"⟩
abbrev cL_date : ByteArray := method_4_code
def yL_date : MethodName := ⟨RL, "date", "(LKeepForget;II[J)I"⟩
abbrev cL_later : ByteArray := method_5_code
def yL_later : MethodName := ⟨RL, "later", "(LKeepForget;II[J)I"⟩
abbrev cL_rules : ByteArray := method_6_code
def yL_rules : MethodName := ⟨RL, "rules", "(LKeepForget;II[J)I"⟩
abbrev cL_fact : ByteArray := method_7_code
def yL_fact : MethodName := ⟨RL, "fact", "(LKeepForget;III[J)I"⟩
abbrev cL_event : ByteArray := method_8_code
def yL_event : MethodName := ⟨RL, "event", "(LKeepForget;III[J)I"⟩
abbrev cL_copy : ByteArray := method_9_code
def yL_copy : MethodName := ⟨RL, "copy", "(LKeepForget;III[J)I"⟩
abbrev cL_copies : ByteArray := method_10_code
def yL_copies : MethodName := ⟨RL, "copies", "(LKeepForget;II[J)I"⟩
abbrev cL_store : ByteArray := method_11_code
def yL_store : MethodName := ⟨RL, "store", "(LKeepForget;III)I"⟩
abbrev cL_hold : ByteArray := method_12_code
def yL_hold : MethodName := ⟨RL, "hold", "(LKeepForget;II[J)I"⟩
abbrev cL_lift : ByteArray := method_13_code
def yL_lift : MethodName := ⟨RL, "lift", "(LKeepForget;I[J)I"⟩
abbrev cL_wish : ByteArray := method_14_code
def yL_wish : MethodName := ⟨RL, "wish", "(LKeepForget;I[J)I"⟩
abbrev cL_span : ByteArray := method_15_code
def yL_span : MethodName := ⟨RL, "span", "(LKeepForget;IIII[J)I"⟩
abbrev cL_lost : ByteArray := method_16_code
def yL_lost : MethodName := ⟨RL, "lost", "(LKeepForget;IIII[J)I"⟩
abbrev cL_why : ByteArray := method_17_code
def yL_why : MethodName := ⟨RL, "why", "(LKeepForget;II[J)I"⟩
abbrev cL_places : ByteArray := method_18_code
def yL_places : MethodName := ⟨RL, "places", "(LKeepForget;II[J)I"⟩
abbrev cL_planned : ByteArray := method_19_code
def yL_planned : MethodName := ⟨RL, "planned", "(LKeepForget;III[J)I"⟩
abbrev cL_differ : ByteArray := method_20_code
def yL_differ : MethodName := ⟨RL, "differ", "(LKeepForget;II[J)I"⟩
abbrev cL_bites : ByteArray := method_21_code
def yL_bites : MethodName := ⟨RL, "bites", "(LKeepForget;II[J)I"⟩
abbrev cL_days : ByteArray := method_22_code
def yL_days : MethodName := ⟨RL, "days", "(LKeepForget;I[J)I"⟩
abbrev cL_entry : ByteArray := method_23_code
def yL_entry : MethodName := ⟨RL, "entry", "(LKeepForget;II[J)I"⟩
abbrev cL_count : ByteArray := method_24_code
def yL_count : MethodName := ⟨RL, "count", "(LKeepForget;I[J)I"⟩
abbrev cL_law : ByteArray := code
def yL_law : MethodName := ⟨RL, "law", "([I)Z"⟩
abbrev vwCl : List vw_C := [(RX1, TX1, 3), (RX2, TX2, 3), (RX3, TX3, 12), (RX4, TX4, 7), (RX5, TX5, 5), (RX6, TX6, 8), (RX7, TX7, 2), (RX8, TX8, 6), (RX9, TX9, 13), (RX10, TX10, 60)]
end
section
/-! the tables' good words, and each by its place -/
def tb : List Cond := lw_tbl.filter goodWord
theorem tb_of {w : Cond} (h : w ∈ lw_tbl) (g : goodWord w = true) : w ∈ tb := List.mem_filter.mpr ⟨h, g⟩
theorem tb_t (i : Nat) {w : Cond} (h : tables_1[i]? = some w) (g : goodWord w = true) : w ∈ tb := tb_of (List.mem_append_right _ (List.mem_of_getElem? h)) g
theorem tb_p (i : Nat) {q : MethodName × Nat} (h : lw_privs[i]? = some q) (g : goodWord (Cond.selects q.1.cls q.1 q.1) = true) : Cond.selects q.1.cls q.1 q.1 ∈ tb := tb_of (List.mem_append_left _ (List.mem_map.mpr ⟨q, List.mem_of_getElem? h, rfl⟩)) g
def wt (y : MethodName) (cc : ByteArray) (n : Nat) (r : Option FieldType) : List Cond := Cond.code y cc n r :: tb
theorem tb_in {y : MethodName} {cc : ByteArray} {n : Nat} {r : Option FieldType} (h : Cond.code y cc n r ∈ tb) : GoodIn tb (wt y cc n r) := fun w hw => by
  have hm : w ∈ tb := (List.mem_cons.mp hw).elim (fun e => by rw [e]; exact h) id
  exact ⟨hm, good_of_word (List.mem_filter.mp hm).2⟩
theorem tW_0 : (Jvm.Cond.initialized "KeepForgetLaw") ∈ tb := tb_t 0 (by decide +kernel) (by decide +kernel)
theorem tW_1 : (Jvm.Cond.initialized "KeepForget") ∈ tb := tb_t 1 (by decide +kernel) (by decide +kernel)
theorem tW_2 : (Jvm.Cond.initialized "KeepForget$Sweeper") ∈ tb := tb_t 2 (by decide +kernel) (by decide +kernel)
theorem tW_3 : (Jvm.Cond.initialized "KeepForget$Log") ∈ tb := tb_t 3 (by decide +kernel) (by decide +kernel)
theorem tW_4 : (Jvm.Cond.initialized "KeepForget$Span") ∈ tb := tb_t 4 (by decide +kernel) (by decide +kernel)
theorem tW_5 : (Jvm.Cond.initialized "KeepForgetModel") ∈ tb := tb_t 5 (by decide +kernel) (by decide +kernel)
theorem tW_6 : (Jvm.Cond.initialized "java/lang/Throwable") ∈ tb := tb_t 6 (by decide +kernel) (by decide +kernel)
theorem tW_7 : (Jvm.Cond.initialized "java/lang/Exception") ∈ tb := tb_t 7 (by decide +kernel) (by decide +kernel)
theorem tW_8 : (Jvm.Cond.initialized "java/lang/RuntimeException") ∈ tb := tb_t 8 (by decide +kernel) (by decide +kernel)
theorem tW_9 : (Jvm.Cond.initialized "java/lang/IllegalArgumentException") ∈ tb := tb_t 9 (by decide +kernel) (by decide +kernel)
theorem tW_10 : (Jvm.Cond.initialized "KeepForget$Dates") ∈ tb := tb_t 10 (by decide +kernel) (by decide +kernel)
theorem tW_11 : (Jvm.Cond.initialized "java/lang/Math") ∈ tb := tb_t 11 (by decide +kernel) (by decide +kernel)
theorem tW_12 : (Jvm.Cond.initialized "KeepForget$RuleSet") ∈ tb := tb_t 12 (by decide +kernel) (by decide +kernel)
theorem tW_13 : (Jvm.Cond.initialized "KeepForget$RuleReader") ∈ tb := tb_t 13 (by decide +kernel) (by decide +kernel)
theorem tW_14 : (Jvm.Cond.initialized "java/lang/String") ∈ tb := tb_t 14 (by decide +kernel) (by decide +kernel)
theorem tW_15 : (Jvm.Cond.initialized "java/lang/StringLatin1") ∈ tb := tb_t 15 (by decide +kernel) (by decide +kernel)
theorem tW_16 : (Jvm.Cond.initialized "jdk/internal/util/Preconditions") ∈ tb := tb_t 16 (by decide +kernel) (by decide +kernel)
theorem tW_17 : (Jvm.Cond.initialized "java/lang/StringUTF16") ∈ tb := tb_t 17 (by decide +kernel) (by decide +kernel)
theorem tW_18 : (Jvm.Cond.initialized "KeepForget$Rule") ∈ tb := tb_t 18 (by decide +kernel) (by decide +kernel)
theorem tW_19 : (Jvm.Cond.initialized "KeepForget$Thing") ∈ tb := tb_t 19 (by decide +kernel) (by decide +kernel)
theorem tW_20 : (Jvm.Cond.initialized "java/util/NoSuchElementException") ∈ tb := tb_t 20 (by decide +kernel) (by decide +kernel)
theorem tW_21 : (Jvm.Cond.initialized "KeepForget$Hold") ∈ tb := tb_t 21 (by decide +kernel) (by decide +kernel)
theorem tW_22 : (Jvm.Cond.initialized "java/lang/Integer") ∈ tb := tb_t 22 (by decide +kernel) (by decide +kernel)
theorem tW_23 : (Jvm.Cond.classLink "KeepForgetLaw" (8 : Nat) "KeepForget") ∈ tb := tb_t 23 (by decide +kernel) (by decide +kernel)
theorem tW_24 : (Jvm.Cond.instantiable "KeepForget" (13 : Nat)) ∈ tb := tb_t 24 (by decide +kernel) (by decide +kernel)
theorem tW_25 : (Jvm.Cond.methodLink "KeepForgetLaw" (87 : Nat) ({ cls := "KeepForget", name := "<init>", desc := "()V" } : Jvm.MethodName)) ∈ tb := tb_t 25 (by decide +kernel) (by decide +kernel)
theorem tW_26 : (Jvm.Cond.instanceMethod ({ cls := "KeepForget", name := "<init>", desc := "()V" } : Jvm.MethodName)) ∈ tb := tb_t 26 (by decide +kernel) (by decide +kernel)
theorem tW_27 : (Jvm.Cond.code ({ cls := "KeepForget", name := "<init>", desc := "()V" } : Jvm.MethodName) prog_1_method_1_code (2 : Nat) (Option.none : Option Jvm.ClassFile.FieldType)) ∈ tb := tb_t 27 (by decide +kernel) (by decide +kernel)
theorem tW_28 : (Jvm.Cond.methodLink "KeepForget" (1 : Nat) ({ cls := "java/lang/Object", name := "<init>", desc := "()V" } : Jvm.MethodName)) ∈ tb := tb_t 28 (by decide +kernel) (by decide +kernel)
theorem tW_29 : (Jvm.Cond.instanceMethod ({ cls := "java/lang/Object", name := "<init>", desc := "()V" } : Jvm.MethodName)) ∈ tb := tb_t 29 (by decide +kernel) (by decide +kernel)
theorem tW_30 : (Jvm.Cond.code ({ cls := "java/lang/Object", name := "<init>", desc := "()V" } : Jvm.MethodName) object_method_1_code (1 : Nat) (Option.none : Option Jvm.ClassFile.FieldType)) ∈ tb := tb_t 30 (by decide +kernel) (by decide +kernel)
theorem tW_31 : (Jvm.Cond.classLink "KeepForget" (17 : Nat) "KeepForget$RuleSet") ∈ tb := tb_t 31 (by decide +kernel) (by decide +kernel)
theorem tW_33 : (Jvm.Cond.classLink "KeepForget" (23 : Nat) "KeepForget$Thing") ∈ tb := tb_t 33 (by decide +kernel) (by decide +kernel)
theorem tW_35 : (Jvm.Cond.classLink "KeepForget" (29 : Nat) "KeepForget$Sweeper") ∈ tb := tb_t 35 (by decide +kernel) (by decide +kernel)
theorem tW_37 : (Jvm.Cond.instantiable "KeepForget$Sweeper" (2 : Nat)) ∈ tb := tb_t 37 (by decide +kernel) (by decide +kernel)
theorem tW_38 : (Jvm.Cond.methodLink "KeepForget" (35 : Nat) ({ cls := "KeepForget$Sweeper", name := "<init>", desc := "()V" } : Jvm.MethodName)) ∈ tb := tb_t 38 (by decide +kernel) (by decide +kernel)
theorem tW_39 : (Jvm.Cond.instanceMethod ({ cls := "KeepForget$Sweeper", name := "<init>", desc := "()V" } : Jvm.MethodName)) ∈ tb := tb_t 39 (by decide +kernel) (by decide +kernel)
theorem tW_40 : (Jvm.Cond.code ({ cls := "KeepForget$Sweeper", name := "<init>", desc := "()V" } : Jvm.MethodName) prog_9_method_1_code (1 : Nat) (Option.none : Option Jvm.ClassFile.FieldType)) ∈ tb := tb_t 40 (by decide +kernel) (by decide +kernel)
theorem tW_41 : (Jvm.Cond.methodLink "KeepForget$Sweeper" (3 : Nat) ({ cls := "java/lang/Object", name := "<init>", desc := "()V" } : Jvm.MethodName)) ∈ tb := tb_t 41 (by decide +kernel) (by decide +kernel)
theorem tW_42 : (Jvm.Cond.fieldLink "KeepForget$Sweeper" (9 : Nat) "KeepForget$Sweeper" "every" "I") ∈ tb := tb_t 42 (by decide +kernel) (by decide +kernel)
theorem tW_43 : (Jvm.Cond.fieldLink "KeepForget" (162 : Nat) "KeepForget$Sweeper" "every" "I") ∈ tb := tb_t 43 (by decide +kernel) (by decide +kernel)
theorem tW_44 : (Jvm.Cond.fieldLink "KeepForget$Sweeper" (15 : Nat) "KeepForget$Sweeper" "first" "I") ∈ tb := tb_t 44 (by decide +kernel) (by decide +kernel)
theorem tW_45 : (Jvm.Cond.fieldLink "KeepForget" (165 : Nat) "KeepForget$Sweeper" "first" "I") ∈ tb := tb_t 45 (by decide +kernel) (by decide +kernel)
theorem tW_51 : (Jvm.Cond.arrayClass Jvm.ClassFile.FieldType.byte) ∈ tb := tb_t 51 (by decide +kernel) (by decide +kernel)
theorem tW_52 : (Jvm.Cond.classLink "KeepForget" (36 : Nat) "KeepForget$Hold") ∈ tb := tb_t 52 (by decide +kernel) (by decide +kernel)
theorem tW_54 : (Jvm.Cond.classLink "KeepForget" (42 : Nat) "KeepForget$Log") ∈ tb := tb_t 54 (by decide +kernel) (by decide +kernel)
theorem tW_55 : (Jvm.Cond.instantiable "KeepForget$Log" (3 : Nat)) ∈ tb := tb_t 55 (by decide +kernel) (by decide +kernel)
theorem tW_56 : (Jvm.Cond.methodLink "KeepForget" (44 : Nat) ({ cls := "KeepForget$Log", name := "<init>", desc := "()V" } : Jvm.MethodName)) ∈ tb := tb_t 56 (by decide +kernel) (by decide +kernel)
theorem tW_57 : (Jvm.Cond.instanceMethod ({ cls := "KeepForget$Log", name := "<init>", desc := "()V" } : Jvm.MethodName)) ∈ tb := tb_t 57 (by decide +kernel) (by decide +kernel)
theorem tW_58 : (Jvm.Cond.code ({ cls := "KeepForget$Log", name := "<init>", desc := "()V" } : Jvm.MethodName) prog_4_method_1_code (1 : Nat) (Option.none : Option Jvm.ClassFile.FieldType)) ∈ tb := tb_t 58 (by decide +kernel) (by decide +kernel)
theorem tW_59 : (Jvm.Cond.methodLink "KeepForget$Log" (3 : Nat) ({ cls := "java/lang/Object", name := "<init>", desc := "()V" } : Jvm.MethodName)) ∈ tb := tb_t 59 (by decide +kernel) (by decide +kernel)
theorem tW_60 : (Jvm.Cond.fieldLink "KeepForget$Log" (9 : Nat) "KeepForget$Log" "parts" "[I") ∈ tb := tb_t 60 (by decide +kernel) (by decide +kernel)
theorem tW_61 : (Jvm.Cond.fieldLink "KeepForget" (281 : Nat) "KeepForget$Log" "parts" "[I") ∈ tb := tb_t 61 (by decide +kernel) (by decide +kernel)
theorem tW_62 : (Jvm.Cond.fieldLink "KeepForget$Log" (15 : Nat) "KeepForget$Log" "lineCount" "I") ∈ tb := tb_t 62 (by decide +kernel) (by decide +kernel)
theorem tW_63 : (Jvm.Cond.fieldLink "KeepForget" (276 : Nat) "KeepForget$Log" "lineCount" "I") ∈ tb := tb_t 63 (by decide +kernel) (by decide +kernel)
theorem tW_64 : (Jvm.Cond.fieldLink "KeepForget$Log" (24 : Nat) "KeepForget$Log" "lateCount" "I") ∈ tb := tb_t 64 (by decide +kernel) (by decide +kernel)
theorem tW_65 : (Jvm.Cond.fieldLink "KeepForget" (288 : Nat) "KeepForget$Log" "lateCount" "I") ∈ tb := tb_t 65 (by decide +kernel) (by decide +kernel)
theorem tW_73 : (Jvm.Cond.arrayClass Jvm.ClassFile.FieldType.int) ∈ tb := tb_t 73 (by decide +kernel) (by decide +kernel)
theorem tW_74 : (Jvm.Cond.classLink "KeepForget" (49 : Nat) "KeepForget$Span") ∈ tb := tb_t 74 (by decide +kernel) (by decide +kernel)
theorem tW_75 : (Jvm.Cond.instantiable "KeepForget$Span" (8 : Nat)) ∈ tb := tb_t 75 (by decide +kernel) (by decide +kernel)
theorem tW_76 : (Jvm.Cond.methodLink "KeepForget" (51 : Nat) ({ cls := "KeepForget$Span", name := "<init>", desc := "()V" } : Jvm.MethodName)) ∈ tb := tb_t 76 (by decide +kernel) (by decide +kernel)
theorem tW_77 : (Jvm.Cond.instanceMethod ({ cls := "KeepForget$Span", name := "<init>", desc := "()V" } : Jvm.MethodName)) ∈ tb := tb_t 77 (by decide +kernel) (by decide +kernel)
theorem tW_78 : (Jvm.Cond.code ({ cls := "KeepForget$Span", name := "<init>", desc := "()V" } : Jvm.MethodName) prog_8_method_1_code (1 : Nat) (Option.none : Option Jvm.ClassFile.FieldType)) ∈ tb := tb_t 78 (by decide +kernel) (by decide +kernel)
theorem tW_79 : (Jvm.Cond.methodLink "KeepForget$Span" (3 : Nat) ({ cls := "java/lang/Object", name := "<init>", desc := "()V" } : Jvm.MethodName)) ∈ tb := tb_t 79 (by decide +kernel) (by decide +kernel)
theorem tW_80 : (Jvm.Cond.fieldLink "KeepForget$Span" (15 : Nat) "KeepForget$Span" "from" "I") ∈ tb := tb_t 80 (by decide +kernel) (by decide +kernel)
theorem tW_81 : (Jvm.Cond.fieldLink "KeepForget" (213 : Nat) "KeepForget$Span" "from" "I") ∈ tb := tb_t 81 (by decide +kernel) (by decide +kernel)
theorem tW_82 : (Jvm.Cond.fieldLink "KeepForget$Span" (20 : Nat) "KeepForget$Span" "to" "I") ∈ tb := tb_t 82 (by decide +kernel) (by decide +kernel)
theorem tW_83 : (Jvm.Cond.fieldLink "KeepForget$Log" (27 : Nat) "KeepForget$Span" "to" "I") ∈ tb := tb_t 83 (by decide +kernel) (by decide +kernel)
theorem tW_84 : (Jvm.Cond.fieldLink "KeepForget" (216 : Nat) "KeepForget$Span" "to" "I") ∈ tb := tb_t 84 (by decide +kernel) (by decide +kernel)
theorem tW_85 : (Jvm.Cond.fieldLink "KeepForget$Span" (23 : Nat) "KeepForget$Span" "fromRule" "I") ∈ tb := tb_t 85 (by decide +kernel) (by decide +kernel)
theorem tW_86 : (Jvm.Cond.fieldLink "KeepForget" (219 : Nat) "KeepForget$Span" "fromRule" "I") ∈ tb := tb_t 86 (by decide +kernel) (by decide +kernel)
theorem tW_87 : (Jvm.Cond.fieldLink "KeepForget$Span" (26 : Nat) "KeepForget$Span" "toRule" "I") ∈ tb := tb_t 87 (by decide +kernel) (by decide +kernel)
theorem tW_88 : (Jvm.Cond.fieldLink "KeepForget$Log" (19 : Nat) "KeepForget$Span" "toRule" "I") ∈ tb := tb_t 88 (by decide +kernel) (by decide +kernel)
theorem tW_89 : (Jvm.Cond.fieldLink "KeepForget" (222 : Nat) "KeepForget$Span" "toRule" "I") ∈ tb := tb_t 89 (by decide +kernel) (by decide +kernel)
theorem tW_90 : (Jvm.Cond.fieldLink "KeepForget$Span" (9 : Nat) "KeepForget$Span" "lostRules" "[I") ∈ tb := tb_t 90 (by decide +kernel) (by decide +kernel)
theorem tW_91 : (Jvm.Cond.fieldLink "KeepForget" (232 : Nat) "KeepForget$Span" "lostRules" "[I") ∈ tb := tb_t 91 (by decide +kernel) (by decide +kernel)
theorem tW_92 : (Jvm.Cond.fieldLink "KeepForget$Span" (29 : Nat) "KeepForget$Span" "lostCount" "I") ∈ tb := tb_t 92 (by decide +kernel) (by decide +kernel)
theorem tW_93 : (Jvm.Cond.fieldLink "KeepForget" (225 : Nat) "KeepForget$Span" "lostCount" "I") ∈ tb := tb_t 93 (by decide +kernel) (by decide +kernel)
theorem tW_94 : (Jvm.Cond.fieldLink "KeepForget$Span" (37 : Nat) "KeepForget$Span" "isHeld" "Z") ∈ tb := tb_t 94 (by decide +kernel) (by decide +kernel)
theorem tW_95 : (Jvm.Cond.fieldLink "KeepForget" (235 : Nat) "KeepForget$Span" "isHeld" "Z") ∈ tb := tb_t 95 (by decide +kernel) (by decide +kernel)
theorem tW_96 : (Jvm.Cond.fieldLink "KeepForget$Span" (44 : Nat) "KeepForget$Span" "isWished" "Z") ∈ tb := tb_t 96 (by decide +kernel) (by decide +kernel)
theorem tW_114 : (Jvm.Cond.fieldLink "KeepForget" (9 : Nat) "KeepForget" "tape" "[B") ∈ tb := tb_t 114 (by decide +kernel) (by decide +kernel)
theorem tW_115 : (Jvm.Cond.fieldLink "KeepForget" (93 : Nat) "KeepForget" "tapeLength" "I") ∈ tb := tb_t 115 (by decide +kernel) (by decide +kernel)
theorem tW_116 : (Jvm.Cond.fieldLink "KeepForget" (13 : Nat) "KeepForget" "faultPlace" "I") ∈ tb := tb_t 116 (by decide +kernel) (by decide +kernel)
theorem tW_117 : (Jvm.Cond.fieldLink "KeepForget" (19 : Nat) "KeepForget" "sets" "[LKeepForget$RuleSet;") ∈ tb := tb_t 117 (by decide +kernel) (by decide +kernel)
theorem tW_118 : (Jvm.Cond.fieldLink "KeepForget" (101 : Nat) "KeepForget" "setCount" "I") ∈ tb := tb_t 118 (by decide +kernel) (by decide +kernel)
theorem tW_119 : (Jvm.Cond.fieldLink "KeepForget" (25 : Nat) "KeepForget" "things" "[LKeepForget$Thing;") ∈ tb := tb_t 119 (by decide +kernel) (by decide +kernel)
theorem tW_120 : (Jvm.Cond.fieldLink "KeepForget" (119 : Nat) "KeepForget" "thingCount" "I") ∈ tb := tb_t 120 (by decide +kernel) (by decide +kernel)
theorem tW_121 : (Jvm.Cond.fieldLink "KeepForget" (31 : Nat) "KeepForget" "sweepers" "[LKeepForget$Sweeper;") ∈ tb := tb_t 121 (by decide +kernel) (by decide +kernel)
theorem tW_122 : (Jvm.Cond.fieldLink "KeepForget" (38 : Nat) "KeepForget" "holds" "[LKeepForget$Hold;") ∈ tb := tb_t 122 (by decide +kernel) (by decide +kernel)
theorem tW_123 : (Jvm.Cond.fieldLink "KeepForget" (168 : Nat) "KeepForget" "holdCount" "I") ∈ tb := tb_t 123 (by decide +kernel) (by decide +kernel)
theorem tW_124 : (Jvm.Cond.fieldLink "KeepForget" (45 : Nat) "KeepForget" "log" "LKeepForget$Log;") ∈ tb := tb_t 124 (by decide +kernel) (by decide +kernel)
theorem tW_125 : (Jvm.Cond.fieldLink "KeepForget" (52 : Nat) "KeepForget" "settled" "LKeepForget$Span;") ∈ tb := tb_t 125 (by decide +kernel) (by decide +kernel)
theorem tW_126 : (Jvm.Cond.fieldLink "KeepForget" (202 : Nat) "KeepForget" "now" "I") ∈ tb := tb_t 126 (by decide +kernel) (by decide +kernel)
theorem tW_154 : (Jvm.Cond.methodLink "KeepForgetLaw" (108 : Nat) ({ cls := "KeepForget", name := "feed", desc := "(IIIII)I" } : Jvm.MethodName)) ∈ tb := tb_t 154 (by decide +kernel) (by decide +kernel)
theorem tW_155 : (Jvm.Cond.instanceMethod ({ cls := "KeepForget", name := "feed", desc := "(IIIII)I" } : Jvm.MethodName)) ∈ tb := tb_t 155 (by decide +kernel) (by decide +kernel)
theorem tW_156 : (Jvm.Cond.selects "KeepForget" ({ cls := "KeepForget", name := "feed", desc := "(IIIII)I" } : Jvm.MethodName) ({ cls := "KeepForget", name := "feed", desc := "(IIIII)I" } : Jvm.MethodName)) ∈ tb := tb_t 156 (by decide +kernel) (by decide +kernel)
theorem tW_157 : (Jvm.Cond.code ({ cls := "KeepForget", name := "feed", desc := "(IIIII)I" } : Jvm.MethodName) prog_1_method_5_code (6 : Nat) (Option.some Jvm.ClassFile.FieldType.int)) ∈ tb := tb_t 157 (by decide +kernel) (by decide +kernel)
theorem tW_158 : (Jvm.Cond.methodLink "KeepForget" (96 : Nat) ({ cls := "KeepForget", name := "putOnTape", desc := "(I)V" } : Jvm.MethodName)) ∈ tb := tb_t 158 (by decide +kernel) (by decide +kernel)
theorem tW_160 : (Jvm.Cond.instanceMethod ({ cls := "KeepForget", name := "putOnTape", desc := "(I)V" } : Jvm.MethodName)) ∈ tb := tb_t 160 (by decide +kernel) (by decide +kernel)
theorem tW_161 : (Jvm.Cond.code ({ cls := "KeepForget", name := "putOnTape", desc := "(I)V" } : Jvm.MethodName) prog_1_method_36_code (3 : Nat) (Option.none : Option Jvm.ClassFile.FieldType)) ∈ tb := tb_t 161 (by decide +kernel) (by decide +kernel)
theorem tW_162 : (Jvm.Cond.methodLink "KeepForgetLaw" (116 : Nat) ({ cls := "KeepForget", name := "fault", desc := "()I" } : Jvm.MethodName)) ∈ tb := tb_t 162 (by decide +kernel) (by decide +kernel)
theorem tW_163 : (Jvm.Cond.instanceMethod ({ cls := "KeepForget", name := "fault", desc := "()I" } : Jvm.MethodName)) ∈ tb := tb_t 163 (by decide +kernel) (by decide +kernel)
theorem tW_164 : (Jvm.Cond.selects "KeepForget" ({ cls := "KeepForget", name := "fault", desc := "()I" } : Jvm.MethodName) ({ cls := "KeepForget", name := "fault", desc := "()I" } : Jvm.MethodName)) ∈ tb := tb_t 164 (by decide +kernel) (by decide +kernel)
theorem tW_165 : (Jvm.Cond.code ({ cls := "KeepForget", name := "fault", desc := "()I" } : Jvm.MethodName) prog_1_method_7_code (1 : Nat) (Option.some Jvm.ClassFile.FieldType.int)) ∈ tb := tb_t 165 (by decide +kernel) (by decide +kernel)
theorem tW_166 : (Jvm.Cond.methodLink "KeepForgetLaw" (120 : Nat) ({ cls := "KeepForget", name := "thing", desc := "(I)I" } : Jvm.MethodName)) ∈ tb := tb_t 166 (by decide +kernel) (by decide +kernel)
theorem tW_167 : (Jvm.Cond.instanceMethod ({ cls := "KeepForget", name := "thing", desc := "(I)I" } : Jvm.MethodName)) ∈ tb := tb_t 167 (by decide +kernel) (by decide +kernel)
theorem tW_168 : (Jvm.Cond.selects "KeepForget" ({ cls := "KeepForget", name := "thing", desc := "(I)I" } : Jvm.MethodName) ({ cls := "KeepForget", name := "thing", desc := "(I)I" } : Jvm.MethodName)) ∈ tb := tb_t 168 (by decide +kernel) (by decide +kernel)
theorem tW_169 : (Jvm.Cond.code ({ cls := "KeepForget", name := "thing", desc := "(I)I" } : Jvm.MethodName) prog_1_method_8_code (2 : Nat) (Option.some Jvm.ClassFile.FieldType.int)) ∈ tb := tb_t 169 (by decide +kernel) (by decide +kernel)
theorem tW_170 : (Jvm.Cond.instantiable "KeepForget$Thing" (6 : Nat)) ∈ tb := tb_t 170 (by decide +kernel) (by decide +kernel)
theorem tW_171 : (Jvm.Cond.methodLink "KeepForget" (122 : Nat) ({ cls := "KeepForget$Thing", name := "<init>", desc := "(I)V" } : Jvm.MethodName)) ∈ tb := tb_t 171 (by decide +kernel) (by decide +kernel)
theorem tW_172 : (Jvm.Cond.instanceMethod ({ cls := "KeepForget$Thing", name := "<init>", desc := "(I)V" } : Jvm.MethodName)) ∈ tb := tb_t 172 (by decide +kernel) (by decide +kernel)
theorem tW_173 : (Jvm.Cond.code ({ cls := "KeepForget$Thing", name := "<init>", desc := "(I)V" } : Jvm.MethodName) prog_10_method_1_code (3 : Nat) (Option.none : Option Jvm.ClassFile.FieldType)) ∈ tb := tb_t 173 (by decide +kernel) (by decide +kernel)
theorem tW_174 : (Jvm.Cond.methodLink "KeepForget$Thing" (3 : Nat) ({ cls := "java/lang/Object", name := "<init>", desc := "()V" } : Jvm.MethodName)) ∈ tb := tb_t 174 (by decide +kernel) (by decide +kernel)
theorem tW_175 : (Jvm.Cond.fieldLink "KeepForget$Thing" (9 : Nat) "KeepForget$Thing" "kind" "I") ∈ tb := tb_t 175 (by decide +kernel) (by decide +kernel)
theorem tW_176 : (Jvm.Cond.fieldLink "KeepForget$Rule" (29 : Nat) "KeepForget$Thing" "kind" "I") ∈ tb := tb_t 176 (by decide +kernel) (by decide +kernel)
theorem tW_177 : (Jvm.Cond.fieldLink "KeepForget$Thing" (15 : Nat) "KeepForget$Thing" "facts" "[I") ∈ tb := tb_t 177 (by decide +kernel) (by decide +kernel)
theorem tW_178 : (Jvm.Cond.fieldLink "KeepForget$Rule" (40 : Nat) "KeepForget$Thing" "facts" "[I") ∈ tb := tb_t 178 (by decide +kernel) (by decide +kernel)
theorem tW_179 : (Jvm.Cond.fieldLink "KeepForget" (134 : Nat) "KeepForget$Thing" "facts" "[I") ∈ tb := tb_t 179 (by decide +kernel) (by decide +kernel)
theorem tW_180 : (Jvm.Cond.fieldLink "KeepForget$Thing" (19 : Nat) "KeepForget$Thing" "events" "[I") ∈ tb := tb_t 180 (by decide +kernel) (by decide +kernel)
theorem tW_181 : (Jvm.Cond.fieldLink "KeepForget$Rule" (43 : Nat) "KeepForget$Thing" "events" "[I") ∈ tb := tb_t 181 (by decide +kernel) (by decide +kernel)
theorem tW_182 : (Jvm.Cond.fieldLink "KeepForget" (140 : Nat) "KeepForget$Thing" "events" "[I") ∈ tb := tb_t 182 (by decide +kernel) (by decide +kernel)
theorem tW_183 : (Jvm.Cond.fieldLink "KeepForget$Thing" (22 : Nat) "KeepForget$Thing" "copies" "[I") ∈ tb := tb_t 183 (by decide +kernel) (by decide +kernel)
theorem tW_184 : (Jvm.Cond.fieldLink "KeepForget" (157 : Nat) "KeepForget$Thing" "copies" "[I") ∈ tb := tb_t 184 (by decide +kernel) (by decide +kernel)
theorem tW_185 : (Jvm.Cond.fieldLink "KeepForget$Span" (32 : Nat) "KeepForget$Thing" "held" "I") ∈ tb := tb_t 185 (by decide +kernel) (by decide +kernel)
theorem tW_186 : (Jvm.Cond.fieldLink "KeepForget" (174 : Nat) "KeepForget$Thing" "held" "I") ∈ tb := tb_t 186 (by decide +kernel) (by decide +kernel)
theorem tW_187 : (Jvm.Cond.fieldLink "KeepForget$Span" (41 : Nat) "KeepForget$Thing" "isWished" "Z") ∈ tb := tb_t 187 (by decide +kernel) (by decide +kernel)
theorem tW_188 : (Jvm.Cond.fieldLink "KeepForget" (191 : Nat) "KeepForget$Thing" "isWished" "Z") ∈ tb := tb_t 188 (by decide +kernel) (by decide +kernel)
theorem tW_202 : (Jvm.Cond.methodLink "KeepForgetLaw" (163 : Nat) ({ cls := "KeepForget", name := "misplaced", desc := "()I" } : Jvm.MethodName)) ∈ tb := tb_t 202 (by decide +kernel) (by decide +kernel)
theorem tW_203 : (Jvm.Cond.instanceMethod ({ cls := "KeepForget", name := "misplaced", desc := "()I" } : Jvm.MethodName)) ∈ tb := tb_t 203 (by decide +kernel) (by decide +kernel)
theorem tW_204 : (Jvm.Cond.selects "KeepForget" ({ cls := "KeepForget", name := "misplaced", desc := "()I" } : Jvm.MethodName) ({ cls := "KeepForget", name := "misplaced", desc := "()I" } : Jvm.MethodName)) ∈ tb := tb_t 204 (by decide +kernel) (by decide +kernel)
theorem tW_205 : (Jvm.Cond.code ({ cls := "KeepForget", name := "misplaced", desc := "()I" } : Jvm.MethodName) prog_1_method_21_code (5 : Nat) (Option.some Jvm.ClassFile.FieldType.int)) ∈ tb := tb_t 205 (by decide +kernel) (by decide +kernel)
theorem tW_206 : (Jvm.Cond.methodLink "KeepForget" (153 : Nat) ({ cls := "KeepForget", name := "placesOf", desc := "(LKeepForget$Thing;I)I" } : Jvm.MethodName)) ∈ tb := tb_t 206 (by decide +kernel) (by decide +kernel)
theorem tW_208 : (Jvm.Cond.instanceMethod ({ cls := "KeepForget", name := "placesOf", desc := "(LKeepForget$Thing;I)I" } : Jvm.MethodName)) ∈ tb := tb_t 208 (by decide +kernel) (by decide +kernel)
theorem tW_209 : (Jvm.Cond.code ({ cls := "KeepForget", name := "placesOf", desc := "(LKeepForget$Thing;I)I" } : Jvm.MethodName) prog_1_method_37_code (4 : Nat) (Option.some Jvm.ClassFile.FieldType.int)) ∈ tb := tb_t 209 (by decide +kernel) (by decide +kernel)
theorem tW_210 : (Jvm.Cond.methodLink "KeepForget" (194 : Nat) ({ cls := "KeepForget", name := "setInForce", desc := "()LKeepForget$RuleSet;" } : Jvm.MethodName)) ∈ tb := tb_t 210 (by decide +kernel) (by decide +kernel)
theorem tW_212 : (Jvm.Cond.instanceMethod ({ cls := "KeepForget", name := "setInForce", desc := "()LKeepForget$RuleSet;" } : Jvm.MethodName)) ∈ tb := tb_t 212 (by decide +kernel) (by decide +kernel)
theorem tW_213 : (Jvm.Cond.code ({ cls := "KeepForget", name := "setInForce", desc := "()LKeepForget$RuleSet;" } : Jvm.MethodName) prog_1_method_34_code (2 : Nat) (Option.some (Jvm.ClassFile.FieldType.object "KeepForget$RuleSet"))) ∈ tb := tb_t 213 (by decide +kernel) (by decide +kernel)
theorem tW_214 : (Jvm.Cond.methodLink "KeepForget" (284 : Nat) ({ cls := "KeepForget", name := "numberInForce", desc := "()I" } : Jvm.MethodName)) ∈ tb := tb_t 214 (by decide +kernel) (by decide +kernel)
theorem tW_216 : (Jvm.Cond.instanceMethod ({ cls := "KeepForget", name := "numberInForce", desc := "()I" } : Jvm.MethodName)) ∈ tb := tb_t 216 (by decide +kernel) (by decide +kernel)
theorem tW_217 : (Jvm.Cond.code ({ cls := "KeepForget", name := "numberInForce", desc := "()I" } : Jvm.MethodName) prog_1_method_35_code (3 : Nat) (Option.some Jvm.ClassFile.FieldType.int)) ∈ tb := tb_t 217 (by decide +kernel) (by decide +kernel)
theorem tW_218 : (Jvm.Cond.methodLink "KeepForget" (312 : Nat) ({ cls := "KeepForget$RuleSet", name := "storesFor", desc := "(LKeepForget$Thing;I)I" } : Jvm.MethodName)) ∈ tb := tb_t 218 (by decide +kernel) (by decide +kernel)
theorem tW_219 : (Jvm.Cond.instanceMethod ({ cls := "KeepForget$RuleSet", name := "storesFor", desc := "(LKeepForget$Thing;I)I" } : Jvm.MethodName)) ∈ tb := tb_t 219 (by decide +kernel) (by decide +kernel)
theorem tW_220 : (Jvm.Cond.selects "KeepForget$RuleSet" ({ cls := "KeepForget$RuleSet", name := "storesFor", desc := "(LKeepForget$Thing;I)I" } : Jvm.MethodName) ({ cls := "KeepForget$RuleSet", name := "storesFor", desc := "(LKeepForget$Thing;I)I" } : Jvm.MethodName)) ∈ tb := tb_t 220 (by decide +kernel) (by decide +kernel)
theorem tW_221 : (Jvm.Cond.code ({ cls := "KeepForget$RuleSet", name := "storesFor", desc := "(LKeepForget$Thing;I)I" } : Jvm.MethodName) prog_7_method_5_code (5 : Nat) (Option.some Jvm.ClassFile.FieldType.int)) ∈ tb := tb_t 221 (by decide +kernel) (by decide +kernel)
theorem tW_222 : (Jvm.Cond.methodLink "KeepForget$RuleSet" (45 : Nat) ({ cls := "KeepForget$Rule", name := "isFor", desc := "(LKeepForget$Thing;I)Z" } : Jvm.MethodName)) ∈ tb := tb_t 222 (by decide +kernel) (by decide +kernel)
theorem tW_223 : (Jvm.Cond.instanceMethod ({ cls := "KeepForget$Rule", name := "isFor", desc := "(LKeepForget$Thing;I)Z" } : Jvm.MethodName)) ∈ tb := tb_t 223 (by decide +kernel) (by decide +kernel)
theorem tW_224 : (Jvm.Cond.selects "KeepForget$Rule" ({ cls := "KeepForget$Rule", name := "isFor", desc := "(LKeepForget$Thing;I)Z" } : Jvm.MethodName) ({ cls := "KeepForget$Rule", name := "isFor", desc := "(LKeepForget$Thing;I)Z" } : Jvm.MethodName)) ∈ tb := tb_t 224 (by decide +kernel) (by decide +kernel)
theorem tW_225 : (Jvm.Cond.code ({ cls := "KeepForget$Rule", name := "isFor", desc := "(LKeepForget$Thing;I)Z" } : Jvm.MethodName) prog_5_method_2_code (5 : Nat) (Option.some Jvm.ClassFile.FieldType.boolean)) ∈ tb := tb_t 225 (by decide +kernel) (by decide +kernel)
theorem tW_226 : (Jvm.Cond.methodLink "KeepForget" (238 : Nat) ({ cls := "java/lang/Integer", name := "bitCount", desc := "(I)I" } : Jvm.MethodName)) ∈ tb := tb_t 226 (by decide +kernel) (by decide +kernel)
theorem tW_227 : (Jvm.Cond.static ({ cls := "java/lang/Integer", name := "bitCount", desc := "(I)I" } : Jvm.MethodName)) ∈ tb := tb_t 227 (by decide +kernel) (by decide +kernel)
theorem tW_228 : (Jvm.Cond.code ({ cls := "java/lang/Integer", name := "bitCount", desc := "(I)I" } : Jvm.MethodName) prog_15_method_49_code (1 : Nat) (Option.some Jvm.ClassFile.FieldType.int)) ∈ tb := tb_t 228 (by decide +kernel) (by decide +kernel)
theorem tW_229 : (Jvm.Cond.constant "java/lang/Integer" (265 : Nat) (1431655765 : Int32)) ∈ tb := tb_t 229 (by decide +kernel) (by decide +kernel)
theorem tW_230 : (Jvm.Cond.constant "java/lang/Integer" (266 : Nat) (858993459 : Int32)) ∈ tb := tb_t 230 (by decide +kernel) (by decide +kernel)
theorem tW_231 : (Jvm.Cond.constant "java/lang/Integer" (267 : Nat) (252645135 : Int32)) ∈ tb := tb_t 231 (by decide +kernel) (by decide +kernel)
theorem tW_232 : (Jvm.Cond.methodLink "KeepForgetLaw" (91 : Nat) ({ cls := "KeepForgetLaw", name := "day", desc := "(LKeepForget;III[J)I" } : Jvm.MethodName)) ∈ tb := tb_t 232 (by decide +kernel) (by decide +kernel)
theorem tW_233 : (Jvm.Cond.static ({ cls := "KeepForgetLaw", name := "day", desc := "(LKeepForget;III[J)I" } : Jvm.MethodName)) ∈ tb := tb_t 233 (by decide +kernel) (by decide +kernel)
theorem tW_235 : (Jvm.Cond.classLink "KeepForgetLaw" (13 : Nat) "java/lang/IllegalArgumentException") ∈ tb := tb_t 235 (by decide +kernel) (by decide +kernel)
theorem tW_236 : (Jvm.Cond.methodLink "KeepForgetLaw" (7 : Nat) ({ cls := "KeepForget", name := "day", desc := "(III)I" } : Jvm.MethodName)) ∈ tb := tb_t 236 (by decide +kernel) (by decide +kernel)
theorem tW_237 : (Jvm.Cond.instanceMethod ({ cls := "KeepForget", name := "day", desc := "(III)I" } : Jvm.MethodName)) ∈ tb := tb_t 237 (by decide +kernel) (by decide +kernel)
theorem tW_238 : (Jvm.Cond.selects "KeepForget" ({ cls := "KeepForget", name := "day", desc := "(III)I" } : Jvm.MethodName) ({ cls := "KeepForget", name := "day", desc := "(III)I" } : Jvm.MethodName)) ∈ tb := tb_t 238 (by decide +kernel) (by decide +kernel)
theorem tW_239 : (Jvm.Cond.code ({ cls := "KeepForget", name := "day", desc := "(III)I" } : Jvm.MethodName) prog_1_method_2_code (6 : Nat) (Option.some Jvm.ClassFile.FieldType.int)) ∈ tb := tb_t 239 (by decide +kernel) (by decide +kernel)
theorem tW_240 : (Jvm.Cond.classLink "KeepForget" (56 : Nat) "java/lang/IllegalArgumentException") ∈ tb := tb_t 240 (by decide +kernel) (by decide +kernel)
theorem tW_241 : (Jvm.Cond.instantiable "java/lang/IllegalArgumentException" (6 : Nat)) ∈ tb := tb_t 241 (by decide +kernel) (by decide +kernel)
theorem tW_249 : (Jvm.Cond.selects "java/lang/IllegalArgumentException" ({ cls := "java/lang/Throwable", name := "fillInStackTrace", desc := "(I)Ljava/lang/Throwable;" } : Jvm.MethodName) ({ cls := "java/lang/Throwable", name := "fillInStackTrace", desc := "(I)Ljava/lang/Throwable;" } : Jvm.MethodName)) ∈ tb := tb_t 249 (by decide +kernel) (by decide +kernel)
theorem tW_250 : (Jvm.Cond.selects "java/lang/IllegalArgumentException" ({ cls := "java/lang/Throwable", name := "fillInStackTrace", desc := "()Ljava/lang/Throwable;" } : Jvm.MethodName) ({ cls := "java/lang/Throwable", name := "fillInStackTrace", desc := "()Ljava/lang/Throwable;" } : Jvm.MethodName)) ∈ tb := tb_t 250 (by decide +kernel) (by decide +kernel)
theorem tW_261 : (Jvm.Cond.fieldLink "java/lang/Throwable" (198 : Nat) "java/lang/Throwable" "backtrace" "Ljava/lang/Object;") ∈ tb := tb_t 261 (by decide +kernel) (by decide +kernel)
theorem tW_263 : (Jvm.Cond.instanceMethod ({ cls := "java/lang/Throwable", name := "<init>", desc := "()V" } : Jvm.MethodName)) ∈ tb := tb_t 263 (by decide +kernel) (by decide +kernel)
theorem tW_264 : (Jvm.Cond.code ({ cls := "java/lang/Throwable", name := "<init>", desc := "()V" } : Jvm.MethodName) prog_21_method_1_code (1 : Nat) (Option.none : Option Jvm.ClassFile.FieldType)) ∈ tb := tb_t 264 (by decide +kernel) (by decide +kernel)
theorem tW_265 : (Jvm.Cond.methodLink "java/lang/Throwable" (1 : Nat) ({ cls := "java/lang/Object", name := "<init>", desc := "()V" } : Jvm.MethodName)) ∈ tb := tb_t 265 (by decide +kernel) (by decide +kernel)
theorem tW_266 : (Jvm.Cond.fieldLink "java/lang/Throwable" (13 : Nat) "java/lang/Throwable" "UNASSIGNED_STACK" "[Ljava/lang/StackTraceElement;") ∈ tb := tb_t 266 (by decide +kernel) (by decide +kernel)
theorem tW_268 : (Jvm.Cond.fieldLink "java/lang/Throwable" (20 : Nat) "java/lang/Throwable" "SUPPRESSED_SENTINEL" "Ljava/util/List;") ∈ tb := tb_t 268 (by decide +kernel) (by decide +kernel)
theorem tW_270 : (Jvm.Cond.methodLink "java/lang/Throwable" (27 : Nat) ({ cls := "java/lang/Throwable", name := "fillInStackTrace", desc := "()Ljava/lang/Throwable;" } : Jvm.MethodName)) ∈ tb := tb_t 270 (by decide +kernel) (by decide +kernel)
theorem tW_271 : (Jvm.Cond.instanceMethod ({ cls := "java/lang/Throwable", name := "fillInStackTrace", desc := "()Ljava/lang/Throwable;" } : Jvm.MethodName)) ∈ tb := tb_t 271 (by decide +kernel) (by decide +kernel)
theorem tW_273 : (Jvm.Cond.selects "java/util/NoSuchElementException" ({ cls := "java/lang/Throwable", name := "fillInStackTrace", desc := "()Ljava/lang/Throwable;" } : Jvm.MethodName) ({ cls := "java/lang/Throwable", name := "fillInStackTrace", desc := "()Ljava/lang/Throwable;" } : Jvm.MethodName)) ∈ tb := tb_t 273 (by decide +kernel) (by decide +kernel)
theorem tW_275 : (Jvm.Cond.methodLink "java/lang/Throwable" (202 : Nat) ({ cls := "java/lang/Throwable", name := "fillInStackTrace", desc := "(I)Ljava/lang/Throwable;" } : Jvm.MethodName)) ∈ tb := tb_t 275 (by decide +kernel) (by decide +kernel)
theorem tW_277 : (Jvm.Cond.instanceMethod ({ cls := "java/lang/Throwable", name := "fillInStackTrace", desc := "(I)Ljava/lang/Throwable;" } : Jvm.MethodName)) ∈ tb := tb_t 277 (by decide +kernel) (by decide +kernel)
theorem tW_278 : (Jvm.Cond.instantiable "java/lang/Throwable" (6 : Nat)) ∈ tb := tb_t 278 (by decide +kernel) (by decide +kernel)
theorem tW_281 : (Jvm.Cond.methodLink "KeepForget" (60 : Nat) ({ cls := "java/lang/IllegalArgumentException", name := "<init>", desc := "(Ljava/lang/String;)V" } : Jvm.MethodName)) ∈ tb := tb_t 281 (by decide +kernel) (by decide +kernel)
theorem tW_282 : (Jvm.Cond.instanceMethod ({ cls := "java/lang/IllegalArgumentException", name := "<init>", desc := "(Ljava/lang/String;)V" } : Jvm.MethodName)) ∈ tb := tb_t 282 (by decide +kernel) (by decide +kernel)
theorem tW_283 : (Jvm.Cond.code ({ cls := "java/lang/IllegalArgumentException", name := "<init>", desc := "(Ljava/lang/String;)V" } : Jvm.MethodName) prog_14_method_2_code (2 : Nat) (Option.none : Option Jvm.ClassFile.FieldType)) ∈ tb := tb_t 283 (by decide +kernel) (by decide +kernel)
theorem tW_284 : (Jvm.Cond.methodLink "java/lang/IllegalArgumentException" (7 : Nat) ({ cls := "java/lang/RuntimeException", name := "<init>", desc := "(Ljava/lang/String;)V" } : Jvm.MethodName)) ∈ tb := tb_t 284 (by decide +kernel) (by decide +kernel)
theorem tW_285 : (Jvm.Cond.instanceMethod ({ cls := "java/lang/RuntimeException", name := "<init>", desc := "(Ljava/lang/String;)V" } : Jvm.MethodName)) ∈ tb := tb_t 285 (by decide +kernel) (by decide +kernel)
theorem tW_286 : (Jvm.Cond.code ({ cls := "java/lang/RuntimeException", name := "<init>", desc := "(Ljava/lang/String;)V" } : Jvm.MethodName) prog_17_method_2_code (2 : Nat) (Option.none : Option Jvm.ClassFile.FieldType)) ∈ tb := tb_t 286 (by decide +kernel) (by decide +kernel)
theorem tW_287 : (Jvm.Cond.methodLink "java/lang/RuntimeException" (7 : Nat) ({ cls := "java/lang/Exception", name := "<init>", desc := "(Ljava/lang/String;)V" } : Jvm.MethodName)) ∈ tb := tb_t 287 (by decide +kernel) (by decide +kernel)
theorem tW_288 : (Jvm.Cond.instanceMethod ({ cls := "java/lang/Exception", name := "<init>", desc := "(Ljava/lang/String;)V" } : Jvm.MethodName)) ∈ tb := tb_t 288 (by decide +kernel) (by decide +kernel)
theorem tW_289 : (Jvm.Cond.code ({ cls := "java/lang/Exception", name := "<init>", desc := "(Ljava/lang/String;)V" } : Jvm.MethodName) prog_13_method_2_code (2 : Nat) (Option.none : Option Jvm.ClassFile.FieldType)) ∈ tb := tb_t 289 (by decide +kernel) (by decide +kernel)
theorem tW_290 : (Jvm.Cond.methodLink "java/lang/Exception" (7 : Nat) ({ cls := "java/lang/Throwable", name := "<init>", desc := "(Ljava/lang/String;)V" } : Jvm.MethodName)) ∈ tb := tb_t 290 (by decide +kernel) (by decide +kernel)
theorem tW_291 : (Jvm.Cond.instanceMethod ({ cls := "java/lang/Throwable", name := "<init>", desc := "(Ljava/lang/String;)V" } : Jvm.MethodName)) ∈ tb := tb_t 291 (by decide +kernel) (by decide +kernel)
theorem tW_292 : (Jvm.Cond.code ({ cls := "java/lang/Throwable", name := "<init>", desc := "(Ljava/lang/String;)V" } : Jvm.MethodName) prog_21_method_2_code (2 : Nat) (Option.none : Option Jvm.ClassFile.FieldType)) ∈ tb := tb_t 292 (by decide +kernel) (by decide +kernel)
theorem tW_293 : (Jvm.Cond.fieldLink "java/lang/Throwable" (198 : Nat) "java/lang/Throwable" "backtrace" "Ljava/lang/Object;") ∈ tb := tb_t 293 (by decide +kernel) (by decide +kernel)
theorem tW_294 : (Jvm.Cond.fieldLink "java/lang/Throwable" (31 : Nat) "java/lang/Throwable" "detailMessage" "Ljava/lang/String;") ∈ tb := tb_t 294 (by decide +kernel) (by decide +kernel)
theorem tW_295 : (Jvm.Cond.fieldLink "java/lang/Throwable" (7 : Nat) "java/lang/Throwable" "cause" "Ljava/lang/Throwable;") ∈ tb := tb_t 295 (by decide +kernel) (by decide +kernel)
theorem tW_296 : (Jvm.Cond.fieldLink "java/lang/Throwable" (17 : Nat) "java/lang/Throwable" "stackTrace" "[Ljava/lang/StackTraceElement;") ∈ tb := tb_t 296 (by decide +kernel) (by decide +kernel)
theorem tW_297 : (Jvm.Cond.fieldLink "java/lang/Throwable" (24 : Nat) "java/lang/Throwable" "suppressedExceptions" "Ljava/util/List;") ∈ tb := tb_t 297 (by decide +kernel) (by decide +kernel)
theorem tW_306 : (Jvm.Cond.methodLink "KeepForget" (63 : Nat) ({ cls := "KeepForget$Dates", name := "monthLength", desc := "(I)I" } : Jvm.MethodName)) ∈ tb := tb_t 306 (by decide +kernel) (by decide +kernel)
theorem tW_307 : (Jvm.Cond.static ({ cls := "KeepForget$Dates", name := "monthLength", desc := "(I)I" } : Jvm.MethodName)) ∈ tb := tb_t 307 (by decide +kernel) (by decide +kernel)
theorem tW_308 : (Jvm.Cond.code ({ cls := "KeepForget$Dates", name := "monthLength", desc := "(I)I" } : Jvm.MethodName) prog_2_method_3_code (1 : Nat) (Option.some Jvm.ClassFile.FieldType.int)) ∈ tb := tb_t 308 (by decide +kernel) (by decide +kernel)
theorem tW_309 : (Jvm.Cond.methodLink "KeepForget$Dates" (15 : Nat) ({ cls := "KeepForget$Dates", name := "monthStart", desc := "(I)I" } : Jvm.MethodName)) ∈ tb := tb_t 309 (by decide +kernel) (by decide +kernel)
theorem tW_310 : (Jvm.Cond.static ({ cls := "KeepForget$Dates", name := "monthStart", desc := "(I)I" } : Jvm.MethodName)) ∈ tb := tb_t 310 (by decide +kernel) (by decide +kernel)
theorem tW_311 : (Jvm.Cond.code ({ cls := "KeepForget$Dates", name := "monthStart", desc := "(I)I" } : Jvm.MethodName) prog_2_method_2_code (5 : Nat) (Option.some Jvm.ClassFile.FieldType.int)) ∈ tb := tb_t 311 (by decide +kernel) (by decide +kernel)
theorem tW_312 : (Jvm.Cond.fieldLink "KeepForget$Dates" (9 : Nat) "KeepForget$Dates" "DAYS_BEFORE" "[I") ∈ tb := tb_t 312 (by decide +kernel) (by decide +kernel)
theorem tW_315 : (Jvm.Cond.methodLink "KeepForget" (71 : Nat) ({ cls := "KeepForget$Dates", name := "monthStart", desc := "(I)I" } : Jvm.MethodName)) ∈ tb := tb_t 315 (by decide +kernel) (by decide +kernel)
theorem tW_316 : (Jvm.Cond.constant "KeepForget" (74 : Nat) (200000 : Int32)) ∈ tb := tb_t 316 (by decide +kernel) (by decide +kernel)
theorem tW_318 : (Jvm.Cond.methodLink "KeepForgetLaw" (101 : Nat) ({ cls := "KeepForgetLaw", name := "date", desc := "(LKeepForget;II[J)I" } : Jvm.MethodName)) ∈ tb := tb_t 318 (by decide +kernel) (by decide +kernel)
theorem tW_319 : (Jvm.Cond.static ({ cls := "KeepForgetLaw", name := "date", desc := "(LKeepForget;II[J)I" } : Jvm.MethodName)) ∈ tb := tb_t 319 (by decide +kernel) (by decide +kernel)
theorem tW_321 : (Jvm.Cond.methodLink "KeepForgetLaw" (15 : Nat) ({ cls := "KeepForget", name := "date", desc := "(II)I" } : Jvm.MethodName)) ∈ tb := tb_t 321 (by decide +kernel) (by decide +kernel)
theorem tW_322 : (Jvm.Cond.instanceMethod ({ cls := "KeepForget", name := "date", desc := "(II)I" } : Jvm.MethodName)) ∈ tb := tb_t 322 (by decide +kernel) (by decide +kernel)
theorem tW_323 : (Jvm.Cond.selects "KeepForget" ({ cls := "KeepForget", name := "date", desc := "(II)I" } : Jvm.MethodName) ({ cls := "KeepForget", name := "date", desc := "(II)I" } : Jvm.MethodName)) ∈ tb := tb_t 323 (by decide +kernel) (by decide +kernel)
theorem tW_324 : (Jvm.Cond.code ({ cls := "KeepForget", name := "date", desc := "(II)I" } : Jvm.MethodName) prog_1_method_3_code (4 : Nat) (Option.some Jvm.ClassFile.FieldType.int)) ∈ tb := tb_t 324 (by decide +kernel) (by decide +kernel)
theorem tW_325 : (Jvm.Cond.methodLink "KeepForget" (77 : Nat) ({ cls := "KeepForget", name := "checkDay", desc := "(I)V" } : Jvm.MethodName)) ∈ tb := tb_t 325 (by decide +kernel) (by decide +kernel)
theorem tW_326 : (Jvm.Cond.static ({ cls := "KeepForget", name := "checkDay", desc := "(I)V" } : Jvm.MethodName)) ∈ tb := tb_t 326 (by decide +kernel) (by decide +kernel)
theorem tW_327 : (Jvm.Cond.code ({ cls := "KeepForget", name := "checkDay", desc := "(I)V" } : Jvm.MethodName) prog_1_method_28_code (1 : Nat) (Option.none : Option Jvm.ClassFile.FieldType)) ∈ tb := tb_t 327 (by decide +kernel) (by decide +kernel)
theorem tW_329 : (Jvm.Cond.methodLink "KeepForget" (81 : Nat) ({ cls := "KeepForget$Dates", name := "monthOf", desc := "(I)I" } : Jvm.MethodName)) ∈ tb := tb_t 329 (by decide +kernel) (by decide +kernel)
theorem tW_330 : (Jvm.Cond.static ({ cls := "KeepForget$Dates", name := "monthOf", desc := "(I)I" } : Jvm.MethodName)) ∈ tb := tb_t 330 (by decide +kernel) (by decide +kernel)
theorem tW_331 : (Jvm.Cond.code ({ cls := "KeepForget$Dates", name := "monthOf", desc := "(I)I" } : Jvm.MethodName) prog_2_method_4_code (3 : Nat) (Option.some Jvm.ClassFile.FieldType.int)) ∈ tb := tb_t 331 (by decide +kernel) (by decide +kernel)
theorem tW_332 : (Jvm.Cond.constantLong "KeepForget$Dates" (19 : Nat) (4800 : Int64)) ∈ tb := tb_t 332 (by decide +kernel) (by decide +kernel)
theorem tW_333 : (Jvm.Cond.constantLong "KeepForget$Dates" (21 : Nat) (146097 : Int64)) ∈ tb := tb_t 333 (by decide +kernel) (by decide +kernel)
theorem tW_334 : (Jvm.Cond.methodLink "KeepForget$Dates" (23 : Nat) ({ cls := "java/lang/Math", name := "max", desc := "(II)I" } : Jvm.MethodName)) ∈ tb := tb_t 334 (by decide +kernel) (by decide +kernel)
theorem tW_335 : (Jvm.Cond.static ({ cls := "java/lang/Math", name := "max", desc := "(II)I" } : Jvm.MethodName)) ∈ tb := tb_t 335 (by decide +kernel) (by decide +kernel)
theorem tW_336 : (Jvm.Cond.code ({ cls := "java/lang/Math", name := "max", desc := "(II)I" } : Jvm.MethodName) prog_16_method_65_code (2 : Nat) (Option.some Jvm.ClassFile.FieldType.int)) ∈ tb := tb_t 336 (by decide +kernel) (by decide +kernel)
theorem tW_338 : (Jvm.Cond.methodLink "KeepForgetLaw" (105 : Nat) ({ cls := "KeepForgetLaw", name := "later", desc := "(LKeepForget;II[J)I" } : Jvm.MethodName)) ∈ tb := tb_t 338 (by decide +kernel) (by decide +kernel)
theorem tW_339 : (Jvm.Cond.static ({ cls := "KeepForgetLaw", name := "later", desc := "(LKeepForget;II[J)I" } : Jvm.MethodName)) ∈ tb := tb_t 339 (by decide +kernel) (by decide +kernel)
theorem tW_341 : (Jvm.Cond.methodLink "KeepForgetLaw" (19 : Nat) ({ cls := "KeepForget", name := "later", desc := "(II)I" } : Jvm.MethodName)) ∈ tb := tb_t 341 (by decide +kernel) (by decide +kernel)
theorem tW_342 : (Jvm.Cond.instanceMethod ({ cls := "KeepForget", name := "later", desc := "(II)I" } : Jvm.MethodName)) ∈ tb := tb_t 342 (by decide +kernel) (by decide +kernel)
theorem tW_343 : (Jvm.Cond.selects "KeepForget" ({ cls := "KeepForget", name := "later", desc := "(II)I" } : Jvm.MethodName) ({ cls := "KeepForget", name := "later", desc := "(II)I" } : Jvm.MethodName)) ∈ tb := tb_t 343 (by decide +kernel) (by decide +kernel)
theorem tW_344 : (Jvm.Cond.code ({ cls := "KeepForget", name := "later", desc := "(II)I" } : Jvm.MethodName) prog_1_method_4_code (3 : Nat) (Option.some Jvm.ClassFile.FieldType.int)) ∈ tb := tb_t 344 (by decide +kernel) (by decide +kernel)
theorem tW_345 : (Jvm.Cond.constant "KeepForget" (86 : Nat) (119988 : Int32)) ∈ tb := tb_t 345 (by decide +kernel) (by decide +kernel)
theorem tW_347 : (Jvm.Cond.methodLink "KeepForget" (89 : Nat) ({ cls := "KeepForget$Dates", name := "monthsAfter", desc := "(II)I" } : Jvm.MethodName)) ∈ tb := tb_t 347 (by decide +kernel) (by decide +kernel)
theorem tW_348 : (Jvm.Cond.static ({ cls := "KeepForget$Dates", name := "monthsAfter", desc := "(II)I" } : Jvm.MethodName)) ∈ tb := tb_t 348 (by decide +kernel) (by decide +kernel)
theorem tW_349 : (Jvm.Cond.code ({ cls := "KeepForget$Dates", name := "monthsAfter", desc := "(II)I" } : Jvm.MethodName) prog_2_method_5_code (5 : Nat) (Option.some Jvm.ClassFile.FieldType.int)) ∈ tb := tb_t 349 (by decide +kernel) (by decide +kernel)
theorem tW_350 : (Jvm.Cond.methodLink "KeepForget$Dates" (29 : Nat) ({ cls := "KeepForget$Dates", name := "monthOf", desc := "(I)I" } : Jvm.MethodName)) ∈ tb := tb_t 350 (by decide +kernel) (by decide +kernel)
theorem tW_351 : (Jvm.Cond.methodLink "KeepForget$Dates" (32 : Nat) ({ cls := "KeepForget$Dates", name := "monthLength", desc := "(I)I" } : Jvm.MethodName)) ∈ tb := tb_t 351 (by decide +kernel) (by decide +kernel)
theorem tW_352 : (Jvm.Cond.methodLink "KeepForget$Dates" (35 : Nat) ({ cls := "java/lang/Math", name := "min", desc := "(II)I" } : Jvm.MethodName)) ∈ tb := tb_t 352 (by decide +kernel) (by decide +kernel)
theorem tW_353 : (Jvm.Cond.static ({ cls := "java/lang/Math", name := "min", desc := "(II)I" } : Jvm.MethodName)) ∈ tb := tb_t 353 (by decide +kernel) (by decide +kernel)
theorem tW_354 : (Jvm.Cond.code ({ cls := "java/lang/Math", name := "min", desc := "(II)I" } : Jvm.MethodName) prog_16_method_69_code (2 : Nat) (Option.some Jvm.ClassFile.FieldType.int)) ∈ tb := tb_t 354 (by decide +kernel) (by decide +kernel)
theorem tW_355 : (Jvm.Cond.constant "KeepForget$Dates" (38 : Nat) (200000 : Int32)) ∈ tb := tb_t 355 (by decide +kernel) (by decide +kernel)
theorem tW_356 : (Jvm.Cond.constant "KeepForget$Dates" (39 : Nat) (999999 : Int32)) ∈ tb := tb_t 356 (by decide +kernel) (by decide +kernel)
theorem tW_357 : (Jvm.Cond.methodLink "KeepForgetLaw" (113 : Nat) ({ cls := "KeepForgetLaw", name := "rules", desc := "(LKeepForget;II[J)I" } : Jvm.MethodName)) ∈ tb := tb_t 357 (by decide +kernel) (by decide +kernel)
theorem tW_358 : (Jvm.Cond.static ({ cls := "KeepForgetLaw", name := "rules", desc := "(LKeepForget;II[J)I" } : Jvm.MethodName)) ∈ tb := tb_t 358 (by decide +kernel) (by decide +kernel)
theorem tW_360 : (Jvm.Cond.methodLink "KeepForgetLaw" (22 : Nat) ({ cls := "KeepForget", name := "rules", desc := "(II)I" } : Jvm.MethodName)) ∈ tb := tb_t 360 (by decide +kernel) (by decide +kernel)
theorem tW_361 : (Jvm.Cond.instanceMethod ({ cls := "KeepForget", name := "rules", desc := "(II)I" } : Jvm.MethodName)) ∈ tb := tb_t 361 (by decide +kernel) (by decide +kernel)
theorem tW_362 : (Jvm.Cond.selects "KeepForget" ({ cls := "KeepForget", name := "rules", desc := "(II)I" } : Jvm.MethodName) ({ cls := "KeepForget", name := "rules", desc := "(II)I" } : Jvm.MethodName)) ∈ tb := tb_t 362 (by decide +kernel) (by decide +kernel)
theorem tW_363 : (Jvm.Cond.code ({ cls := "KeepForget", name := "rules", desc := "(II)I" } : Jvm.MethodName) prog_1_method_6_code (5 : Nat) (Option.some Jvm.ClassFile.FieldType.int)) ∈ tb := tb_t 363 (by decide +kernel) (by decide +kernel)
theorem tW_365 : (Jvm.Cond.instantiable "KeepForget$RuleSet" (5 : Nat)) ∈ tb := tb_t 365 (by decide +kernel) (by decide +kernel)
theorem tW_366 : (Jvm.Cond.methodLink "KeepForget" (104 : Nat) ({ cls := "KeepForget$RuleSet", name := "<init>", desc := "(I)V" } : Jvm.MethodName)) ∈ tb := tb_t 366 (by decide +kernel) (by decide +kernel)
theorem tW_367 : (Jvm.Cond.instanceMethod ({ cls := "KeepForget$RuleSet", name := "<init>", desc := "(I)V" } : Jvm.MethodName)) ∈ tb := tb_t 367 (by decide +kernel) (by decide +kernel)
theorem tW_368 : (Jvm.Cond.code ({ cls := "KeepForget$RuleSet", name := "<init>", desc := "(I)V" } : Jvm.MethodName) prog_7_method_1_code (2 : Nat) (Option.none : Option Jvm.ClassFile.FieldType)) ∈ tb := tb_t 368 (by decide +kernel) (by decide +kernel)
theorem tW_369 : (Jvm.Cond.methodLink "KeepForget$RuleSet" (3 : Nat) ({ cls := "java/lang/Object", name := "<init>", desc := "()V" } : Jvm.MethodName)) ∈ tb := tb_t 369 (by decide +kernel) (by decide +kernel)
theorem tW_370 : (Jvm.Cond.classLink "KeepForget$RuleSet" (15 : Nat) "KeepForget$Rule") ∈ tb := tb_t 370 (by decide +kernel) (by decide +kernel)
theorem tW_372 : (Jvm.Cond.fieldLink "KeepForget$RuleSet" (9 : Nat) "KeepForget$RuleSet" "day" "I") ∈ tb := tb_t 372 (by decide +kernel) (by decide +kernel)
theorem tW_373 : (Jvm.Cond.fieldLink "KeepForget" (309 : Nat) "KeepForget$RuleSet" "day" "I") ∈ tb := tb_t 373 (by decide +kernel) (by decide +kernel)
theorem tW_374 : (Jvm.Cond.fieldLink "KeepForget$RuleSet" (17 : Nat) "KeepForget$RuleSet" "rules" "[LKeepForget$Rule;") ∈ tb := tb_t 374 (by decide +kernel) (by decide +kernel)
theorem tW_375 : (Jvm.Cond.fieldLink "KeepForget$Span" (53 : Nat) "KeepForget$RuleSet" "rules" "[LKeepForget$Rule;") ∈ tb := tb_t 375 (by decide +kernel) (by decide +kernel)
theorem tW_376 : (Jvm.Cond.fieldLink "KeepForget" (255 : Nat) "KeepForget$RuleSet" "rules" "[LKeepForget$Rule;") ∈ tb := tb_t 376 (by decide +kernel) (by decide +kernel)
theorem tW_377 : (Jvm.Cond.fieldLink "KeepForget$RuleSet" (25 : Nat) "KeepForget$RuleSet" "ruleCount" "I") ∈ tb := tb_t 377 (by decide +kernel) (by decide +kernel)
theorem tW_378 : (Jvm.Cond.fieldLink "KeepForget" (250 : Nat) "KeepForget$RuleSet" "ruleCount" "I") ∈ tb := tb_t 378 (by decide +kernel) (by decide +kernel)
theorem tW_379 : (Jvm.Cond.fieldLink "KeepForget$RuleSet" (21 : Nat) "KeepForget$RuleSet" "turns" "[I") ∈ tb := tb_t 379 (by decide +kernel) (by decide +kernel)
theorem tW_380 : (Jvm.Cond.fieldLink "KeepForget$Span" (50 : Nat) "KeepForget$RuleSet" "turns" "[I") ∈ tb := tb_t 380 (by decide +kernel) (by decide +kernel)
theorem tW_381 : (Jvm.Cond.fieldLink "KeepForget$Span" (45 : Nat) "KeepForget$RuleSet" "turnCount" "I") ∈ tb := tb_t 381 (by decide +kernel) (by decide +kernel)
theorem tW_382 : (Jvm.Cond.fieldLink "KeepForget$RuleSet" (42 : Nat) "KeepForget$RuleSet" "turnCount" "I") ∈ tb := tb_t 382 (by decide +kernel) (by decide +kernel)
theorem tW_394 : (Jvm.Cond.classLink "KeepForget" (106 : Nat) "KeepForget$RuleReader") ∈ tb := tb_t 394 (by decide +kernel) (by decide +kernel)
theorem tW_395 : (Jvm.Cond.instantiable "KeepForget$RuleReader" (7 : Nat)) ∈ tb := tb_t 395 (by decide +kernel) (by decide +kernel)
theorem tW_396 : (Jvm.Cond.methodLink "KeepForget" (108 : Nat) ({ cls := "KeepForget$RuleReader", name := "<init>", desc := "([BI)V" } : Jvm.MethodName)) ∈ tb := tb_t 396 (by decide +kernel) (by decide +kernel)
theorem tW_397 : (Jvm.Cond.instanceMethod ({ cls := "KeepForget$RuleReader", name := "<init>", desc := "([BI)V" } : Jvm.MethodName)) ∈ tb := tb_t 397 (by decide +kernel) (by decide +kernel)
theorem tW_398 : (Jvm.Cond.code ({ cls := "KeepForget$RuleReader", name := "<init>", desc := "([BI)V" } : Jvm.MethodName) prog_6_method_1_code (3 : Nat) (Option.none : Option Jvm.ClassFile.FieldType)) ∈ tb := tb_t 398 (by decide +kernel) (by decide +kernel)
theorem tW_399 : (Jvm.Cond.methodLink "KeepForget$RuleReader" (3 : Nat) ({ cls := "java/lang/Object", name := "<init>", desc := "()V" } : Jvm.MethodName)) ∈ tb := tb_t 399 (by decide +kernel) (by decide +kernel)
theorem tW_400 : (Jvm.Cond.methodLink "KeepForget$RuleReader" (15 : Nat) ({ cls := "java/lang/Math", name := "min", desc := "(II)I" } : Jvm.MethodName)) ∈ tb := tb_t 400 (by decide +kernel) (by decide +kernel)
theorem tW_401 : (Jvm.Cond.fieldLink "KeepForget$RuleReader" (9 : Nat) "KeepForget$RuleReader" "text" "[B") ∈ tb := tb_t 401 (by decide +kernel) (by decide +kernel)
theorem tW_402 : (Jvm.Cond.fieldLink "KeepForget$RuleReader" (21 : Nat) "KeepForget$RuleReader" "length" "I") ∈ tb := tb_t 402 (by decide +kernel) (by decide +kernel)
theorem tW_403 : (Jvm.Cond.fieldLink "KeepForget$RuleReader" (28 : Nat) "KeepForget$RuleReader" "token" "I") ∈ tb := tb_t 403 (by decide +kernel) (by decide +kernel)
theorem tW_404 : (Jvm.Cond.fieldLink "KeepForget$RuleReader" (158 : Nat) "KeepForget$RuleReader" "start" "I") ∈ tb := tb_t 404 (by decide +kernel) (by decide +kernel)
theorem tW_405 : (Jvm.Cond.fieldLink "KeepForget$RuleReader" (156 : Nat) "KeepForget$RuleReader" "end" "I") ∈ tb := tb_t 405 (by decide +kernel) (by decide +kernel)
theorem tW_406 : (Jvm.Cond.fieldLink "KeepForget" (115 : Nat) "KeepForget$RuleReader" "fault" "I") ∈ tb := tb_t 406 (by decide +kernel) (by decide +kernel)
theorem tW_407 : (Jvm.Cond.fieldLink "KeepForget$RuleReader" (161 : Nat) "KeepForget$RuleReader" "fault" "I") ∈ tb := tb_t 407 (by decide +kernel) (by decide +kernel)
theorem tW_408 : (Jvm.Cond.fieldLink "KeepForget" (118 : Nat) "KeepForget$RuleReader" "faultPlace" "I") ∈ tb := tb_t 408 (by decide +kernel) (by decide +kernel)
theorem tW_409 : (Jvm.Cond.fieldLink "KeepForget$RuleReader" (164 : Nat) "KeepForget$RuleReader" "faultPlace" "I") ∈ tb := tb_t 409 (by decide +kernel) (by decide +kernel)
theorem tW_425 : (Jvm.Cond.methodLink "KeepForget" (111 : Nat) ({ cls := "KeepForget$RuleReader", name := "readInto", desc := "(LKeepForget$RuleSet;)V" } : Jvm.MethodName)) ∈ tb := tb_t 425 (by decide +kernel) (by decide +kernel)
theorem tW_426 : (Jvm.Cond.instanceMethod ({ cls := "KeepForget$RuleReader", name := "readInto", desc := "(LKeepForget$RuleSet;)V" } : Jvm.MethodName)) ∈ tb := tb_t 426 (by decide +kernel) (by decide +kernel)
theorem tW_427 : (Jvm.Cond.selects "KeepForget$RuleReader" ({ cls := "KeepForget$RuleReader", name := "readInto", desc := "(LKeepForget$RuleSet;)V" } : Jvm.MethodName) ({ cls := "KeepForget$RuleReader", name := "readInto", desc := "(LKeepForget$RuleSet;)V" } : Jvm.MethodName)) ∈ tb := tb_t 427 (by decide +kernel) (by decide +kernel)
theorem tW_428 : (Jvm.Cond.code ({ cls := "KeepForget$RuleReader", name := "readInto", desc := "(LKeepForget$RuleSet;)V" } : Jvm.MethodName) prog_6_method_2_code (3 : Nat) (Option.none : Option Jvm.ClassFile.FieldType)) ∈ tb := tb_t 428 (by decide +kernel) (by decide +kernel)
theorem tW_429 : (Jvm.Cond.methodLink "KeepForget$RuleReader" (25 : Nat) ({ cls := "KeepForget$RuleReader", name := "next", desc := "()V" } : Jvm.MethodName)) ∈ tb := tb_t 429 (by decide +kernel) (by decide +kernel)
theorem tW_431 : (Jvm.Cond.instanceMethod ({ cls := "KeepForget$RuleReader", name := "next", desc := "()V" } : Jvm.MethodName)) ∈ tb := tb_t 431 (by decide +kernel) (by decide +kernel)
theorem tW_432 : (Jvm.Cond.code ({ cls := "KeepForget$RuleReader", name := "next", desc := "()V" } : Jvm.MethodName) prog_6_method_18_code (2 : Nat) (Option.none : Option Jvm.ClassFile.FieldType)) ∈ tb := tb_t 432 (by decide +kernel) (by decide +kernel)
theorem tW_433 : (Jvm.Cond.methodLink "KeepForget$RuleReader" (175 : Nat) ({ cls := "KeepForget$RuleReader", name := "isLetter", desc := "(I)Z" } : Jvm.MethodName)) ∈ tb := tb_t 433 (by decide +kernel) (by decide +kernel)
theorem tW_434 : (Jvm.Cond.static ({ cls := "KeepForget$RuleReader", name := "isLetter", desc := "(I)Z" } : Jvm.MethodName)) ∈ tb := tb_t 434 (by decide +kernel) (by decide +kernel)
theorem tW_435 : (Jvm.Cond.code ({ cls := "KeepForget$RuleReader", name := "isLetter", desc := "(I)Z" } : Jvm.MethodName) prog_6_method_19_code (1 : Nat) (Option.some Jvm.ClassFile.FieldType.boolean)) ∈ tb := tb_t 435 (by decide +kernel) (by decide +kernel)
theorem tW_436 : (Jvm.Cond.methodLink "KeepForget$RuleReader" (178 : Nat) ({ cls := "KeepForget$RuleReader", name := "isDigit", desc := "(I)Z" } : Jvm.MethodName)) ∈ tb := tb_t 436 (by decide +kernel) (by decide +kernel)
theorem tW_437 : (Jvm.Cond.static ({ cls := "KeepForget$RuleReader", name := "isDigit", desc := "(I)Z" } : Jvm.MethodName)) ∈ tb := tb_t 437 (by decide +kernel) (by decide +kernel)
theorem tW_438 : (Jvm.Cond.code ({ cls := "KeepForget$RuleReader", name := "isDigit", desc := "(I)Z" } : Jvm.MethodName) prog_6_method_20_code (1 : Nat) (Option.some Jvm.ClassFile.FieldType.boolean)) ∈ tb := tb_t 438 (by decide +kernel) (by decide +kernel)
theorem tW_439 : (Jvm.Cond.methodLink "KeepForget$RuleReader" (31 : Nat) ({ cls := "KeepForget$RuleReader", name := "readRule", desc := "(LKeepForget$RuleSet;)Z" } : Jvm.MethodName)) ∈ tb := tb_t 439 (by decide +kernel) (by decide +kernel)
theorem tW_441 : (Jvm.Cond.instanceMethod ({ cls := "KeepForget$RuleReader", name := "readRule", desc := "(LKeepForget$RuleSet;)Z" } : Jvm.MethodName)) ∈ tb := tb_t 441 (by decide +kernel) (by decide +kernel)
theorem tW_442 : (Jvm.Cond.code ({ cls := "KeepForget$RuleReader", name := "readRule", desc := "(LKeepForget$RuleSet;)Z" } : Jvm.MethodName) prog_6_method_3_code (4 : Nat) (Option.some Jvm.ClassFile.FieldType.boolean)) ∈ tb := tb_t 442 (by decide +kernel) (by decide +kernel)
theorem tW_443 : (Jvm.Cond.methodLink "KeepForget$RuleReader" (35 : Nat) ({ cls := "KeepForget$RuleReader", name := "ruleSort", desc := "()I" } : Jvm.MethodName)) ∈ tb := tb_t 443 (by decide +kernel) (by decide +kernel)
theorem tW_445 : (Jvm.Cond.instanceMethod ({ cls := "KeepForget$RuleReader", name := "ruleSort", desc := "()I" } : Jvm.MethodName)) ∈ tb := tb_t 445 (by decide +kernel) (by decide +kernel)
theorem tW_446 : (Jvm.Cond.code ({ cls := "KeepForget$RuleReader", name := "ruleSort", desc := "()I" } : Jvm.MethodName) prog_6_method_4_code (1 : Nat) (Option.some Jvm.ClassFile.FieldType.int)) ∈ tb := tb_t 446 (by decide +kernel) (by decide +kernel)
theorem tW_448 : (Jvm.Cond.methodLink "KeepForget$RuleReader" (80 : Nat) ({ cls := "KeepForget$RuleReader", name := "isWord", desc := "(Ljava/lang/String;)Z" } : Jvm.MethodName)) ∈ tb := tb_t 448 (by decide +kernel) (by decide +kernel)
theorem tW_450 : (Jvm.Cond.instanceMethod ({ cls := "KeepForget$RuleReader", name := "isWord", desc := "(Ljava/lang/String;)Z" } : Jvm.MethodName)) ∈ tb := tb_t 450 (by decide +kernel) (by decide +kernel)
theorem tW_451 : (Jvm.Cond.code ({ cls := "KeepForget$RuleReader", name := "isWord", desc := "(Ljava/lang/String;)Z" } : Jvm.MethodName) prog_6_method_14_code (3 : Nat) (Option.some Jvm.ClassFile.FieldType.boolean)) ∈ tb := tb_t 451 (by decide +kernel) (by decide +kernel)
theorem tW_452 : (Jvm.Cond.methodLink "KeepForget$RuleReader" (167 : Nat) ({ cls := "java/lang/String", name := "length", desc := "()I" } : Jvm.MethodName)) ∈ tb := tb_t 452 (by decide +kernel) (by decide +kernel)
theorem tW_453 : (Jvm.Cond.instanceMethod ({ cls := "java/lang/String", name := "length", desc := "()I" } : Jvm.MethodName)) ∈ tb := tb_t 453 (by decide +kernel) (by decide +kernel)
theorem tW_454 : (Jvm.Cond.selects "java/lang/String" ({ cls := "java/lang/String", name := "length", desc := "()I" } : Jvm.MethodName) ({ cls := "java/lang/String", name := "length", desc := "()I" } : Jvm.MethodName)) ∈ tb := tb_t 454 (by decide +kernel) (by decide +kernel)
theorem tW_455 : (Jvm.Cond.code ({ cls := "java/lang/String", name := "length", desc := "()I" } : Jvm.MethodName) prog_18_method_54_code (1 : Nat) (Option.some Jvm.ClassFile.FieldType.int)) ∈ tb := tb_t 455 (by decide +kernel) (by decide +kernel)
theorem tW_456 : (Jvm.Cond.methodLink "java/lang/String" (335 : Nat) ({ cls := "java/lang/String", name := "coder", desc := "()B" } : Jvm.MethodName)) ∈ tb := tb_t 456 (by decide +kernel) (by decide +kernel)
theorem tW_457 : (Jvm.Cond.instanceMethod ({ cls := "java/lang/String", name := "coder", desc := "()B" } : Jvm.MethodName)) ∈ tb := tb_t 457 (by decide +kernel) (by decide +kernel)
theorem tW_458 : (Jvm.Cond.selects "java/lang/String" ({ cls := "java/lang/String", name := "coder", desc := "()B" } : Jvm.MethodName) ({ cls := "java/lang/String", name := "coder", desc := "()B" } : Jvm.MethodName)) ∈ tb := tb_t 458 (by decide +kernel) (by decide +kernel)
theorem tW_459 : (Jvm.Cond.code ({ cls := "java/lang/String", name := "coder", desc := "()B" } : Jvm.MethodName) prog_18_method_152_code (1 : Nat) (Option.some Jvm.ClassFile.FieldType.byte)) ∈ tb := tb_t 459 (by decide +kernel) (by decide +kernel)
theorem tW_460 : (Jvm.Cond.fieldLink "java/lang/String" (38 : Nat) "java/lang/String" "COMPACT_STRINGS" "Z") ∈ tb := tb_t 460 (by decide +kernel) (by decide +kernel)
theorem tW_462 : (Jvm.Cond.methodLink "KeepForget$RuleReader" (171 : Nat) ({ cls := "java/lang/String", name := "charAt", desc := "(I)C" } : Jvm.MethodName)) ∈ tb := tb_t 462 (by decide +kernel) (by decide +kernel)
theorem tW_463 : (Jvm.Cond.instanceMethod ({ cls := "java/lang/String", name := "charAt", desc := "(I)C" } : Jvm.MethodName)) ∈ tb := tb_t 463 (by decide +kernel) (by decide +kernel)
theorem tW_464 : (Jvm.Cond.selects "java/lang/String" ({ cls := "java/lang/String", name := "charAt", desc := "(I)C" } : Jvm.MethodName) ({ cls := "java/lang/String", name := "charAt", desc := "(I)C" } : Jvm.MethodName)) ∈ tb := tb_t 464 (by decide +kernel) (by decide +kernel)
theorem tW_465 : (Jvm.Cond.code ({ cls := "java/lang/String", name := "charAt", desc := "(I)C" } : Jvm.MethodName) prog_18_method_56_code (2 : Nat) (Option.some Jvm.ClassFile.FieldType.char)) ∈ tb := tb_t 465 (by decide +kernel) (by decide +kernel)
theorem tW_466 : (Jvm.Cond.methodLink "java/lang/String" (492 : Nat) ({ cls := "java/lang/String", name := "isLatin1", desc := "()Z" } : Jvm.MethodName)) ∈ tb := tb_t 466 (by decide +kernel) (by decide +kernel)
theorem tW_467 : (Jvm.Cond.instanceMethod ({ cls := "java/lang/String", name := "isLatin1", desc := "()Z" } : Jvm.MethodName)) ∈ tb := tb_t 467 (by decide +kernel) (by decide +kernel)
theorem tW_468 : (Jvm.Cond.selects "java/lang/String" ({ cls := "java/lang/String", name := "isLatin1", desc := "()Z" } : Jvm.MethodName) ({ cls := "java/lang/String", name := "isLatin1", desc := "()Z" } : Jvm.MethodName)) ∈ tb := tb_t 468 (by decide +kernel) (by decide +kernel)
theorem tW_469 : (Jvm.Cond.code ({ cls := "java/lang/String", name := "isLatin1", desc := "()Z" } : Jvm.MethodName) prog_18_method_154_code (1 : Nat) (Option.some Jvm.ClassFile.FieldType.boolean)) ∈ tb := tb_t 469 (by decide +kernel) (by decide +kernel)
theorem tW_470 : (Jvm.Cond.methodLink "java/lang/String" (495 : Nat) ({ cls := "java/lang/StringLatin1", name := "charAt", desc := "([BI)C" } : Jvm.MethodName)) ∈ tb := tb_t 470 (by decide +kernel) (by decide +kernel)
theorem tW_471 : (Jvm.Cond.static ({ cls := "java/lang/StringLatin1", name := "charAt", desc := "([BI)C" } : Jvm.MethodName)) ∈ tb := tb_t 471 (by decide +kernel) (by decide +kernel)
theorem tW_472 : (Jvm.Cond.code ({ cls := "java/lang/StringLatin1", name := "charAt", desc := "([BI)C" } : Jvm.MethodName) prog_19_method_2_code (2 : Nat) (Option.some Jvm.ClassFile.FieldType.char)) ∈ tb := tb_t 472 (by decide +kernel) (by decide +kernel)
theorem tW_473 : (Jvm.Cond.methodLink "java/lang/StringLatin1" (9 : Nat) ({ cls := "java/lang/String", name := "checkIndex", desc := "(II)V" } : Jvm.MethodName)) ∈ tb := tb_t 473 (by decide +kernel) (by decide +kernel)
theorem tW_474 : (Jvm.Cond.static ({ cls := "java/lang/String", name := "checkIndex", desc := "(II)V" } : Jvm.MethodName)) ∈ tb := tb_t 474 (by decide +kernel) (by decide +kernel)
theorem tW_475 : (Jvm.Cond.code ({ cls := "java/lang/String", name := "checkIndex", desc := "(II)V" } : Jvm.MethodName) prog_18_method_155_code (2 : Nat) (Option.none : Option Jvm.ClassFile.FieldType)) ∈ tb := tb_t 475 (by decide +kernel) (by decide +kernel)
theorem tW_476 : (Jvm.Cond.fieldLink "java/lang/String" (1053 : Nat) "jdk/internal/util/Preconditions" "SIOOBE_FORMATTER" "Ljava/util/function/BiFunction;") ∈ tb := tb_t 476 (by decide +kernel) (by decide +kernel)
theorem tW_478 : (Jvm.Cond.methodLink "java/lang/String" (1059 : Nat) ({ cls := "jdk/internal/util/Preconditions", name := "checkIndex", desc := "(IILjava/util/function/BiFunction;)I" } : Jvm.MethodName)) ∈ tb := tb_t 478 (by decide +kernel) (by decide +kernel)
theorem tW_479 : (Jvm.Cond.static ({ cls := "jdk/internal/util/Preconditions", name := "checkIndex", desc := "(IILjava/util/function/BiFunction;)I" } : Jvm.MethodName)) ∈ tb := tb_t 479 (by decide +kernel) (by decide +kernel)
theorem tW_480 : (Jvm.Cond.code ({ cls := "jdk/internal/util/Preconditions", name := "checkIndex", desc := "(IILjava/util/function/BiFunction;)I" } : Jvm.MethodName) prog_23_method_11_code (3 : Nat) (Option.some Jvm.ClassFile.FieldType.int)) ∈ tb := tb_t 480 (by decide +kernel) (by decide +kernel)
theorem tW_481 : (Jvm.Cond.methodLink "java/lang/String" (498 : Nat) ({ cls := "java/lang/StringUTF16", name := "charAt", desc := "([BI)C" } : Jvm.MethodName)) ∈ tb := tb_t 481 (by decide +kernel) (by decide +kernel)
theorem tW_482 : (Jvm.Cond.static ({ cls := "java/lang/StringUTF16", name := "charAt", desc := "([BI)C" } : Jvm.MethodName)) ∈ tb := tb_t 482 (by decide +kernel) (by decide +kernel)
theorem tW_483 : (Jvm.Cond.code ({ cls := "java/lang/StringUTF16", name := "charAt", desc := "([BI)C" } : Jvm.MethodName) prog_20_method_83_code (2 : Nat) (Option.some Jvm.ClassFile.FieldType.char)) ∈ tb := tb_t 483 (by decide +kernel) (by decide +kernel)
theorem tW_484 : (Jvm.Cond.methodLink "java/lang/StringUTF16" (67 : Nat) ({ cls := "java/lang/StringUTF16", name := "checkIndex", desc := "(I[B)V" } : Jvm.MethodName)) ∈ tb := tb_t 484 (by decide +kernel) (by decide +kernel)
theorem tW_485 : (Jvm.Cond.static ({ cls := "java/lang/StringUTF16", name := "checkIndex", desc := "(I[B)V" } : Jvm.MethodName)) ∈ tb := tb_t 485 (by decide +kernel) (by decide +kernel)
theorem tW_486 : (Jvm.Cond.code ({ cls := "java/lang/StringUTF16", name := "checkIndex", desc := "(I[B)V" } : Jvm.MethodName) prog_20_method_91_code (2 : Nat) (Option.none : Option Jvm.ClassFile.FieldType)) ∈ tb := tb_t 486 (by decide +kernel) (by decide +kernel)
theorem tW_487 : (Jvm.Cond.methodLink "java/lang/StringUTF16" (48 : Nat) ({ cls := "java/lang/StringUTF16", name := "length", desc := "([B)I" } : Jvm.MethodName)) ∈ tb := tb_t 487 (by decide +kernel) (by decide +kernel)
theorem tW_488 : (Jvm.Cond.static ({ cls := "java/lang/StringUTF16", name := "length", desc := "([B)I" } : Jvm.MethodName)) ∈ tb := tb_t 488 (by decide +kernel) (by decide +kernel)
theorem tW_489 : (Jvm.Cond.code ({ cls := "java/lang/StringUTF16", name := "length", desc := "([B)I" } : Jvm.MethodName) prog_20_method_6_code (1 : Nat) (Option.some Jvm.ClassFile.FieldType.int)) ∈ tb := tb_t 489 (by decide +kernel) (by decide +kernel)
theorem tW_490 : (Jvm.Cond.methodLink "java/lang/StringUTF16" (414 : Nat) ({ cls := "java/lang/String", name := "checkIndex", desc := "(II)V" } : Jvm.MethodName)) ∈ tb := tb_t 490 (by decide +kernel) (by decide +kernel)
theorem tW_491 : (Jvm.Cond.methodLink "java/lang/StringUTF16" (71 : Nat) ({ cls := "java/lang/StringUTF16", name := "getChar", desc := "([BI)C" } : Jvm.MethodName)) ∈ tb := tb_t 491 (by decide +kernel) (by decide +kernel)
theorem tW_492 : (Jvm.Cond.static ({ cls := "java/lang/StringUTF16", name := "getChar", desc := "([BI)C" } : Jvm.MethodName)) ∈ tb := tb_t 492 (by decide +kernel) (by decide +kernel)
theorem tW_493 : (Jvm.Cond.code ({ cls := "java/lang/StringUTF16", name := "getChar", desc := "([BI)C" } : Jvm.MethodName) prog_20_method_5_code (2 : Nat) (Option.some Jvm.ClassFile.FieldType.char)) ∈ tb := tb_t 493 (by decide +kernel) (by decide +kernel)
theorem tW_494 : (Jvm.Cond.fieldLink "java/lang/StringUTF16" (44 : Nat) "java/lang/StringUTF16" "$assertionsDisabled" "Z") ∈ tb := tb_t 494 (by decide +kernel) (by decide +kernel)
theorem tW_496 : (Jvm.Cond.fieldLink "java/lang/StringUTF16" (59 : Nat) "java/lang/StringUTF16" "HI_BYTE_SHIFT" "I") ∈ tb := tb_t 496 (by decide +kernel) (by decide +kernel)
theorem tW_498 : (Jvm.Cond.fieldLink "java/lang/StringUTF16" (63 : Nat) "java/lang/StringUTF16" "LO_BYTE_SHIFT" "I") ∈ tb := tb_t 498 (by decide +kernel) (by decide +kernel)
theorem tW_502 : (Jvm.Cond.methodLink "KeepForget$RuleReader" (39 : Nat) ({ cls := "KeepForget$RuleReader", name := "fail", desc := "(I)Z" } : Jvm.MethodName)) ∈ tb := tb_t 502 (by decide +kernel) (by decide +kernel)
theorem tW_504 : (Jvm.Cond.instanceMethod ({ cls := "KeepForget$RuleReader", name := "fail", desc := "(I)Z" } : Jvm.MethodName)) ∈ tb := tb_t 504 (by decide +kernel) (by decide +kernel)
theorem tW_505 : (Jvm.Cond.code ({ cls := "KeepForget$RuleReader", name := "fail", desc := "(I)Z" } : Jvm.MethodName) prog_6_method_13_code (2 : Nat) (Option.some Jvm.ClassFile.FieldType.boolean)) ∈ tb := tb_t 505 (by decide +kernel) (by decide +kernel)
theorem tW_506 : (Jvm.Cond.methodLink "KeepForget$RuleReader" (43 : Nat) ({ cls := "KeepForget$RuleSet", name := "isFull", desc := "()Z" } : Jvm.MethodName)) ∈ tb := tb_t 506 (by decide +kernel) (by decide +kernel)
theorem tW_507 : (Jvm.Cond.instanceMethod ({ cls := "KeepForget$RuleSet", name := "isFull", desc := "()Z" } : Jvm.MethodName)) ∈ tb := tb_t 507 (by decide +kernel) (by decide +kernel)
theorem tW_508 : (Jvm.Cond.selects "KeepForget$RuleSet" ({ cls := "KeepForget$RuleSet", name := "isFull", desc := "()Z" } : Jvm.MethodName) ({ cls := "KeepForget$RuleSet", name := "isFull", desc := "()Z" } : Jvm.MethodName)) ∈ tb := tb_t 508 (by decide +kernel) (by decide +kernel)
theorem tW_509 : (Jvm.Cond.code ({ cls := "KeepForget$RuleSet", name := "isFull", desc := "()Z" } : Jvm.MethodName) prog_7_method_2_code (1 : Nat) (Option.some Jvm.ClassFile.FieldType.boolean)) ∈ tb := tb_t 509 (by decide +kernel) (by decide +kernel)
theorem tW_510 : (Jvm.Cond.classLink "KeepForget$RuleReader" (49 : Nat) "KeepForget$Rule") ∈ tb := tb_t 510 (by decide +kernel) (by decide +kernel)
theorem tW_511 : (Jvm.Cond.instantiable "KeepForget$Rule" (12 : Nat)) ∈ tb := tb_t 511 (by decide +kernel) (by decide +kernel)
theorem tW_512 : (Jvm.Cond.methodLink "KeepForget$RuleReader" (51 : Nat) ({ cls := "KeepForget$Rule", name := "<init>", desc := "(I)V" } : Jvm.MethodName)) ∈ tb := tb_t 512 (by decide +kernel) (by decide +kernel)
theorem tW_513 : (Jvm.Cond.instanceMethod ({ cls := "KeepForget$Rule", name := "<init>", desc := "(I)V" } : Jvm.MethodName)) ∈ tb := tb_t 513 (by decide +kernel) (by decide +kernel)
theorem tW_514 : (Jvm.Cond.code ({ cls := "KeepForget$Rule", name := "<init>", desc := "(I)V" } : Jvm.MethodName) prog_5_method_1_code (2 : Nat) (Option.none : Option Jvm.ClassFile.FieldType)) ∈ tb := tb_t 514 (by decide +kernel) (by decide +kernel)
theorem tW_515 : (Jvm.Cond.methodLink "KeepForget$Rule" (3 : Nat) ({ cls := "java/lang/Object", name := "<init>", desc := "()V" } : Jvm.MethodName)) ∈ tb := tb_t 515 (by decide +kernel) (by decide +kernel)
theorem tW_516 : (Jvm.Cond.fieldLink "KeepForget$Rule" (9 : Nat) "KeepForget$Rule" "sort" "I") ∈ tb := tb_t 516 (by decide +kernel) (by decide +kernel)
theorem tW_517 : (Jvm.Cond.fieldLink "KeepForget$Span" (63 : Nat) "KeepForget$Rule" "sort" "I") ∈ tb := tb_t 517 (by decide +kernel) (by decide +kernel)
theorem tW_518 : (Jvm.Cond.fieldLink "KeepForget$RuleSet" (32 : Nat) "KeepForget$Rule" "sort" "I") ∈ tb := tb_t 518 (by decide +kernel) (by decide +kernel)
theorem tW_519 : (Jvm.Cond.fieldLink "KeepForget$Rule" (26 : Nat) "KeepForget$Rule" "kinds" "I") ∈ tb := tb_t 519 (by decide +kernel) (by decide +kernel)
theorem tW_520 : (Jvm.Cond.fieldLink "KeepForget$RuleReader" (94 : Nat) "KeepForget$Rule" "kinds" "I") ∈ tb := tb_t 520 (by decide +kernel) (by decide +kernel)
theorem tW_521 : (Jvm.Cond.fieldLink "KeepForget$Rule" (34 : Nat) "KeepForget$Rule" "fields" "I") ∈ tb := tb_t 521 (by decide +kernel) (by decide +kernel)
theorem tW_522 : (Jvm.Cond.fieldLink "KeepForget$RuleReader" (99 : Nat) "KeepForget$Rule" "fields" "I") ∈ tb := tb_t 522 (by decide +kernel) (by decide +kernel)
theorem tW_523 : (Jvm.Cond.fieldLink "KeepForget$RuleSet" (49 : Nat) "KeepForget$Rule" "stores" "I") ∈ tb := tb_t 523 (by decide +kernel) (by decide +kernel)
theorem tW_524 : (Jvm.Cond.fieldLink "KeepForget$RuleReader" (128 : Nat) "KeepForget$Rule" "stores" "I") ∈ tb := tb_t 524 (by decide +kernel) (by decide +kernel)
theorem tW_525 : (Jvm.Cond.fieldLink "KeepForget$Rule" (52 : Nat) "KeepForget$Rule" "amount" "I") ∈ tb := tb_t 525 (by decide +kernel) (by decide +kernel)
theorem tW_526 : (Jvm.Cond.fieldLink "KeepForget$RuleReader" (108 : Nat) "KeepForget$Rule" "amount" "I") ∈ tb := tb_t 526 (by decide +kernel) (by decide +kernel)
theorem tW_527 : (Jvm.Cond.fieldLink "KeepForget$Rule" (49 : Nat) "KeepForget$Rule" "unitMonths" "I") ∈ tb := tb_t 527 (by decide +kernel) (by decide +kernel)
theorem tW_528 : (Jvm.Cond.fieldLink "KeepForget$RuleReader" (117 : Nat) "KeepForget$Rule" "unitMonths" "I") ∈ tb := tb_t 528 (by decide +kernel) (by decide +kernel)
theorem tW_529 : (Jvm.Cond.fieldLink "KeepForget$Rule" (46 : Nat) "KeepForget$Rule" "event" "I") ∈ tb := tb_t 529 (by decide +kernel) (by decide +kernel)
theorem tW_530 : (Jvm.Cond.fieldLink "KeepForget$RuleReader" (125 : Nat) "KeepForget$Rule" "event" "I") ∈ tb := tb_t 530 (by decide +kernel) (by decide +kernel)
theorem tW_531 : (Jvm.Cond.fieldLink "KeepForget$RuleSet" (35 : Nat) "KeepForget$Rule" "rank" "I") ∈ tb := tb_t 531 (by decide +kernel) (by decide +kernel)
theorem tW_532 : (Jvm.Cond.fieldLink "KeepForget$RuleReader" (154 : Nat) "KeepForget$Rule" "rank" "I") ∈ tb := tb_t 532 (by decide +kernel) (by decide +kernel)
theorem tW_533 : (Jvm.Cond.fieldLink "KeepForget$Rule" (37 : Nat) "KeepForget$Rule" "testCount" "I") ∈ tb := tb_t 533 (by decide +kernel) (by decide +kernel)
theorem tW_534 : (Jvm.Cond.fieldLink "KeepForget$RuleReader" (138 : Nat) "KeepForget$Rule" "testCount" "I") ∈ tb := tb_t 534 (by decide +kernel) (by decide +kernel)
theorem tW_535 : (Jvm.Cond.fieldLink "KeepForget$Rule" (15 : Nat) "KeepForget$Rule" "testFacts" "[I") ∈ tb := tb_t 535 (by decide +kernel) (by decide +kernel)
theorem tW_536 : (Jvm.Cond.fieldLink "KeepForget$RuleReader" (141 : Nat) "KeepForget$Rule" "testFacts" "[I") ∈ tb := tb_t 536 (by decide +kernel) (by decide +kernel)
theorem tW_537 : (Jvm.Cond.fieldLink "KeepForget$Rule" (19 : Nat) "KeepForget$Rule" "testIsLess" "[Z") ∈ tb := tb_t 537 (by decide +kernel) (by decide +kernel)
theorem tW_538 : (Jvm.Cond.fieldLink "KeepForget$RuleReader" (145 : Nat) "KeepForget$Rule" "testIsLess" "[Z") ∈ tb := tb_t 538 (by decide +kernel) (by decide +kernel)
theorem tW_539 : (Jvm.Cond.fieldLink "KeepForget$Rule" (23 : Nat) "KeepForget$Rule" "testNumbers" "[I") ∈ tb := tb_t 539 (by decide +kernel) (by decide +kernel)
theorem tW_540 : (Jvm.Cond.fieldLink "KeepForget$RuleReader" (149 : Nat) "KeepForget$Rule" "testNumbers" "[I") ∈ tb := tb_t 540 (by decide +kernel) (by decide +kernel)
theorem tW_566 : (Jvm.Cond.arrayClass Jvm.ClassFile.FieldType.boolean) ∈ tb := tb_t 566 (by decide +kernel) (by decide +kernel)
theorem tW_567 : (Jvm.Cond.methodLink "KeepForget$RuleReader" (54 : Nat) ({ cls := "KeepForget$RuleReader", name := "readWhat", desc := "(LKeepForget$Rule;)Z" } : Jvm.MethodName)) ∈ tb := tb_t 567 (by decide +kernel) (by decide +kernel)
theorem tW_569 : (Jvm.Cond.instanceMethod ({ cls := "KeepForget$RuleReader", name := "readWhat", desc := "(LKeepForget$Rule;)Z" } : Jvm.MethodName)) ∈ tb := tb_t 569 (by decide +kernel) (by decide +kernel)
theorem tW_570 : (Jvm.Cond.code ({ cls := "KeepForget$RuleReader", name := "readWhat", desc := "(LKeepForget$Rule;)Z" } : Jvm.MethodName) prog_6_method_5_code (2 : Nat) (Option.some Jvm.ClassFile.FieldType.boolean)) ∈ tb := tb_t 570 (by decide +kernel) (by decide +kernel)
theorem tW_572 : (Jvm.Cond.methodLink "KeepForget$RuleReader" (90 : Nat) ({ cls := "KeepForget$RuleReader", name := "bitOf", desc := "(CI)I" } : Jvm.MethodName)) ∈ tb := tb_t 572 (by decide +kernel) (by decide +kernel)
theorem tW_574 : (Jvm.Cond.instanceMethod ({ cls := "KeepForget$RuleReader", name := "bitOf", desc := "(CI)I" } : Jvm.MethodName)) ∈ tb := tb_t 574 (by decide +kernel) (by decide +kernel)
theorem tW_575 : (Jvm.Cond.code ({ cls := "KeepForget$RuleReader", name := "bitOf", desc := "(CI)I" } : Jvm.MethodName) prog_6_method_17_code (4 : Nat) (Option.some Jvm.ClassFile.FieldType.int)) ∈ tb := tb_t 575 (by decide +kernel) (by decide +kernel)
theorem tW_576 : (Jvm.Cond.methodLink "KeepForget$RuleReader" (122 : Nat) ({ cls := "KeepForget$RuleReader", name := "numbered", desc := "(CI)I" } : Jvm.MethodName)) ∈ tb := tb_t 576 (by decide +kernel) (by decide +kernel)
theorem tW_578 : (Jvm.Cond.instanceMethod ({ cls := "KeepForget$RuleReader", name := "numbered", desc := "(CI)I" } : Jvm.MethodName)) ∈ tb := tb_t 578 (by decide +kernel) (by decide +kernel)
theorem tW_579 : (Jvm.Cond.code ({ cls := "KeepForget$RuleReader", name := "numbered", desc := "(CI)I" } : Jvm.MethodName) prog_6_method_16_code (4 : Nat) (Option.some Jvm.ClassFile.FieldType.int)) ∈ tb := tb_t 579 (by decide +kernel) (by decide +kernel)
theorem tW_581 : (Jvm.Cond.methodLink "KeepForget$RuleReader" (58 : Nat) ({ cls := "KeepForget$RuleReader", name := "readStores", desc := "(LKeepForget$Rule;)Z" } : Jvm.MethodName)) ∈ tb := tb_t 581 (by decide +kernel) (by decide +kernel)
theorem tW_583 : (Jvm.Cond.instanceMethod ({ cls := "KeepForget$RuleReader", name := "readStores", desc := "(LKeepForget$Rule;)Z" } : Jvm.MethodName)) ∈ tb := tb_t 583 (by decide +kernel) (by decide +kernel)
theorem tW_584 : (Jvm.Cond.code ({ cls := "KeepForget$RuleReader", name := "readStores", desc := "(LKeepForget$Rule;)Z" } : Jvm.MethodName) prog_6_method_7_code (4 : Nat) (Option.some Jvm.ClassFile.FieldType.boolean)) ∈ tb := tb_t 584 (by decide +kernel) (by decide +kernel)
theorem tW_585 : (Jvm.Cond.methodLink "KeepForget$RuleReader" (61 : Nat) ({ cls := "KeepForget$RuleReader", name := "readTime", desc := "(LKeepForget$Rule;)Z" } : Jvm.MethodName)) ∈ tb := tb_t 585 (by decide +kernel) (by decide +kernel)
theorem tW_587 : (Jvm.Cond.instanceMethod ({ cls := "KeepForget$RuleReader", name := "readTime", desc := "(LKeepForget$Rule;)Z" } : Jvm.MethodName)) ∈ tb := tb_t 587 (by decide +kernel) (by decide +kernel)
theorem tW_588 : (Jvm.Cond.code ({ cls := "KeepForget$RuleReader", name := "readTime", desc := "(LKeepForget$Rule;)Z" } : Jvm.MethodName) prog_6_method_6_code (2 : Nat) (Option.some Jvm.ClassFile.FieldType.boolean)) ∈ tb := tb_t 588 (by decide +kernel) (by decide +kernel)
theorem tW_589 : (Jvm.Cond.methodLink "KeepForget$RuleReader" (102 : Nat) ({ cls := "KeepForget$RuleReader", name := "checkNumber", desc := "()Z" } : Jvm.MethodName)) ∈ tb := tb_t 589 (by decide +kernel) (by decide +kernel)
theorem tW_591 : (Jvm.Cond.instanceMethod ({ cls := "KeepForget$RuleReader", name := "checkNumber", desc := "()Z" } : Jvm.MethodName)) ∈ tb := tb_t 591 (by decide +kernel) (by decide +kernel)
theorem tW_592 : (Jvm.Cond.code ({ cls := "KeepForget$RuleReader", name := "checkNumber", desc := "()Z" } : Jvm.MethodName) prog_6_method_11_code (1 : Nat) (Option.some Jvm.ClassFile.FieldType.boolean)) ∈ tb := tb_t 592 (by decide +kernel) (by decide +kernel)
theorem tW_593 : (Jvm.Cond.methodLink "KeepForget$RuleReader" (105 : Nat) ({ cls := "KeepForget$RuleReader", name := "number", desc := "()I" } : Jvm.MethodName)) ∈ tb := tb_t 593 (by decide +kernel) (by decide +kernel)
theorem tW_595 : (Jvm.Cond.instanceMethod ({ cls := "KeepForget$RuleReader", name := "number", desc := "()I" } : Jvm.MethodName)) ∈ tb := tb_t 595 (by decide +kernel) (by decide +kernel)
theorem tW_596 : (Jvm.Cond.code ({ cls := "KeepForget$RuleReader", name := "number", desc := "()I" } : Jvm.MethodName) prog_6_method_12_code (3 : Nat) (Option.some Jvm.ClassFile.FieldType.int)) ∈ tb := tb_t 596 (by decide +kernel) (by decide +kernel)
theorem tW_601 : (Jvm.Cond.methodLink "KeepForget$RuleReader" (64 : Nat) ({ cls := "KeepForget$RuleReader", name := "readTests", desc := "(LKeepForget$Rule;)Z" } : Jvm.MethodName)) ∈ tb := tb_t 601 (by decide +kernel) (by decide +kernel)
theorem tW_603 : (Jvm.Cond.instanceMethod ({ cls := "KeepForget$RuleReader", name := "readTests", desc := "(LKeepForget$Rule;)Z" } : Jvm.MethodName)) ∈ tb := tb_t 603 (by decide +kernel) (by decide +kernel)
theorem tW_604 : (Jvm.Cond.code ({ cls := "KeepForget$RuleReader", name := "readTests", desc := "(LKeepForget$Rule;)Z" } : Jvm.MethodName) prog_6_method_8_code (4 : Nat) (Option.some Jvm.ClassFile.FieldType.boolean)) ∈ tb := tb_t 604 (by decide +kernel) (by decide +kernel)
theorem tW_606 : (Jvm.Cond.methodLink "KeepForget$RuleReader" (133 : Nat) ({ cls := "KeepForget$RuleReader", name := "readTest", desc := "(LKeepForget$Rule;)Z" } : Jvm.MethodName)) ∈ tb := tb_t 606 (by decide +kernel) (by decide +kernel)
theorem tW_608 : (Jvm.Cond.instanceMethod ({ cls := "KeepForget$RuleReader", name := "readTest", desc := "(LKeepForget$Rule;)Z" } : Jvm.MethodName)) ∈ tb := tb_t 608 (by decide +kernel) (by decide +kernel)
theorem tW_609 : (Jvm.Cond.code ({ cls := "KeepForget$RuleReader", name := "readTest", desc := "(LKeepForget$Rule;)Z" } : Jvm.MethodName) prog_6_method_9_code (4 : Nat) (Option.some Jvm.ClassFile.FieldType.boolean)) ∈ tb := tb_t 609 (by decide +kernel) (by decide +kernel)
theorem tW_610 : (Jvm.Cond.methodLink "KeepForget$RuleReader" (70 : Nat) ({ cls := "KeepForget$RuleReader", name := "isSign", desc := "(C)Z" } : Jvm.MethodName)) ∈ tb := tb_t 610 (by decide +kernel) (by decide +kernel)
theorem tW_612 : (Jvm.Cond.instanceMethod ({ cls := "KeepForget$RuleReader", name := "isSign", desc := "(C)Z" } : Jvm.MethodName)) ∈ tb := tb_t 612 (by decide +kernel) (by decide +kernel)
theorem tW_613 : (Jvm.Cond.code ({ cls := "KeepForget$RuleReader", name := "isSign", desc := "(C)Z" } : Jvm.MethodName) prog_6_method_15_code (2 : Nat) (Option.some Jvm.ClassFile.FieldType.boolean)) ∈ tb := tb_t 613 (by decide +kernel) (by decide +kernel)
theorem tW_615 : (Jvm.Cond.methodLink "KeepForget$RuleReader" (67 : Nat) ({ cls := "KeepForget$RuleReader", name := "readRank", desc := "(LKeepForget$Rule;)Z" } : Jvm.MethodName)) ∈ tb := tb_t 615 (by decide +kernel) (by decide +kernel)
theorem tW_617 : (Jvm.Cond.instanceMethod ({ cls := "KeepForget$RuleReader", name := "readRank", desc := "(LKeepForget$Rule;)Z" } : Jvm.MethodName)) ∈ tb := tb_t 617 (by decide +kernel) (by decide +kernel)
theorem tW_618 : (Jvm.Cond.code ({ cls := "KeepForget$RuleReader", name := "readRank", desc := "(LKeepForget$Rule;)Z" } : Jvm.MethodName) prog_6_method_10_code (2 : Nat) (Option.some Jvm.ClassFile.FieldType.boolean)) ∈ tb := tb_t 618 (by decide +kernel) (by decide +kernel)
theorem tW_620 : (Jvm.Cond.methodLink "KeepForget$RuleReader" (74 : Nat) ({ cls := "KeepForget$RuleSet", name := "add", desc := "(LKeepForget$Rule;)V" } : Jvm.MethodName)) ∈ tb := tb_t 620 (by decide +kernel) (by decide +kernel)
theorem tW_621 : (Jvm.Cond.instanceMethod ({ cls := "KeepForget$RuleSet", name := "add", desc := "(LKeepForget$Rule;)V" } : Jvm.MethodName)) ∈ tb := tb_t 621 (by decide +kernel) (by decide +kernel)
theorem tW_622 : (Jvm.Cond.selects "KeepForget$RuleSet" ({ cls := "KeepForget$RuleSet", name := "add", desc := "(LKeepForget$Rule;)V" } : Jvm.MethodName) ({ cls := "KeepForget$RuleSet", name := "add", desc := "(LKeepForget$Rule;)V" } : Jvm.MethodName)) ∈ tb := tb_t 622 (by decide +kernel) (by decide +kernel)
theorem tW_623 : (Jvm.Cond.code ({ cls := "KeepForget$RuleSet", name := "add", desc := "(LKeepForget$Rule;)V" } : Jvm.MethodName) prog_7_method_3_code (2 : Nat) (Option.none : Option Jvm.ClassFile.FieldType)) ∈ tb := tb_t 623 (by decide +kernel) (by decide +kernel)
theorem tW_624 : (Jvm.Cond.methodLink "KeepForget$RuleSet" (28 : Nat) ({ cls := "KeepForget$RuleSet", name := "isFull", desc := "()Z" } : Jvm.MethodName)) ∈ tb := tb_t 624 (by decide +kernel) (by decide +kernel)
theorem tW_625 : (Jvm.Cond.methodLink "KeepForget$RuleSet" (38 : Nat) ({ cls := "KeepForget$RuleSet", name := "putInTurn", desc := "(II)V" } : Jvm.MethodName)) ∈ tb := tb_t 625 (by decide +kernel) (by decide +kernel)
theorem tW_627 : (Jvm.Cond.instanceMethod ({ cls := "KeepForget$RuleSet", name := "putInTurn", desc := "(II)V" } : Jvm.MethodName)) ∈ tb := tb_t 627 (by decide +kernel) (by decide +kernel)
theorem tW_628 : (Jvm.Cond.code ({ cls := "KeepForget$RuleSet", name := "putInTurn", desc := "(II)V" } : Jvm.MethodName) prog_7_method_4_code (4 : Nat) (Option.none : Option Jvm.ClassFile.FieldType)) ∈ tb := tb_t 628 (by decide +kernel) (by decide +kernel)
theorem tW_629 : (Jvm.Cond.methodLink "KeepForgetLaw" (124 : Nat) ({ cls := "KeepForgetLaw", name := "fact", desc := "(LKeepForget;III[J)I" } : Jvm.MethodName)) ∈ tb := tb_t 629 (by decide +kernel) (by decide +kernel)
theorem tW_630 : (Jvm.Cond.static ({ cls := "KeepForgetLaw", name := "fact", desc := "(LKeepForget;III[J)I" } : Jvm.MethodName)) ∈ tb := tb_t 630 (by decide +kernel) (by decide +kernel)
theorem tW_632 : (Jvm.Cond.classLink "KeepForgetLaw" (28 : Nat) "java/util/NoSuchElementException") ∈ tb := tb_t 632 (by decide +kernel) (by decide +kernel)
theorem tW_633 : (Jvm.Cond.methodLink "KeepForgetLaw" (25 : Nat) ({ cls := "KeepForget", name := "fact", desc := "(III)I" } : Jvm.MethodName)) ∈ tb := tb_t 633 (by decide +kernel) (by decide +kernel)
theorem tW_634 : (Jvm.Cond.instanceMethod ({ cls := "KeepForget", name := "fact", desc := "(III)I" } : Jvm.MethodName)) ∈ tb := tb_t 634 (by decide +kernel) (by decide +kernel)
theorem tW_635 : (Jvm.Cond.selects "KeepForget" ({ cls := "KeepForget", name := "fact", desc := "(III)I" } : Jvm.MethodName) ({ cls := "KeepForget", name := "fact", desc := "(III)I" } : Jvm.MethodName)) ∈ tb := tb_t 635 (by decide +kernel) (by decide +kernel)
theorem tW_636 : (Jvm.Cond.code ({ cls := "KeepForget", name := "fact", desc := "(III)I" } : Jvm.MethodName) prog_1_method_9_code (6 : Nat) (Option.some Jvm.ClassFile.FieldType.int)) ∈ tb := tb_t 636 (by decide +kernel) (by decide +kernel)
theorem tW_637 : (Jvm.Cond.methodLink "KeepForget" (123 : Nat) ({ cls := "KeepForget", name := "thingAt", desc := "(I)LKeepForget$Thing;" } : Jvm.MethodName)) ∈ tb := tb_t 637 (by decide +kernel) (by decide +kernel)
theorem tW_639 : (Jvm.Cond.instanceMethod ({ cls := "KeepForget", name := "thingAt", desc := "(I)LKeepForget$Thing;" } : Jvm.MethodName)) ∈ tb := tb_t 639 (by decide +kernel) (by decide +kernel)
theorem tW_640 : (Jvm.Cond.code ({ cls := "KeepForget", name := "thingAt", desc := "(I)LKeepForget$Thing;" } : Jvm.MethodName) prog_1_method_31_code (2 : Nat) (Option.some (Jvm.ClassFile.FieldType.object "KeepForget$Thing"))) ∈ tb := tb_t 640 (by decide +kernel) (by decide +kernel)
theorem tW_641 : (Jvm.Cond.classLink "KeepForget" (127 : Nat) "java/util/NoSuchElementException") ∈ tb := tb_t 641 (by decide +kernel) (by decide +kernel)
theorem tW_642 : (Jvm.Cond.instantiable "java/util/NoSuchElementException" (6 : Nat)) ∈ tb := tb_t 642 (by decide +kernel) (by decide +kernel)
theorem tW_644 : (Jvm.Cond.selects "java/util/NoSuchElementException" ({ cls := "java/lang/Throwable", name := "fillInStackTrace", desc := "(I)Ljava/lang/Throwable;" } : Jvm.MethodName) ({ cls := "java/lang/Throwable", name := "fillInStackTrace", desc := "(I)Ljava/lang/Throwable;" } : Jvm.MethodName)) ∈ tb := tb_t 644 (by decide +kernel) (by decide +kernel)
theorem tW_651 : (Jvm.Cond.methodLink "KeepForget" (131 : Nat) ({ cls := "java/util/NoSuchElementException", name := "<init>", desc := "(Ljava/lang/String;)V" } : Jvm.MethodName)) ∈ tb := tb_t 651 (by decide +kernel) (by decide +kernel)
theorem tW_652 : (Jvm.Cond.instanceMethod ({ cls := "java/util/NoSuchElementException", name := "<init>", desc := "(Ljava/lang/String;)V" } : Jvm.MethodName)) ∈ tb := tb_t 652 (by decide +kernel) (by decide +kernel)
theorem tW_653 : (Jvm.Cond.code ({ cls := "java/util/NoSuchElementException", name := "<init>", desc := "(Ljava/lang/String;)V" } : Jvm.MethodName) prog_22_method_4_code (2 : Nat) (Option.none : Option Jvm.ClassFile.FieldType)) ∈ tb := tb_t 653 (by decide +kernel) (by decide +kernel)
theorem tW_654 : (Jvm.Cond.methodLink "java/util/NoSuchElementException" (13 : Nat) ({ cls := "java/lang/RuntimeException", name := "<init>", desc := "(Ljava/lang/String;)V" } : Jvm.MethodName)) ∈ tb := tb_t 654 (by decide +kernel) (by decide +kernel)
theorem tW_659 : (Jvm.Cond.methodLink "KeepForgetLaw" (127 : Nat) ({ cls := "KeepForgetLaw", name := "event", desc := "(LKeepForget;III[J)I" } : Jvm.MethodName)) ∈ tb := tb_t 659 (by decide +kernel) (by decide +kernel)
theorem tW_660 : (Jvm.Cond.static ({ cls := "KeepForgetLaw", name := "event", desc := "(LKeepForget;III[J)I" } : Jvm.MethodName)) ∈ tb := tb_t 660 (by decide +kernel) (by decide +kernel)
theorem tW_662 : (Jvm.Cond.methodLink "KeepForgetLaw" (30 : Nat) ({ cls := "KeepForget", name := "event", desc := "(III)I" } : Jvm.MethodName)) ∈ tb := tb_t 662 (by decide +kernel) (by decide +kernel)
theorem tW_663 : (Jvm.Cond.instanceMethod ({ cls := "KeepForget", name := "event", desc := "(III)I" } : Jvm.MethodName)) ∈ tb := tb_t 663 (by decide +kernel) (by decide +kernel)
theorem tW_664 : (Jvm.Cond.selects "KeepForget" ({ cls := "KeepForget", name := "event", desc := "(III)I" } : Jvm.MethodName) ({ cls := "KeepForget", name := "event", desc := "(III)I" } : Jvm.MethodName)) ∈ tb := tb_t 664 (by decide +kernel) (by decide +kernel)
theorem tW_665 : (Jvm.Cond.code ({ cls := "KeepForget", name := "event", desc := "(III)I" } : Jvm.MethodName) prog_1_method_10_code (6 : Nat) (Option.some Jvm.ClassFile.FieldType.int)) ∈ tb := tb_t 665 (by decide +kernel) (by decide +kernel)
theorem tW_667 : (Jvm.Cond.methodLink "KeepForgetLaw" (130 : Nat) ({ cls := "KeepForgetLaw", name := "copy", desc := "(LKeepForget;III[J)I" } : Jvm.MethodName)) ∈ tb := tb_t 667 (by decide +kernel) (by decide +kernel)
theorem tW_668 : (Jvm.Cond.static ({ cls := "KeepForgetLaw", name := "copy", desc := "(LKeepForget;III[J)I" } : Jvm.MethodName)) ∈ tb := tb_t 668 (by decide +kernel) (by decide +kernel)
theorem tW_670 : (Jvm.Cond.methodLink "KeepForgetLaw" (33 : Nat) ({ cls := "KeepForget", name := "copy", desc := "(III)Z" } : Jvm.MethodName)) ∈ tb := tb_t 670 (by decide +kernel) (by decide +kernel)
theorem tW_671 : (Jvm.Cond.instanceMethod ({ cls := "KeepForget", name := "copy", desc := "(III)Z" } : Jvm.MethodName)) ∈ tb := tb_t 671 (by decide +kernel) (by decide +kernel)
theorem tW_672 : (Jvm.Cond.selects "KeepForget" ({ cls := "KeepForget", name := "copy", desc := "(III)Z" } : Jvm.MethodName) ({ cls := "KeepForget", name := "copy", desc := "(III)Z" } : Jvm.MethodName)) ∈ tb := tb_t 672 (by decide +kernel) (by decide +kernel)
theorem tW_673 : (Jvm.Cond.code ({ cls := "KeepForget", name := "copy", desc := "(III)Z" } : Jvm.MethodName) prog_1_method_11_code (5 : Nat) (Option.some Jvm.ClassFile.FieldType.boolean)) ∈ tb := tb_t 673 (by decide +kernel) (by decide +kernel)
theorem tW_674 : (Jvm.Cond.methodLink "KeepForget" (143 : Nat) ({ cls := "KeepForget", name := "checkField", desc := "(I)V" } : Jvm.MethodName)) ∈ tb := tb_t 674 (by decide +kernel) (by decide +kernel)
theorem tW_675 : (Jvm.Cond.static ({ cls := "KeepForget", name := "checkField", desc := "(I)V" } : Jvm.MethodName)) ∈ tb := tb_t 675 (by decide +kernel) (by decide +kernel)
theorem tW_676 : (Jvm.Cond.code ({ cls := "KeepForget", name := "checkField", desc := "(I)V" } : Jvm.MethodName) prog_1_method_29_code (1 : Nat) (Option.none : Option Jvm.ClassFile.FieldType)) ∈ tb := tb_t 676 (by decide +kernel) (by decide +kernel)
theorem tW_678 : (Jvm.Cond.methodLink "KeepForget" (146 : Nat) ({ cls := "KeepForget", name := "checkStore", desc := "(I)V" } : Jvm.MethodName)) ∈ tb := tb_t 678 (by decide +kernel) (by decide +kernel)
theorem tW_679 : (Jvm.Cond.static ({ cls := "KeepForget", name := "checkStore", desc := "(I)V" } : Jvm.MethodName)) ∈ tb := tb_t 679 (by decide +kernel) (by decide +kernel)
theorem tW_680 : (Jvm.Cond.code ({ cls := "KeepForget", name := "checkStore", desc := "(I)V" } : Jvm.MethodName) prog_1_method_30_code (1 : Nat) (Option.none : Option Jvm.ClassFile.FieldType)) ∈ tb := tb_t 680 (by decide +kernel) (by decide +kernel)
theorem tW_682 : (Jvm.Cond.methodLink "KeepForget" (149 : Nat) ({ cls := "KeepForget$Thing", name := "hasCopy", desc := "(II)Z" } : Jvm.MethodName)) ∈ tb := tb_t 682 (by decide +kernel) (by decide +kernel)
theorem tW_683 : (Jvm.Cond.instanceMethod ({ cls := "KeepForget$Thing", name := "hasCopy", desc := "(II)Z" } : Jvm.MethodName)) ∈ tb := tb_t 683 (by decide +kernel) (by decide +kernel)
theorem tW_684 : (Jvm.Cond.selects "KeepForget$Thing" ({ cls := "KeepForget$Thing", name := "hasCopy", desc := "(II)Z" } : Jvm.MethodName) ({ cls := "KeepForget$Thing", name := "hasCopy", desc := "(II)Z" } : Jvm.MethodName)) ∈ tb := tb_t 684 (by decide +kernel) (by decide +kernel)
theorem tW_685 : (Jvm.Cond.code ({ cls := "KeepForget$Thing", name := "hasCopy", desc := "(II)Z" } : Jvm.MethodName) prog_10_method_2_code (3 : Nat) (Option.some Jvm.ClassFile.FieldType.boolean)) ∈ tb := tb_t 685 (by decide +kernel) (by decide +kernel)
theorem tW_686 : (Jvm.Cond.methodLink "KeepForgetLaw" (133 : Nat) ({ cls := "KeepForgetLaw", name := "copies", desc := "(LKeepForget;II[J)I" } : Jvm.MethodName)) ∈ tb := tb_t 686 (by decide +kernel) (by decide +kernel)
theorem tW_687 : (Jvm.Cond.static ({ cls := "KeepForgetLaw", name := "copies", desc := "(LKeepForget;II[J)I" } : Jvm.MethodName)) ∈ tb := tb_t 687 (by decide +kernel) (by decide +kernel)
theorem tW_689 : (Jvm.Cond.methodLink "KeepForgetLaw" (37 : Nat) ({ cls := "KeepForget", name := "copies", desc := "(II)I" } : Jvm.MethodName)) ∈ tb := tb_t 689 (by decide +kernel) (by decide +kernel)
theorem tW_690 : (Jvm.Cond.instanceMethod ({ cls := "KeepForget", name := "copies", desc := "(II)I" } : Jvm.MethodName)) ∈ tb := tb_t 690 (by decide +kernel) (by decide +kernel)
theorem tW_691 : (Jvm.Cond.selects "KeepForget" ({ cls := "KeepForget", name := "copies", desc := "(II)I" } : Jvm.MethodName) ({ cls := "KeepForget", name := "copies", desc := "(II)I" } : Jvm.MethodName)) ∈ tb := tb_t 691 (by decide +kernel) (by decide +kernel)
theorem tW_692 : (Jvm.Cond.code ({ cls := "KeepForget", name := "copies", desc := "(II)I" } : Jvm.MethodName) prog_1_method_12_code (4 : Nat) (Option.some Jvm.ClassFile.FieldType.int)) ∈ tb := tb_t 692 (by decide +kernel) (by decide +kernel)
theorem tW_693 : (Jvm.Cond.methodLink "KeepForgetLaw" (136 : Nat) ({ cls := "KeepForgetLaw", name := "store", desc := "(LKeepForget;III)I" } : Jvm.MethodName)) ∈ tb := tb_t 693 (by decide +kernel) (by decide +kernel)
theorem tW_694 : (Jvm.Cond.static ({ cls := "KeepForgetLaw", name := "store", desc := "(LKeepForget;III)I" } : Jvm.MethodName)) ∈ tb := tb_t 694 (by decide +kernel) (by decide +kernel)
theorem tW_696 : (Jvm.Cond.methodLink "KeepForgetLaw" (40 : Nat) ({ cls := "KeepForget", name := "store", desc := "(III)V" } : Jvm.MethodName)) ∈ tb := tb_t 696 (by decide +kernel) (by decide +kernel)
theorem tW_697 : (Jvm.Cond.instanceMethod ({ cls := "KeepForget", name := "store", desc := "(III)V" } : Jvm.MethodName)) ∈ tb := tb_t 697 (by decide +kernel) (by decide +kernel)
theorem tW_698 : (Jvm.Cond.selects "KeepForget" ({ cls := "KeepForget", name := "store", desc := "(III)V" } : Jvm.MethodName) ({ cls := "KeepForget", name := "store", desc := "(III)V" } : Jvm.MethodName)) ∈ tb := tb_t 698 (by decide +kernel) (by decide +kernel)
theorem tW_699 : (Jvm.Cond.code ({ cls := "KeepForget", name := "store", desc := "(III)V" } : Jvm.MethodName) prog_1_method_13_code (4 : Nat) (Option.none : Option Jvm.ClassFile.FieldType)) ∈ tb := tb_t 699 (by decide +kernel) (by decide +kernel)
theorem tW_701 : (Jvm.Cond.methodLink "KeepForgetLaw" (140 : Nat) ({ cls := "KeepForgetLaw", name := "hold", desc := "(LKeepForget;II[J)I" } : Jvm.MethodName)) ∈ tb := tb_t 701 (by decide +kernel) (by decide +kernel)
theorem tW_702 : (Jvm.Cond.static ({ cls := "KeepForgetLaw", name := "hold", desc := "(LKeepForget;II[J)I" } : Jvm.MethodName)) ∈ tb := tb_t 702 (by decide +kernel) (by decide +kernel)
theorem tW_704 : (Jvm.Cond.methodLink "KeepForgetLaw" (44 : Nat) ({ cls := "KeepForget", name := "hold", desc := "(II)I" } : Jvm.MethodName)) ∈ tb := tb_t 704 (by decide +kernel) (by decide +kernel)
theorem tW_705 : (Jvm.Cond.instanceMethod ({ cls := "KeepForget", name := "hold", desc := "(II)I" } : Jvm.MethodName)) ∈ tb := tb_t 705 (by decide +kernel) (by decide +kernel)
theorem tW_706 : (Jvm.Cond.selects "KeepForget" ({ cls := "KeepForget", name := "hold", desc := "(II)I" } : Jvm.MethodName) ({ cls := "KeepForget", name := "hold", desc := "(II)I" } : Jvm.MethodName)) ∈ tb := tb_t 706 (by decide +kernel) (by decide +kernel)
theorem tW_707 : (Jvm.Cond.code ({ cls := "KeepForget", name := "hold", desc := "(II)I" } : Jvm.MethodName) prog_1_method_14_code (4 : Nat) (Option.some Jvm.ClassFile.FieldType.int)) ∈ tb := tb_t 707 (by decide +kernel) (by decide +kernel)
theorem tW_708 : (Jvm.Cond.instantiable "KeepForget$Hold" (3 : Nat)) ∈ tb := tb_t 708 (by decide +kernel) (by decide +kernel)
theorem tW_709 : (Jvm.Cond.methodLink "KeepForget" (171 : Nat) ({ cls := "KeepForget$Hold", name := "<init>", desc := "(LKeepForget$Thing;I)V" } : Jvm.MethodName)) ∈ tb := tb_t 709 (by decide +kernel) (by decide +kernel)
theorem tW_710 : (Jvm.Cond.instanceMethod ({ cls := "KeepForget$Hold", name := "<init>", desc := "(LKeepForget$Thing;I)V" } : Jvm.MethodName)) ∈ tb := tb_t 710 (by decide +kernel) (by decide +kernel)
theorem tW_711 : (Jvm.Cond.code ({ cls := "KeepForget$Hold", name := "<init>", desc := "(LKeepForget$Thing;I)V" } : Jvm.MethodName) prog_3_method_1_code (3 : Nat) (Option.none : Option Jvm.ClassFile.FieldType)) ∈ tb := tb_t 711 (by decide +kernel) (by decide +kernel)
theorem tW_712 : (Jvm.Cond.methodLink "KeepForget$Hold" (1 : Nat) ({ cls := "java/lang/Object", name := "<init>", desc := "()V" } : Jvm.MethodName)) ∈ tb := tb_t 712 (by decide +kernel) (by decide +kernel)
theorem tW_713 : (Jvm.Cond.fieldLink "KeepForget$Hold" (7 : Nat) "KeepForget$Hold" "thing" "LKeepForget$Thing;") ∈ tb := tb_t 713 (by decide +kernel) (by decide +kernel)
theorem tW_714 : (Jvm.Cond.fieldLink "KeepForget" (183 : Nat) "KeepForget$Hold" "thing" "LKeepForget$Thing;") ∈ tb := tb_t 714 (by decide +kernel) (by decide +kernel)
theorem tW_715 : (Jvm.Cond.fieldLink "KeepForget$Hold" (13 : Nat) "KeepForget$Hold" "fields" "I") ∈ tb := tb_t 715 (by decide +kernel) (by decide +kernel)
theorem tW_716 : (Jvm.Cond.fieldLink "KeepForget" (315 : Nat) "KeepForget$Hold" "fields" "I") ∈ tb := tb_t 716 (by decide +kernel) (by decide +kernel)
theorem tW_717 : (Jvm.Cond.fieldLink "KeepForget" (179 : Nat) "KeepForget$Hold" "isLifted" "Z") ∈ tb := tb_t 717 (by decide +kernel) (by decide +kernel)
theorem tW_725 : (Jvm.Cond.methodLink "KeepForgetLaw" (143 : Nat) ({ cls := "KeepForgetLaw", name := "lift", desc := "(LKeepForget;I[J)I" } : Jvm.MethodName)) ∈ tb := tb_t 725 (by decide +kernel) (by decide +kernel)
theorem tW_726 : (Jvm.Cond.static ({ cls := "KeepForgetLaw", name := "lift", desc := "(LKeepForget;I[J)I" } : Jvm.MethodName)) ∈ tb := tb_t 726 (by decide +kernel) (by decide +kernel)
theorem tW_728 : (Jvm.Cond.methodLink "KeepForgetLaw" (47 : Nat) ({ cls := "KeepForget", name := "lift", desc := "(I)Z" } : Jvm.MethodName)) ∈ tb := tb_t 728 (by decide +kernel) (by decide +kernel)
theorem tW_729 : (Jvm.Cond.instanceMethod ({ cls := "KeepForget", name := "lift", desc := "(I)Z" } : Jvm.MethodName)) ∈ tb := tb_t 729 (by decide +kernel) (by decide +kernel)
theorem tW_730 : (Jvm.Cond.selects "KeepForget" ({ cls := "KeepForget", name := "lift", desc := "(I)Z" } : Jvm.MethodName) ({ cls := "KeepForget", name := "lift", desc := "(I)Z" } : Jvm.MethodName)) ∈ tb := tb_t 730 (by decide +kernel) (by decide +kernel)
theorem tW_731 : (Jvm.Cond.code ({ cls := "KeepForget", name := "lift", desc := "(I)Z" } : Jvm.MethodName) prog_1_method_15_code (3 : Nat) (Option.some Jvm.ClassFile.FieldType.boolean)) ∈ tb := tb_t 731 (by decide +kernel) (by decide +kernel)
theorem tW_733 : (Jvm.Cond.methodLink "KeepForget" (187 : Nat) ({ cls := "KeepForget", name := "heldFields", desc := "(LKeepForget$Thing;)I" } : Jvm.MethodName)) ∈ tb := tb_t 733 (by decide +kernel) (by decide +kernel)
theorem tW_735 : (Jvm.Cond.instanceMethod ({ cls := "KeepForget", name := "heldFields", desc := "(LKeepForget$Thing;)I" } : Jvm.MethodName)) ∈ tb := tb_t 735 (by decide +kernel) (by decide +kernel)
theorem tW_736 : (Jvm.Cond.code ({ cls := "KeepForget", name := "heldFields", desc := "(LKeepForget$Thing;)I" } : Jvm.MethodName) prog_1_method_38_code (4 : Nat) (Option.some Jvm.ClassFile.FieldType.int)) ∈ tb := tb_t 736 (by decide +kernel) (by decide +kernel)
theorem tW_737 : (Jvm.Cond.methodLink "KeepForgetLaw" (147 : Nat) ({ cls := "KeepForgetLaw", name := "wish", desc := "(LKeepForget;I[J)I" } : Jvm.MethodName)) ∈ tb := tb_t 737 (by decide +kernel) (by decide +kernel)
theorem tW_738 : (Jvm.Cond.static ({ cls := "KeepForgetLaw", name := "wish", desc := "(LKeepForget;I[J)I" } : Jvm.MethodName)) ∈ tb := tb_t 738 (by decide +kernel) (by decide +kernel)
theorem tW_740 : (Jvm.Cond.methodLink "KeepForgetLaw" (51 : Nat) ({ cls := "KeepForget", name := "wish", desc := "(I)I" } : Jvm.MethodName)) ∈ tb := tb_t 740 (by decide +kernel) (by decide +kernel)
theorem tW_741 : (Jvm.Cond.instanceMethod ({ cls := "KeepForget", name := "wish", desc := "(I)I" } : Jvm.MethodName)) ∈ tb := tb_t 741 (by decide +kernel) (by decide +kernel)
theorem tW_742 : (Jvm.Cond.selects "KeepForget" ({ cls := "KeepForget", name := "wish", desc := "(I)I" } : Jvm.MethodName) ({ cls := "KeepForget", name := "wish", desc := "(I)I" } : Jvm.MethodName)) ∈ tb := tb_t 742 (by decide +kernel) (by decide +kernel)
theorem tW_743 : (Jvm.Cond.code ({ cls := "KeepForget", name := "wish", desc := "(I)I" } : Jvm.MethodName) prog_1_method_16_code (6 : Nat) (Option.some Jvm.ClassFile.FieldType.int)) ∈ tb := tb_t 743 (by decide +kernel) (by decide +kernel)
theorem tW_744 : (Jvm.Cond.methodLink "KeepForget" (198 : Nat) ({ cls := "KeepForget$Span", name := "settle", desc := "(LKeepForget$Thing;ILKeepForget$RuleSet;)V" } : Jvm.MethodName)) ∈ tb := tb_t 744 (by decide +kernel) (by decide +kernel)
theorem tW_745 : (Jvm.Cond.instanceMethod ({ cls := "KeepForget$Span", name := "settle", desc := "(LKeepForget$Thing;ILKeepForget$RuleSet;)V" } : Jvm.MethodName)) ∈ tb := tb_t 745 (by decide +kernel) (by decide +kernel)
theorem tW_746 : (Jvm.Cond.selects "KeepForget$Span" ({ cls := "KeepForget$Span", name := "settle", desc := "(LKeepForget$Thing;ILKeepForget$RuleSet;)V" } : Jvm.MethodName) ({ cls := "KeepForget$Span", name := "settle", desc := "(LKeepForget$Thing;ILKeepForget$RuleSet;)V" } : Jvm.MethodName)) ∈ tb := tb_t 746 (by decide +kernel) (by decide +kernel)
theorem tW_747 : (Jvm.Cond.code ({ cls := "KeepForget$Span", name := "settle", desc := "(LKeepForget$Thing;ILKeepForget$RuleSet;)V" } : Jvm.MethodName) prog_8_method_2_code (7 : Nat) (Option.none : Option Jvm.ClassFile.FieldType)) ∈ tb := tb_t 747 (by decide +kernel) (by decide +kernel)
theorem tW_748 : (Jvm.Cond.constant "KeepForget$Span" (19 : Nat) (999999 : Int32)) ∈ tb := tb_t 748 (by decide +kernel) (by decide +kernel)
theorem tW_749 : (Jvm.Cond.methodLink "KeepForget$Span" (57 : Nat) ({ cls := "KeepForget$Rule", name := "isFor", desc := "(LKeepForget$Thing;I)Z" } : Jvm.MethodName)) ∈ tb := tb_t 749 (by decide +kernel) (by decide +kernel)
theorem tW_750 : (Jvm.Cond.methodLink "KeepForget$Span" (66 : Nat) ({ cls := "KeepForget$Rule", name := "dayFor", desc := "(LKeepForget$Thing;)I" } : Jvm.MethodName)) ∈ tb := tb_t 750 (by decide +kernel) (by decide +kernel)
theorem tW_751 : (Jvm.Cond.instanceMethod ({ cls := "KeepForget$Rule", name := "dayFor", desc := "(LKeepForget$Thing;)I" } : Jvm.MethodName)) ∈ tb := tb_t 751 (by decide +kernel) (by decide +kernel)
theorem tW_752 : (Jvm.Cond.selects "KeepForget$Rule" ({ cls := "KeepForget$Rule", name := "dayFor", desc := "(LKeepForget$Thing;)I" } : Jvm.MethodName) ({ cls := "KeepForget$Rule", name := "dayFor", desc := "(LKeepForget$Thing;)I" } : Jvm.MethodName)) ∈ tb := tb_t 752 (by decide +kernel) (by decide +kernel)
theorem tW_753 : (Jvm.Cond.code ({ cls := "KeepForget$Rule", name := "dayFor", desc := "(LKeepForget$Thing;)I" } : Jvm.MethodName) prog_5_method_3_code (3 : Nat) (Option.some Jvm.ClassFile.FieldType.int)) ∈ tb := tb_t 753 (by decide +kernel) (by decide +kernel)
theorem tW_754 : (Jvm.Cond.methodLink "KeepForget$Rule" (55 : Nat) ({ cls := "KeepForget$Dates", name := "monthsAfter", desc := "(II)I" } : Jvm.MethodName)) ∈ tb := tb_t 754 (by decide +kernel) (by decide +kernel)
theorem tW_755 : (Jvm.Cond.constant "KeepForget$Rule" (61 : Nat) (200000 : Int32)) ∈ tb := tb_t 755 (by decide +kernel) (by decide +kernel)
theorem tW_756 : (Jvm.Cond.constant "KeepForget$Rule" (62 : Nat) (999999 : Int32)) ∈ tb := tb_t 756 (by decide +kernel) (by decide +kernel)
theorem tW_757 : (Jvm.Cond.methodLink "KeepForget$Span" (70 : Nat) ({ cls := "KeepForget$Span", name := "take", desc := "(III)V" } : Jvm.MethodName)) ∈ tb := tb_t 757 (by decide +kernel) (by decide +kernel)
theorem tW_759 : (Jvm.Cond.instanceMethod ({ cls := "KeepForget$Span", name := "take", desc := "(III)V" } : Jvm.MethodName)) ∈ tb := tb_t 759 (by decide +kernel) (by decide +kernel)
theorem tW_760 : (Jvm.Cond.code ({ cls := "KeepForget$Span", name := "take", desc := "(III)V" } : Jvm.MethodName) prog_8_method_3_code (4 : Nat) (Option.none : Option Jvm.ClassFile.FieldType)) ∈ tb := tb_t 760 (by decide +kernel) (by decide +kernel)
theorem tW_761 : (Jvm.Cond.methodLink "KeepForget$Span" (74 : Nat) ({ cls := "KeepForget$Span", name := "keepUntil", desc := "(II)V" } : Jvm.MethodName)) ∈ tb := tb_t 761 (by decide +kernel) (by decide +kernel)
theorem tW_763 : (Jvm.Cond.instanceMethod ({ cls := "KeepForget$Span", name := "keepUntil", desc := "(II)V" } : Jvm.MethodName)) ∈ tb := tb_t 763 (by decide +kernel) (by decide +kernel)
theorem tW_764 : (Jvm.Cond.code ({ cls := "KeepForget$Span", name := "keepUntil", desc := "(II)V" } : Jvm.MethodName) prog_8_method_4_code (3 : Nat) (Option.none : Option Jvm.ClassFile.FieldType)) ∈ tb := tb_t 764 (by decide +kernel) (by decide +kernel)
theorem tW_765 : (Jvm.Cond.methodLink "KeepForget$Span" (81 : Nat) ({ cls := "KeepForget$Span", name := "lose", desc := "(I)V" } : Jvm.MethodName)) ∈ tb := tb_t 765 (by decide +kernel) (by decide +kernel)
theorem tW_767 : (Jvm.Cond.instanceMethod ({ cls := "KeepForget$Span", name := "lose", desc := "(I)V" } : Jvm.MethodName)) ∈ tb := tb_t 767 (by decide +kernel) (by decide +kernel)
theorem tW_768 : (Jvm.Cond.code ({ cls := "KeepForget$Span", name := "lose", desc := "(I)V" } : Jvm.MethodName) prog_8_method_6_code (2 : Nat) (Option.none : Option Jvm.ClassFile.FieldType)) ∈ tb := tb_t 768 (by decide +kernel) (by decide +kernel)
theorem tW_769 : (Jvm.Cond.methodLink "KeepForget$Span" (78 : Nat) ({ cls := "KeepForget$Span", name := "endAt", desc := "(II)V" } : Jvm.MethodName)) ∈ tb := tb_t 769 (by decide +kernel) (by decide +kernel)
theorem tW_771 : (Jvm.Cond.instanceMethod ({ cls := "KeepForget$Span", name := "endAt", desc := "(II)V" } : Jvm.MethodName)) ∈ tb := tb_t 771 (by decide +kernel) (by decide +kernel)
theorem tW_772 : (Jvm.Cond.code ({ cls := "KeepForget$Span", name := "endAt", desc := "(II)V" } : Jvm.MethodName) prog_8_method_5_code (3 : Nat) (Option.none : Option Jvm.ClassFile.FieldType)) ∈ tb := tb_t 772 (by decide +kernel) (by decide +kernel)
theorem tW_773 : (Jvm.Cond.methodLink "KeepForget" (205 : Nat) ({ cls := "KeepForget$Span", name := "isDue", desc := "(I)Z" } : Jvm.MethodName)) ∈ tb := tb_t 773 (by decide +kernel) (by decide +kernel)
theorem tW_774 : (Jvm.Cond.instanceMethod ({ cls := "KeepForget$Span", name := "isDue", desc := "(I)Z" } : Jvm.MethodName)) ∈ tb := tb_t 774 (by decide +kernel) (by decide +kernel)
theorem tW_775 : (Jvm.Cond.selects "KeepForget$Span" ({ cls := "KeepForget$Span", name := "isDue", desc := "(I)Z" } : Jvm.MethodName) ({ cls := "KeepForget$Span", name := "isDue", desc := "(I)Z" } : Jvm.MethodName)) ∈ tb := tb_t 775 (by decide +kernel) (by decide +kernel)
theorem tW_776 : (Jvm.Cond.code ({ cls := "KeepForget$Span", name := "isDue", desc := "(I)Z" } : Jvm.MethodName) prog_8_method_7_code (2 : Nat) (Option.some Jvm.ClassFile.FieldType.boolean)) ∈ tb := tb_t 776 (by decide +kernel) (by decide +kernel)
theorem tW_777 : (Jvm.Cond.methodLink "KeepForgetLaw" (150 : Nat) ({ cls := "KeepForgetLaw", name := "span", desc := "(LKeepForget;IIII[J)I" } : Jvm.MethodName)) ∈ tb := tb_t 777 (by decide +kernel) (by decide +kernel)
theorem tW_778 : (Jvm.Cond.static ({ cls := "KeepForgetLaw", name := "span", desc := "(LKeepForget;IIII[J)I" } : Jvm.MethodName)) ∈ tb := tb_t 778 (by decide +kernel) (by decide +kernel)
theorem tW_780 : (Jvm.Cond.methodLink "KeepForgetLaw" (55 : Nat) ({ cls := "KeepForget", name := "span", desc := "(IIII)I" } : Jvm.MethodName)) ∈ tb := tb_t 780 (by decide +kernel) (by decide +kernel)
theorem tW_781 : (Jvm.Cond.instanceMethod ({ cls := "KeepForget", name := "span", desc := "(IIII)I" } : Jvm.MethodName)) ∈ tb := tb_t 781 (by decide +kernel) (by decide +kernel)
theorem tW_782 : (Jvm.Cond.selects "KeepForget" ({ cls := "KeepForget", name := "span", desc := "(IIII)I" } : Jvm.MethodName) ({ cls := "KeepForget", name := "span", desc := "(IIII)I" } : Jvm.MethodName)) ∈ tb := tb_t 782 (by decide +kernel) (by decide +kernel)
theorem tW_783 : (Jvm.Cond.code ({ cls := "KeepForget", name := "span", desc := "(IIII)I" } : Jvm.MethodName) prog_1_method_17_code (6 : Nat) (Option.some Jvm.ClassFile.FieldType.int)) ∈ tb := tb_t 783 (by decide +kernel) (by decide +kernel)
theorem tW_784 : (Jvm.Cond.methodLink "KeepForget" (209 : Nat) ({ cls := "KeepForget", name := "chosenSet", desc := "(I)LKeepForget$RuleSet;" } : Jvm.MethodName)) ∈ tb := tb_t 784 (by decide +kernel) (by decide +kernel)
theorem tW_786 : (Jvm.Cond.instanceMethod ({ cls := "KeepForget", name := "chosenSet", desc := "(I)LKeepForget$RuleSet;" } : Jvm.MethodName)) ∈ tb := tb_t 786 (by decide +kernel) (by decide +kernel)
theorem tW_787 : (Jvm.Cond.code ({ cls := "KeepForget", name := "chosenSet", desc := "(I)LKeepForget$RuleSet;" } : Jvm.MethodName) prog_1_method_33_code (2 : Nat) (Option.some (Jvm.ClassFile.FieldType.object "KeepForget$RuleSet"))) ∈ tb := tb_t 787 (by decide +kernel) (by decide +kernel)
theorem tW_788 : (Jvm.Cond.methodLink "KeepForget" (247 : Nat) ({ cls := "KeepForget", name := "setAt", desc := "(I)LKeepForget$RuleSet;" } : Jvm.MethodName)) ∈ tb := tb_t 788 (by decide +kernel) (by decide +kernel)
theorem tW_790 : (Jvm.Cond.instanceMethod ({ cls := "KeepForget", name := "setAt", desc := "(I)LKeepForget$RuleSet;" } : Jvm.MethodName)) ∈ tb := tb_t 790 (by decide +kernel) (by decide +kernel)
theorem tW_791 : (Jvm.Cond.code ({ cls := "KeepForget", name := "setAt", desc := "(I)LKeepForget$RuleSet;" } : Jvm.MethodName) prog_1_method_32_code (2 : Nat) (Option.some (Jvm.ClassFile.FieldType.object "KeepForget$RuleSet"))) ∈ tb := tb_t 791 (by decide +kernel) (by decide +kernel)
theorem tW_794 : (Jvm.Cond.methodLink "KeepForgetLaw" (154 : Nat) ({ cls := "KeepForgetLaw", name := "lost", desc := "(LKeepForget;IIII[J)I" } : Jvm.MethodName)) ∈ tb := tb_t 794 (by decide +kernel) (by decide +kernel)
theorem tW_795 : (Jvm.Cond.static ({ cls := "KeepForgetLaw", name := "lost", desc := "(LKeepForget;IIII[J)I" } : Jvm.MethodName)) ∈ tb := tb_t 795 (by decide +kernel) (by decide +kernel)
theorem tW_797 : (Jvm.Cond.methodLink "KeepForgetLaw" (59 : Nat) ({ cls := "KeepForget", name := "lost", desc := "(IIII)I" } : Jvm.MethodName)) ∈ tb := tb_t 797 (by decide +kernel) (by decide +kernel)
theorem tW_798 : (Jvm.Cond.instanceMethod ({ cls := "KeepForget", name := "lost", desc := "(IIII)I" } : Jvm.MethodName)) ∈ tb := tb_t 798 (by decide +kernel) (by decide +kernel)
theorem tW_799 : (Jvm.Cond.selects "KeepForget" ({ cls := "KeepForget", name := "lost", desc := "(IIII)I" } : Jvm.MethodName) ({ cls := "KeepForget", name := "lost", desc := "(IIII)I" } : Jvm.MethodName)) ∈ tb := tb_t 799 (by decide +kernel) (by decide +kernel)
theorem tW_800 : (Jvm.Cond.code ({ cls := "KeepForget", name := "lost", desc := "(IIII)I" } : Jvm.MethodName) prog_1_method_18_code (6 : Nat) (Option.some Jvm.ClassFile.FieldType.int)) ∈ tb := tb_t 800 (by decide +kernel) (by decide +kernel)
theorem tW_802 : (Jvm.Cond.methodLink "KeepForgetLaw" (157 : Nat) ({ cls := "KeepForgetLaw", name := "why", desc := "(LKeepForget;II[J)I" } : Jvm.MethodName)) ∈ tb := tb_t 802 (by decide +kernel) (by decide +kernel)
theorem tW_803 : (Jvm.Cond.static ({ cls := "KeepForgetLaw", name := "why", desc := "(LKeepForget;II[J)I" } : Jvm.MethodName)) ∈ tb := tb_t 803 (by decide +kernel) (by decide +kernel)
theorem tW_805 : (Jvm.Cond.methodLink "KeepForgetLaw" (62 : Nat) ({ cls := "KeepForget", name := "why", desc := "(II)I" } : Jvm.MethodName)) ∈ tb := tb_t 805 (by decide +kernel) (by decide +kernel)
theorem tW_806 : (Jvm.Cond.instanceMethod ({ cls := "KeepForget", name := "why", desc := "(II)I" } : Jvm.MethodName)) ∈ tb := tb_t 806 (by decide +kernel) (by decide +kernel)
theorem tW_807 : (Jvm.Cond.selects "KeepForget" ({ cls := "KeepForget", name := "why", desc := "(II)I" } : Jvm.MethodName) ({ cls := "KeepForget", name := "why", desc := "(II)I" } : Jvm.MethodName)) ∈ tb := tb_t 807 (by decide +kernel) (by decide +kernel)
theorem tW_808 : (Jvm.Cond.code ({ cls := "KeepForget", name := "why", desc := "(II)I" } : Jvm.MethodName) prog_1_method_19_code (4 : Nat) (Option.some Jvm.ClassFile.FieldType.int)) ∈ tb := tb_t 808 (by decide +kernel) (by decide +kernel)
theorem tW_809 : (Jvm.Cond.methodLink "KeepForgetLaw" (160 : Nat) ({ cls := "KeepForgetLaw", name := "places", desc := "(LKeepForget;II[J)I" } : Jvm.MethodName)) ∈ tb := tb_t 809 (by decide +kernel) (by decide +kernel)
theorem tW_810 : (Jvm.Cond.static ({ cls := "KeepForgetLaw", name := "places", desc := "(LKeepForget;II[J)I" } : Jvm.MethodName)) ∈ tb := tb_t 810 (by decide +kernel) (by decide +kernel)
theorem tW_812 : (Jvm.Cond.methodLink "KeepForgetLaw" (65 : Nat) ({ cls := "KeepForget", name := "places", desc := "(II)I" } : Jvm.MethodName)) ∈ tb := tb_t 812 (by decide +kernel) (by decide +kernel)
theorem tW_813 : (Jvm.Cond.instanceMethod ({ cls := "KeepForget", name := "places", desc := "(II)I" } : Jvm.MethodName)) ∈ tb := tb_t 813 (by decide +kernel) (by decide +kernel)
theorem tW_814 : (Jvm.Cond.selects "KeepForget" ({ cls := "KeepForget", name := "places", desc := "(II)I" } : Jvm.MethodName) ({ cls := "KeepForget", name := "places", desc := "(II)I" } : Jvm.MethodName)) ∈ tb := tb_t 814 (by decide +kernel) (by decide +kernel)
theorem tW_815 : (Jvm.Cond.code ({ cls := "KeepForget", name := "places", desc := "(II)I" } : Jvm.MethodName) prog_1_method_20_code (4 : Nat) (Option.some Jvm.ClassFile.FieldType.int)) ∈ tb := tb_t 815 (by decide +kernel) (by decide +kernel)
theorem tW_816 : (Jvm.Cond.methodLink "KeepForgetLaw" (167 : Nat) ({ cls := "KeepForgetLaw", name := "planned", desc := "(LKeepForget;III[J)I" } : Jvm.MethodName)) ∈ tb := tb_t 816 (by decide +kernel) (by decide +kernel)
theorem tW_817 : (Jvm.Cond.static ({ cls := "KeepForgetLaw", name := "planned", desc := "(LKeepForget;III[J)I" } : Jvm.MethodName)) ∈ tb := tb_t 817 (by decide +kernel) (by decide +kernel)
theorem tW_819 : (Jvm.Cond.methodLink "KeepForgetLaw" (68 : Nat) ({ cls := "KeepForget", name := "planned", desc := "(III)I" } : Jvm.MethodName)) ∈ tb := tb_t 819 (by decide +kernel) (by decide +kernel)
theorem tW_820 : (Jvm.Cond.instanceMethod ({ cls := "KeepForget", name := "planned", desc := "(III)I" } : Jvm.MethodName)) ∈ tb := tb_t 820 (by decide +kernel) (by decide +kernel)
theorem tW_821 : (Jvm.Cond.selects "KeepForget" ({ cls := "KeepForget", name := "planned", desc := "(III)I" } : Jvm.MethodName) ({ cls := "KeepForget", name := "planned", desc := "(III)I" } : Jvm.MethodName)) ∈ tb := tb_t 821 (by decide +kernel) (by decide +kernel)
theorem tW_822 : (Jvm.Cond.code ({ cls := "KeepForget", name := "planned", desc := "(III)I" } : Jvm.MethodName) prog_1_method_22_code (5 : Nat) (Option.some Jvm.ClassFile.FieldType.int)) ∈ tb := tb_t 822 (by decide +kernel) (by decide +kernel)
theorem tW_823 : (Jvm.Cond.methodLink "KeepForget" (243 : Nat) ({ cls := "KeepForget", name := "plannedDay", desc := "(LKeepForget$Thing;IILKeepForget$RuleSet;)I" } : Jvm.MethodName)) ∈ tb := tb_t 823 (by decide +kernel) (by decide +kernel)
theorem tW_825 : (Jvm.Cond.instanceMethod ({ cls := "KeepForget", name := "plannedDay", desc := "(LKeepForget$Thing;IILKeepForget$RuleSet;)I" } : Jvm.MethodName)) ∈ tb := tb_t 825 (by decide +kernel) (by decide +kernel)
theorem tW_826 : (Jvm.Cond.code ({ cls := "KeepForget", name := "plannedDay", desc := "(LKeepForget$Thing;IILKeepForget$RuleSet;)I" } : Jvm.MethodName) prog_1_method_41_code (6 : Nat) (Option.some Jvm.ClassFile.FieldType.int)) ∈ tb := tb_t 826 (by decide +kernel) (by decide +kernel)
theorem tW_827 : (Jvm.Cond.methodLink "KeepForget" (318 : Nat) ({ cls := "java/lang/Math", name := "max", desc := "(II)I" } : Jvm.MethodName)) ∈ tb := tb_t 827 (by decide +kernel) (by decide +kernel)
theorem tW_828 : (Jvm.Cond.methodLink "KeepForget" (270 : Nat) ({ cls := "KeepForget$Sweeper", name := "firstFrom", desc := "(I)I" } : Jvm.MethodName)) ∈ tb := tb_t 828 (by decide +kernel) (by decide +kernel)
theorem tW_829 : (Jvm.Cond.instanceMethod ({ cls := "KeepForget$Sweeper", name := "firstFrom", desc := "(I)I" } : Jvm.MethodName)) ∈ tb := tb_t 829 (by decide +kernel) (by decide +kernel)
theorem tW_830 : (Jvm.Cond.selects "KeepForget$Sweeper" ({ cls := "KeepForget$Sweeper", name := "firstFrom", desc := "(I)I" } : Jvm.MethodName) ({ cls := "KeepForget$Sweeper", name := "firstFrom", desc := "(I)I" } : Jvm.MethodName)) ∈ tb := tb_t 830 (by decide +kernel) (by decide +kernel)
theorem tW_831 : (Jvm.Cond.code ({ cls := "KeepForget$Sweeper", name := "firstFrom", desc := "(I)I" } : Jvm.MethodName) prog_9_method_2_code (4 : Nat) (Option.some Jvm.ClassFile.FieldType.int)) ∈ tb := tb_t 831 (by decide +kernel) (by decide +kernel)
theorem tW_832 : (Jvm.Cond.constant "KeepForget$Sweeper" (18 : Nat) (200000 : Int32)) ∈ tb := tb_t 832 (by decide +kernel) (by decide +kernel)
theorem tW_833 : (Jvm.Cond.constant "KeepForget$Sweeper" (19 : Nat) (999999 : Int32)) ∈ tb := tb_t 833 (by decide +kernel) (by decide +kernel)
theorem tW_834 : (Jvm.Cond.constant "KeepForget" (323 : Nat) (999999 : Int32)) ∈ tb := tb_t 834 (by decide +kernel) (by decide +kernel)
theorem tW_835 : (Jvm.Cond.methodLink "KeepForgetLaw" (170 : Nat) ({ cls := "KeepForgetLaw", name := "differ", desc := "(LKeepForget;II[J)I" } : Jvm.MethodName)) ∈ tb := tb_t 835 (by decide +kernel) (by decide +kernel)
theorem tW_836 : (Jvm.Cond.static ({ cls := "KeepForgetLaw", name := "differ", desc := "(LKeepForget;II[J)I" } : Jvm.MethodName)) ∈ tb := tb_t 836 (by decide +kernel) (by decide +kernel)
theorem tW_838 : (Jvm.Cond.methodLink "KeepForgetLaw" (71 : Nat) ({ cls := "KeepForget", name := "differ", desc := "(II)I" } : Jvm.MethodName)) ∈ tb := tb_t 838 (by decide +kernel) (by decide +kernel)
theorem tW_839 : (Jvm.Cond.instanceMethod ({ cls := "KeepForget", name := "differ", desc := "(II)I" } : Jvm.MethodName)) ∈ tb := tb_t 839 (by decide +kernel) (by decide +kernel)
theorem tW_840 : (Jvm.Cond.selects "KeepForget" ({ cls := "KeepForget", name := "differ", desc := "(II)I" } : Jvm.MethodName) ({ cls := "KeepForget", name := "differ", desc := "(II)I" } : Jvm.MethodName)) ∈ tb := tb_t 840 (by decide +kernel) (by decide +kernel)
theorem tW_841 : (Jvm.Cond.code ({ cls := "KeepForget", name := "differ", desc := "(II)I" } : Jvm.MethodName) prog_1_method_23_code (10 : Nat) (Option.some Jvm.ClassFile.FieldType.int)) ∈ tb := tb_t 841 (by decide +kernel) (by decide +kernel)
theorem tW_842 : (Jvm.Cond.methodLink "KeepForgetLaw" (173 : Nat) ({ cls := "KeepForgetLaw", name := "bites", desc := "(LKeepForget;II[J)I" } : Jvm.MethodName)) ∈ tb := tb_t 842 (by decide +kernel) (by decide +kernel)
theorem tW_843 : (Jvm.Cond.static ({ cls := "KeepForgetLaw", name := "bites", desc := "(LKeepForget;II[J)I" } : Jvm.MethodName)) ∈ tb := tb_t 843 (by decide +kernel) (by decide +kernel)
theorem tW_845 : (Jvm.Cond.methodLink "KeepForgetLaw" (74 : Nat) ({ cls := "KeepForget", name := "bites", desc := "(II)Z" } : Jvm.MethodName)) ∈ tb := tb_t 845 (by decide +kernel) (by decide +kernel)
theorem tW_846 : (Jvm.Cond.instanceMethod ({ cls := "KeepForget", name := "bites", desc := "(II)Z" } : Jvm.MethodName)) ∈ tb := tb_t 846 (by decide +kernel) (by decide +kernel)
theorem tW_847 : (Jvm.Cond.selects "KeepForget" ({ cls := "KeepForget", name := "bites", desc := "(II)Z" } : Jvm.MethodName) ({ cls := "KeepForget", name := "bites", desc := "(II)Z" } : Jvm.MethodName)) ∈ tb := tb_t 847 (by decide +kernel) (by decide +kernel)
theorem tW_848 : (Jvm.Cond.code ({ cls := "KeepForget", name := "bites", desc := "(II)Z" } : Jvm.MethodName) prog_1_method_24_code (6 : Nat) (Option.some Jvm.ClassFile.FieldType.boolean)) ∈ tb := tb_t 848 (by decide +kernel) (by decide +kernel)
theorem tW_850 : (Jvm.Cond.methodLink "KeepForget" (259 : Nat) ({ cls := "KeepForget$Rule", name := "isFor", desc := "(LKeepForget$Thing;I)Z" } : Jvm.MethodName)) ∈ tb := tb_t 850 (by decide +kernel) (by decide +kernel)
theorem tW_851 : (Jvm.Cond.methodLink "KeepForgetLaw" (176 : Nat) ({ cls := "KeepForgetLaw", name := "days", desc := "(LKeepForget;I[J)I" } : Jvm.MethodName)) ∈ tb := tb_t 851 (by decide +kernel) (by decide +kernel)
theorem tW_852 : (Jvm.Cond.static ({ cls := "KeepForgetLaw", name := "days", desc := "(LKeepForget;I[J)I" } : Jvm.MethodName)) ∈ tb := tb_t 852 (by decide +kernel) (by decide +kernel)
theorem tW_854 : (Jvm.Cond.methodLink "KeepForgetLaw" (78 : Nat) ({ cls := "KeepForget", name := "days", desc := "(I)I" } : Jvm.MethodName)) ∈ tb := tb_t 854 (by decide +kernel) (by decide +kernel)
theorem tW_855 : (Jvm.Cond.instanceMethod ({ cls := "KeepForget", name := "days", desc := "(I)I" } : Jvm.MethodName)) ∈ tb := tb_t 855 (by decide +kernel) (by decide +kernel)
theorem tW_856 : (Jvm.Cond.selects "KeepForget" ({ cls := "KeepForget", name := "days", desc := "(I)I" } : Jvm.MethodName) ({ cls := "KeepForget", name := "days", desc := "(I)I" } : Jvm.MethodName)) ∈ tb := tb_t 856 (by decide +kernel) (by decide +kernel)
theorem tW_857 : (Jvm.Cond.code ({ cls := "KeepForget", name := "days", desc := "(I)I" } : Jvm.MethodName) prog_1_method_25_code (5 : Nat) (Option.some Jvm.ClassFile.FieldType.int)) ∈ tb := tb_t 857 (by decide +kernel) (by decide +kernel)
theorem tW_859 : (Jvm.Cond.methodLink "KeepForget" (267 : Nat) ({ cls := "KeepForget", name := "nextBusyDay", desc := "(I)I" } : Jvm.MethodName)) ∈ tb := tb_t 859 (by decide +kernel) (by decide +kernel)
theorem tW_861 : (Jvm.Cond.instanceMethod ({ cls := "KeepForget", name := "nextBusyDay", desc := "(I)I" } : Jvm.MethodName)) ∈ tb := tb_t 861 (by decide +kernel) (by decide +kernel)
theorem tW_862 : (Jvm.Cond.code ({ cls := "KeepForget", name := "nextBusyDay", desc := "(I)I" } : Jvm.MethodName) prog_1_method_42_code (7 : Nat) (Option.some Jvm.ClassFile.FieldType.int)) ∈ tb := tb_t 862 (by decide +kernel) (by decide +kernel)
theorem tW_863 : (Jvm.Cond.methodLink "KeepForget" (324 : Nat) ({ cls := "java/lang/Math", name := "min", desc := "(II)I" } : Jvm.MethodName)) ∈ tb := tb_t 863 (by decide +kernel) (by decide +kernel)
theorem tW_864 : (Jvm.Cond.methodLink "KeepForget" (273 : Nat) ({ cls := "KeepForget", name := "sweep", desc := "(I)V" } : Jvm.MethodName)) ∈ tb := tb_t 864 (by decide +kernel) (by decide +kernel)
theorem tW_866 : (Jvm.Cond.instanceMethod ({ cls := "KeepForget", name := "sweep", desc := "(I)V" } : Jvm.MethodName)) ∈ tb := tb_t 866 (by decide +kernel) (by decide +kernel)
theorem tW_867 : (Jvm.Cond.code ({ cls := "KeepForget", name := "sweep", desc := "(I)V" } : Jvm.MethodName) prog_1_method_43_code (5 : Nat) (Option.none : Option Jvm.ClassFile.FieldType)) ∈ tb := tb_t 867 (by decide +kernel) (by decide +kernel)
theorem tW_868 : (Jvm.Cond.methodLink "KeepForget" (327 : Nat) ({ cls := "KeepForget$Log", name := "add", desc := "(IIIILKeepForget$Span;)V" } : Jvm.MethodName)) ∈ tb := tb_t 868 (by decide +kernel) (by decide +kernel)
theorem tW_869 : (Jvm.Cond.instanceMethod ({ cls := "KeepForget$Log", name := "add", desc := "(IIIILKeepForget$Span;)V" } : Jvm.MethodName)) ∈ tb := tb_t 869 (by decide +kernel) (by decide +kernel)
theorem tW_870 : (Jvm.Cond.selects "KeepForget$Log" ({ cls := "KeepForget$Log", name := "add", desc := "(IIIILKeepForget$Span;)V" } : Jvm.MethodName) ({ cls := "KeepForget$Log", name := "add", desc := "(IIIILKeepForget$Span;)V" } : Jvm.MethodName)) ∈ tb := tb_t 870 (by decide +kernel) (by decide +kernel)
theorem tW_871 : (Jvm.Cond.code ({ cls := "KeepForget$Log", name := "add", desc := "(IIIILKeepForget$Span;)V" } : Jvm.MethodName) prog_4_method_2_code (7 : Nat) (Option.none : Option Jvm.ClassFile.FieldType)) ∈ tb := tb_t 871 (by decide +kernel) (by decide +kernel)
theorem tW_872 : (Jvm.Cond.methodLink "KeepForgetLaw" (179 : Nat) ({ cls := "KeepForgetLaw", name := "entry", desc := "(LKeepForget;II[J)I" } : Jvm.MethodName)) ∈ tb := tb_t 872 (by decide +kernel) (by decide +kernel)
theorem tW_873 : (Jvm.Cond.static ({ cls := "KeepForgetLaw", name := "entry", desc := "(LKeepForget;II[J)I" } : Jvm.MethodName)) ∈ tb := tb_t 873 (by decide +kernel) (by decide +kernel)
theorem tW_875 : (Jvm.Cond.methodLink "KeepForgetLaw" (81 : Nat) ({ cls := "KeepForget", name := "entry", desc := "(II)I" } : Jvm.MethodName)) ∈ tb := tb_t 875 (by decide +kernel) (by decide +kernel)
theorem tW_876 : (Jvm.Cond.instanceMethod ({ cls := "KeepForget", name := "entry", desc := "(II)I" } : Jvm.MethodName)) ∈ tb := tb_t 876 (by decide +kernel) (by decide +kernel)
theorem tW_877 : (Jvm.Cond.selects "KeepForget" ({ cls := "KeepForget", name := "entry", desc := "(II)I" } : Jvm.MethodName) ({ cls := "KeepForget", name := "entry", desc := "(II)I" } : Jvm.MethodName)) ∈ tb := tb_t 877 (by decide +kernel) (by decide +kernel)
theorem tW_878 : (Jvm.Cond.code ({ cls := "KeepForget", name := "entry", desc := "(II)I" } : Jvm.MethodName) prog_1_method_26_code (3 : Nat) (Option.some Jvm.ClassFile.FieldType.int)) ∈ tb := tb_t 878 (by decide +kernel) (by decide +kernel)
theorem tW_880 : (Jvm.Cond.methodLink "KeepForgetLaw" (182 : Nat) ({ cls := "KeepForgetLaw", name := "count", desc := "(LKeepForget;I[J)I" } : Jvm.MethodName)) ∈ tb := tb_t 880 (by decide +kernel) (by decide +kernel)
theorem tW_881 : (Jvm.Cond.static ({ cls := "KeepForgetLaw", name := "count", desc := "(LKeepForget;I[J)I" } : Jvm.MethodName)) ∈ tb := tb_t 881 (by decide +kernel) (by decide +kernel)
theorem tW_883 : (Jvm.Cond.methodLink "KeepForgetLaw" (84 : Nat) ({ cls := "KeepForget", name := "count", desc := "(I)I" } : Jvm.MethodName)) ∈ tb := tb_t 883 (by decide +kernel) (by decide +kernel)
theorem tW_884 : (Jvm.Cond.instanceMethod ({ cls := "KeepForget", name := "count", desc := "(I)I" } : Jvm.MethodName)) ∈ tb := tb_t 884 (by decide +kernel) (by decide +kernel)
theorem tW_885 : (Jvm.Cond.selects "KeepForget" ({ cls := "KeepForget", name := "count", desc := "(I)I" } : Jvm.MethodName) ({ cls := "KeepForget", name := "count", desc := "(I)I" } : Jvm.MethodName)) ∈ tb := tb_t 885 (by decide +kernel) (by decide +kernel)
theorem tW_886 : (Jvm.Cond.code ({ cls := "KeepForget", name := "count", desc := "(I)I" } : Jvm.MethodName) prog_1_method_27_code (3 : Nat) (Option.some Jvm.ClassFile.FieldType.int)) ∈ tb := tb_t 886 (by decide +kernel) (by decide +kernel)
theorem tW_887 : (Jvm.Cond.methodLink "KeepForget" (291 : Nat) ({ cls := "KeepForget", name := "copyCount", desc := "()I" } : Jvm.MethodName)) ∈ tb := tb_t 887 (by decide +kernel) (by decide +kernel)
theorem tW_889 : (Jvm.Cond.instanceMethod ({ cls := "KeepForget", name := "copyCount", desc := "()I" } : Jvm.MethodName)) ∈ tb := tb_t 889 (by decide +kernel) (by decide +kernel)
theorem tW_890 : (Jvm.Cond.code ({ cls := "KeepForget", name := "copyCount", desc := "()I" } : Jvm.MethodName) prog_1_method_40_code (4 : Nat) (Option.some Jvm.ClassFile.FieldType.int)) ∈ tb := tb_t 890 (by decide +kernel) (by decide +kernel)
theorem tW_891 : (Jvm.Cond.methodLink "KeepForget" (294 : Nat) ({ cls := "KeepForget", name := "openHoldCount", desc := "()I" } : Jvm.MethodName)) ∈ tb := tb_t 891 (by decide +kernel) (by decide +kernel)
theorem tW_893 : (Jvm.Cond.instanceMethod ({ cls := "KeepForget", name := "openHoldCount", desc := "()I" } : Jvm.MethodName)) ∈ tb := tb_t 893 (by decide +kernel) (by decide +kernel)
theorem tW_894 : (Jvm.Cond.code ({ cls := "KeepForget", name := "openHoldCount", desc := "()I" } : Jvm.MethodName) prog_1_method_39_code (3 : Nat) (Option.some Jvm.ClassFile.FieldType.int)) ∈ tb := tb_t 894 (by decide +kernel) (by decide +kernel)
theorem tW_896 : (Jvm.Cond.classLink "KeepForgetLaw" (88 : Nat) "KeepForgetModel") ∈ tb := tb_t 896 (by decide +kernel) (by decide +kernel)
theorem tW_897 : (Jvm.Cond.instantiable "KeepForgetModel" (60 : Nat)) ∈ tb := tb_t 897 (by decide +kernel) (by decide +kernel)
theorem tW_898 : (Jvm.Cond.methodLink "KeepForgetLaw" (90 : Nat) ({ cls := "KeepForgetModel", name := "<init>", desc := "()V" } : Jvm.MethodName)) ∈ tb := tb_t 898 (by decide +kernel) (by decide +kernel)
theorem tW_899 : (Jvm.Cond.instanceMethod ({ cls := "KeepForgetModel", name := "<init>", desc := "()V" } : Jvm.MethodName)) ∈ tb := tb_t 899 (by decide +kernel) (by decide +kernel)
theorem tW_900 : (Jvm.Cond.code ({ cls := "KeepForgetModel", name := "<init>", desc := "()V" } : Jvm.MethodName) prog_12_method_1_code (2 : Nat) (Option.none : Option Jvm.ClassFile.FieldType)) ∈ tb := tb_t 900 (by decide +kernel) (by decide +kernel)
theorem tW_901 : (Jvm.Cond.methodLink "KeepForgetModel" (1 : Nat) ({ cls := "java/lang/Object", name := "<init>", desc := "()V" } : Jvm.MethodName)) ∈ tb := tb_t 901 (by decide +kernel) (by decide +kernel)
theorem tW_902 : (Jvm.Cond.fieldLink "KeepForgetModel" (126 : Nat) "KeepForgetModel" "code" "I") ∈ tb := tb_t 902 (by decide +kernel) (by decide +kernel)
theorem tW_903 : (Jvm.Cond.fieldLink "KeepForgetModel" (313 : Nat) "KeepForgetModel" "now" "I") ∈ tb := tb_t 903 (by decide +kernel) (by decide +kernel)
theorem tW_904 : (Jvm.Cond.fieldLink "KeepForgetModel" (278 : Nat) "KeepForgetModel" "things" "I") ∈ tb := tb_t 904 (by decide +kernel) (by decide +kernel)
theorem tW_905 : (Jvm.Cond.fieldLink "KeepForgetModel" (270 : Nat) "KeepForgetModel" "sets" "I") ∈ tb := tb_t 905 (by decide +kernel) (by decide +kernel)
theorem tW_906 : (Jvm.Cond.fieldLink "KeepForgetModel" (339 : Nat) "KeepForgetModel" "holds" "I") ∈ tb := tb_t 906 (by decide +kernel) (by decide +kernel)
theorem tW_907 : (Jvm.Cond.fieldLink "KeepForgetModel" (354 : Nat) "KeepForgetModel" "logged" "I") ∈ tb := tb_t 907 (by decide +kernel) (by decide +kernel)
theorem tW_908 : (Jvm.Cond.fieldLink "KeepForgetModel" (351 : Nat) "KeepForgetModel" "late" "I") ∈ tb := tb_t 908 (by decide +kernel) (by decide +kernel)
theorem tW_909 : (Jvm.Cond.fieldLink "KeepForgetModel" (171 : Nat) "KeepForgetModel" "taped" "I") ∈ tb := tb_t 909 (by decide +kernel) (by decide +kernel)
theorem tW_910 : (Jvm.Cond.fieldLink "KeepForgetModel" (9 : Nat) "KeepForgetModel" "faultPlace" "I") ∈ tb := tb_t 910 (by decide +kernel) (by decide +kernel)
theorem tW_911 : (Jvm.Cond.fieldLink "KeepForgetModel" (13 : Nat) "KeepForgetModel" "kind" "[I") ∈ tb := tb_t 911 (by decide +kernel) (by decide +kernel)
theorem tW_912 : (Jvm.Cond.fieldLink "KeepForgetModel" (17 : Nat) "KeepForgetModel" "fact" "[I") ∈ tb := tb_t 912 (by decide +kernel) (by decide +kernel)
theorem tW_913 : (Jvm.Cond.fieldLink "KeepForgetModel" (20 : Nat) "KeepForgetModel" "event" "[I") ∈ tb := tb_t 913 (by decide +kernel) (by decide +kernel)
theorem tW_914 : (Jvm.Cond.fieldLink "KeepForgetModel" (23 : Nat) "KeepForgetModel" "copyBits" "[I") ∈ tb := tb_t 914 (by decide +kernel) (by decide +kernel)
theorem tW_915 : (Jvm.Cond.fieldLink "KeepForgetModel" (26 : Nat) "KeepForgetModel" "isWished" "[Z") ∈ tb := tb_t 915 (by decide +kernel) (by decide +kernel)
theorem tW_916 : (Jvm.Cond.fieldLink "KeepForgetModel" (30 : Nat) "KeepForgetModel" "every" "[I") ∈ tb := tb_t 916 (by decide +kernel) (by decide +kernel)
theorem tW_917 : (Jvm.Cond.fieldLink "KeepForgetModel" (33 : Nat) "KeepForgetModel" "first" "[I") ∈ tb := tb_t 917 (by decide +kernel) (by decide +kernel)
theorem tW_918 : (Jvm.Cond.fieldLink "KeepForgetModel" (36 : Nat) "KeepForgetModel" "holdThing" "[I") ∈ tb := tb_t 918 (by decide +kernel) (by decide +kernel)
theorem tW_919 : (Jvm.Cond.fieldLink "KeepForgetModel" (39 : Nat) "KeepForgetModel" "holdFields" "[I") ∈ tb := tb_t 919 (by decide +kernel) (by decide +kernel)
theorem tW_920 : (Jvm.Cond.fieldLink "KeepForgetModel" (42 : Nat) "KeepForgetModel" "isLifted" "[Z") ∈ tb := tb_t 920 (by decide +kernel) (by decide +kernel)
theorem tW_921 : (Jvm.Cond.fieldLink "KeepForgetModel" (45 : Nat) "KeepForgetModel" "logThing" "[I") ∈ tb := tb_t 921 (by decide +kernel) (by decide +kernel)
theorem tW_922 : (Jvm.Cond.fieldLink "KeepForgetModel" (48 : Nat) "KeepForgetModel" "logField" "[I") ∈ tb := tb_t 922 (by decide +kernel) (by decide +kernel)
theorem tW_923 : (Jvm.Cond.fieldLink "KeepForgetModel" (51 : Nat) "KeepForgetModel" "logStore" "[I") ∈ tb := tb_t 923 (by decide +kernel) (by decide +kernel)
theorem tW_924 : (Jvm.Cond.fieldLink "KeepForgetModel" (54 : Nat) "KeepForgetModel" "logDay" "[I") ∈ tb := tb_t 924 (by decide +kernel) (by decide +kernel)
theorem tW_925 : (Jvm.Cond.fieldLink "KeepForgetModel" (57 : Nat) "KeepForgetModel" "logRule" "[I") ∈ tb := tb_t 925 (by decide +kernel) (by decide +kernel)
theorem tW_926 : (Jvm.Cond.fieldLink "KeepForgetModel" (60 : Nat) "KeepForgetModel" "setDay" "[I") ∈ tb := tb_t 926 (by decide +kernel) (by decide +kernel)
theorem tW_927 : (Jvm.Cond.fieldLink "KeepForgetModel" (63 : Nat) "KeepForgetModel" "ruleMany" "[I") ∈ tb := tb_t 927 (by decide +kernel) (by decide +kernel)
theorem tW_928 : (Jvm.Cond.fieldLink "KeepForgetModel" (66 : Nat) "KeepForgetModel" "what" "[I") ∈ tb := tb_t 928 (by decide +kernel) (by decide +kernel)
theorem tW_929 : (Jvm.Cond.fieldLink "KeepForgetModel" (69 : Nat) "KeepForgetModel" "ofKind" "[I") ∈ tb := tb_t 929 (by decide +kernel) (by decide +kernel)
theorem tW_930 : (Jvm.Cond.fieldLink "KeepForgetModel" (72 : Nat) "KeepForgetModel" "ofField" "[I") ∈ tb := tb_t 930 (by decide +kernel) (by decide +kernel)
theorem tW_931 : (Jvm.Cond.fieldLink "KeepForgetModel" (75 : Nat) "KeepForgetModel" "long0" "[I") ∈ tb := tb_t 931 (by decide +kernel) (by decide +kernel)
theorem tW_932 : (Jvm.Cond.fieldLink "KeepForgetModel" (78 : Nat) "KeepForgetModel" "unit" "[I") ∈ tb := tb_t 932 (by decide +kernel) (by decide +kernel)
theorem tW_933 : (Jvm.Cond.fieldLink "KeepForgetModel" (81 : Nat) "KeepForgetModel" "from" "[I") ∈ tb := tb_t 933 (by decide +kernel) (by decide +kernel)
theorem tW_934 : (Jvm.Cond.fieldLink "KeepForgetModel" (84 : Nat) "KeepForgetModel" "stores" "[I") ∈ tb := tb_t 934 (by decide +kernel) (by decide +kernel)
theorem tW_935 : (Jvm.Cond.fieldLink "KeepForgetModel" (87 : Nat) "KeepForgetModel" "rank" "[I") ∈ tb := tb_t 935 (by decide +kernel) (by decide +kernel)
theorem tW_936 : (Jvm.Cond.fieldLink "KeepForgetModel" (90 : Nat) "KeepForgetModel" "testMany" "[I") ∈ tb := tb_t 936 (by decide +kernel) (by decide +kernel)
theorem tW_937 : (Jvm.Cond.fieldLink "KeepForgetModel" (93 : Nat) "KeepForgetModel" "testFact" "[I") ∈ tb := tb_t 937 (by decide +kernel) (by decide +kernel)
theorem tW_938 : (Jvm.Cond.fieldLink "KeepForgetModel" (96 : Nat) "KeepForgetModel" "testNumber" "[I") ∈ tb := tb_t 938 (by decide +kernel) (by decide +kernel)
theorem tW_939 : (Jvm.Cond.fieldLink "KeepForgetModel" (99 : Nat) "KeepForgetModel" "isLess" "[Z") ∈ tb := tb_t 939 (by decide +kernel) (by decide +kernel)
theorem tW_940 : (Jvm.Cond.fieldLink "KeepForgetModel" (102 : Nat) "KeepForgetModel" "tape" "[I") ∈ tb := tb_t 940 (by decide +kernel) (by decide +kernel)
theorem tW_941 : (Jvm.Cond.fieldLink "KeepForgetModel" (177 : Nat) "KeepForgetModel" "at" "I") ∈ tb := tb_t 941 (by decide +kernel) (by decide +kernel)
theorem tW_942 : (Jvm.Cond.fieldLink "KeepForgetModel" (174 : Nat) "KeepForgetModel" "size" "I") ∈ tb := tb_t 942 (by decide +kernel) (by decide +kernel)
theorem tW_943 : (Jvm.Cond.fieldLink "KeepForgetModel" (189 : Nat) "KeepForgetModel" "token" "I") ∈ tb := tb_t 943 (by decide +kernel) (by decide +kernel)
theorem tW_944 : (Jvm.Cond.fieldLink "KeepForgetModel" (186 : Nat) "KeepForgetModel" "sign" "I") ∈ tb := tb_t 944 (by decide +kernel) (by decide +kernel)
theorem tW_945 : (Jvm.Cond.fieldLink "KeepForgetModel" (183 : Nat) "KeepForgetModel" "begins" "I") ∈ tb := tb_t 945 (by decide +kernel) (by decide +kernel)
theorem tW_946 : (Jvm.Cond.fieldLink "KeepForgetModel" (198 : Nat) "KeepForgetModel" "ends" "I") ∈ tb := tb_t 946 (by decide +kernel) (by decide +kernel)
theorem tW_947 : (Jvm.Cond.fieldLink "KeepForgetModel" (201 : Nat) "KeepForgetModel" "bad" "I") ∈ tb := tb_t 947 (by decide +kernel) (by decide +kernel)
theorem tW_948 : (Jvm.Cond.fieldLink "KeepForgetModel" (204 : Nat) "KeepForgetModel" "badPlace" "I") ∈ tb := tb_t 948 (by decide +kernel) (by decide +kernel)
theorem tW_949 : (Jvm.Cond.fieldLink "KeepForgetModel" (233 : Nat) "KeepForgetModel" "rule" "I") ∈ tb := tb_t 949 (by decide +kernel) (by decide +kernel)
theorem tW_950 : (Jvm.Cond.fieldLink "KeepForgetModel" (284 : Nat) "KeepForgetModel" "spanFrom" "I") ∈ tb := tb_t 950 (by decide +kernel) (by decide +kernel)
theorem tW_951 : (Jvm.Cond.fieldLink "KeepForgetModel" (287 : Nat) "KeepForgetModel" "spanTo" "I") ∈ tb := tb_t 951 (by decide +kernel) (by decide +kernel)
theorem tW_952 : (Jvm.Cond.fieldLink "KeepForgetModel" (299 : Nat) "KeepForgetModel" "byFrom" "I") ∈ tb := tb_t 952 (by decide +kernel) (by decide +kernel)
theorem tW_953 : (Jvm.Cond.fieldLink "KeepForgetModel" (302 : Nat) "KeepForgetModel" "byTo" "I") ∈ tb := tb_t 953 (by decide +kernel) (by decide +kernel)
theorem tW_954 : (Jvm.Cond.fieldLink "KeepForgetModel" (296 : Nat) "KeepForgetModel" "losts" "I") ∈ tb := tb_t 954 (by decide +kernel) (by decide +kernel)
theorem tW_955 : (Jvm.Cond.fieldLink "KeepForgetModel" (105 : Nat) "KeepForgetModel" "lostRow" "[I") ∈ tb := tb_t 955 (by decide +kernel) (by decide +kernel)
theorem tW_956 : (Jvm.Cond.fieldLink "KeepForgetModel" (108 : Nat) "KeepForgetModel" "keptSet" "I") ∈ tb := tb_t 956 (by decide +kernel) (by decide +kernel)
theorem tW_957 : (Jvm.Cond.fieldLink "KeepForgetModel" (111 : Nat) "KeepForgetModel" "isKept" "[Z") ∈ tb := tb_t 957 (by decide +kernel) (by decide +kernel)
theorem tW_958 : (Jvm.Cond.fieldLink "KeepForgetModel" (114 : Nat) "KeepForgetModel" "keptFrom" "[I") ∈ tb := tb_t 958 (by decide +kernel) (by decide +kernel)
theorem tW_959 : (Jvm.Cond.fieldLink "KeepForgetModel" (117 : Nat) "KeepForgetModel" "keptTo" "[I") ∈ tb := tb_t 959 (by decide +kernel) (by decide +kernel)
theorem tW_960 : (Jvm.Cond.fieldLink "KeepForgetModel" (120 : Nat) "KeepForgetModel" "keptBy" "[I") ∈ tb := tb_t 960 (by decide +kernel) (by decide +kernel)
theorem tW_961 : (Jvm.Cond.fieldLink "KeepForgetModel" (123 : Nat) "KeepForgetModel" "heldBits" "[I") ∈ tb := tb_t 961 (by decide +kernel) (by decide +kernel)
theorem tW_1083 : (Jvm.Cond.methodLink "KeepForgetLaw" (97 : Nat) ({ cls := "KeepForgetModel", name := "thrown", desc := "()I" } : Jvm.MethodName)) ∈ tb := tb_t 1083 (by decide +kernel) (by decide +kernel)
theorem tW_1084 : (Jvm.Cond.instanceMethod ({ cls := "KeepForgetModel", name := "thrown", desc := "()I" } : Jvm.MethodName)) ∈ tb := tb_t 1084 (by decide +kernel) (by decide +kernel)
theorem tW_1085 : (Jvm.Cond.selects "KeepForgetModel" ({ cls := "KeepForgetModel", name := "thrown", desc := "()I" } : Jvm.MethodName) ({ cls := "KeepForgetModel", name := "thrown", desc := "()I" } : Jvm.MethodName)) ∈ tb := tb_t 1085 (by decide +kernel) (by decide +kernel)
theorem tW_1086 : (Jvm.Cond.code ({ cls := "KeepForgetModel", name := "thrown", desc := "()I" } : Jvm.MethodName) prog_12_method_2_code (1 : Nat) (Option.some Jvm.ClassFile.FieldType.int)) ∈ tb := tb_t 1086 (by decide +kernel) (by decide +kernel)
theorem tW_1087 : (Jvm.Cond.methodLink "KeepForgetLaw" (96 : Nat) ({ cls := "KeepForgetModel", name := "day", desc := "(III)I" } : Jvm.MethodName)) ∈ tb := tb_t 1087 (by decide +kernel) (by decide +kernel)
theorem tW_1088 : (Jvm.Cond.instanceMethod ({ cls := "KeepForgetModel", name := "day", desc := "(III)I" } : Jvm.MethodName)) ∈ tb := tb_t 1088 (by decide +kernel) (by decide +kernel)
theorem tW_1089 : (Jvm.Cond.selects "KeepForgetModel" ({ cls := "KeepForgetModel", name := "day", desc := "(III)I" } : Jvm.MethodName) ({ cls := "KeepForgetModel", name := "day", desc := "(III)I" } : Jvm.MethodName)) ∈ tb := tb_t 1089 (by decide +kernel) (by decide +kernel)
theorem tW_1090 : (Jvm.Cond.code ({ cls := "KeepForgetModel", name := "day", desc := "(III)I" } : Jvm.MethodName) prog_12_method_12_code (4 : Nat) (Option.some Jvm.ClassFile.FieldType.int)) ∈ tb := tb_t 1090 (by decide +kernel) (by decide +kernel)
theorem tW_1091 : (Jvm.Cond.methodLink "KeepForgetModel" (140 : Nat) ({ cls := "KeepForgetModel", name := "monthDays", desc := "(II)I" } : Jvm.MethodName)) ∈ tb := tb_t 1091 (by decide +kernel) (by decide +kernel)
theorem tW_1092 : (Jvm.Cond.static ({ cls := "KeepForgetModel", name := "monthDays", desc := "(II)I" } : Jvm.MethodName)) ∈ tb := tb_t 1092 (by decide +kernel) (by decide +kernel)
theorem tW_1093 : (Jvm.Cond.code ({ cls := "KeepForgetModel", name := "monthDays", desc := "(II)I" } : Jvm.MethodName) prog_12_method_7_code (2 : Nat) (Option.some Jvm.ClassFile.FieldType.int)) ∈ tb := tb_t 1093 (by decide +kernel) (by decide +kernel)
theorem tW_1094 : (Jvm.Cond.methodLink "KeepForgetModel" (133 : Nat) ({ cls := "KeepForgetModel", name := "isLeap", desc := "(I)Z" } : Jvm.MethodName)) ∈ tb := tb_t 1094 (by decide +kernel) (by decide +kernel)
theorem tW_1095 : (Jvm.Cond.static ({ cls := "KeepForgetModel", name := "isLeap", desc := "(I)Z" } : Jvm.MethodName)) ∈ tb := tb_t 1095 (by decide +kernel) (by decide +kernel)
theorem tW_1096 : (Jvm.Cond.code ({ cls := "KeepForgetModel", name := "isLeap", desc := "(I)Z" } : Jvm.MethodName) prog_12_method_4_code (1 : Nat) (Option.some Jvm.ClassFile.FieldType.boolean)) ∈ tb := tb_t 1096 (by decide +kernel) (by decide +kernel)
theorem tW_1097 : (Jvm.Cond.methodLink "KeepForgetModel" (148 : Nat) ({ cls := "KeepForgetModel", name := "dayOf", desc := "(III)I" } : Jvm.MethodName)) ∈ tb := tb_t 1097 (by decide +kernel) (by decide +kernel)
theorem tW_1098 : (Jvm.Cond.static ({ cls := "KeepForgetModel", name := "dayOf", desc := "(III)I" } : Jvm.MethodName)) ∈ tb := tb_t 1098 (by decide +kernel) (by decide +kernel)
theorem tW_1099 : (Jvm.Cond.code ({ cls := "KeepForgetModel", name := "dayOf", desc := "(III)I" } : Jvm.MethodName) prog_12_method_8_code (5 : Nat) (Option.some Jvm.ClassFile.FieldType.int)) ∈ tb := tb_t 1099 (by decide +kernel) (by decide +kernel)
theorem tW_1100 : (Jvm.Cond.methodLink "KeepForgetModel" (137 : Nat) ({ cls := "KeepForgetModel", name := "yearDay", desc := "(I)I" } : Jvm.MethodName)) ∈ tb := tb_t 1100 (by decide +kernel) (by decide +kernel)
theorem tW_1101 : (Jvm.Cond.static ({ cls := "KeepForgetModel", name := "yearDay", desc := "(I)I" } : Jvm.MethodName)) ∈ tb := tb_t 1101 (by decide +kernel) (by decide +kernel)
theorem tW_1102 : (Jvm.Cond.code ({ cls := "KeepForgetModel", name := "yearDay", desc := "(I)I" } : Jvm.MethodName) prog_12_method_6_code (1 : Nat) (Option.some Jvm.ClassFile.FieldType.int)) ∈ tb := tb_t 1102 (by decide +kernel) (by decide +kernel)
theorem tW_1103 : (Jvm.Cond.methodLink "KeepForgetModel" (129 : Nat) ({ cls := "KeepForgetModel", name := "leaps", desc := "(I)I" } : Jvm.MethodName)) ∈ tb := tb_t 1103 (by decide +kernel) (by decide +kernel)
theorem tW_1104 : (Jvm.Cond.static ({ cls := "KeepForgetModel", name := "leaps", desc := "(I)I" } : Jvm.MethodName)) ∈ tb := tb_t 1104 (by decide +kernel) (by decide +kernel)
theorem tW_1105 : (Jvm.Cond.code ({ cls := "KeepForgetModel", name := "leaps", desc := "(I)I" } : Jvm.MethodName) prog_12_method_5_code (1 : Nat) (Option.some Jvm.ClassFile.FieldType.int)) ∈ tb := tb_t 1105 (by decide +kernel) (by decide +kernel)
theorem tW_1106 : (Jvm.Cond.constant "KeepForgetModel" (144 : Nat) (200000 : Int32)) ∈ tb := tb_t 1106 (by decide +kernel) (by decide +kernel)
theorem tW_1107 : (Jvm.Cond.methodLink "KeepForgetModel" (152 : Nat) ({ cls := "KeepForgetModel", name := "fail", desc := "(I)I" } : Jvm.MethodName)) ∈ tb := tb_t 1107 (by decide +kernel) (by decide +kernel)
theorem tW_1109 : (Jvm.Cond.instanceMethod ({ cls := "KeepForgetModel", name := "fail", desc := "(I)I" } : Jvm.MethodName)) ∈ tb := tb_t 1109 (by decide +kernel) (by decide +kernel)
theorem tW_1110 : (Jvm.Cond.code ({ cls := "KeepForgetModel", name := "fail", desc := "(I)I" } : Jvm.MethodName) prog_12_method_3_code (2 : Nat) (Option.some Jvm.ClassFile.FieldType.int)) ∈ tb := tb_t 1110 (by decide +kernel) (by decide +kernel)
theorem tW_1111 : (Jvm.Cond.methodLink "KeepForgetLaw" (104 : Nat) ({ cls := "KeepForgetModel", name := "date", desc := "(II)I" } : Jvm.MethodName)) ∈ tb := tb_t 1111 (by decide +kernel) (by decide +kernel)
theorem tW_1112 : (Jvm.Cond.instanceMethod ({ cls := "KeepForgetModel", name := "date", desc := "(II)I" } : Jvm.MethodName)) ∈ tb := tb_t 1112 (by decide +kernel) (by decide +kernel)
theorem tW_1113 : (Jvm.Cond.selects "KeepForgetModel" ({ cls := "KeepForgetModel", name := "date", desc := "(II)I" } : Jvm.MethodName) ({ cls := "KeepForgetModel", name := "date", desc := "(II)I" } : Jvm.MethodName)) ∈ tb := tb_t 1113 (by decide +kernel) (by decide +kernel)
theorem tW_1114 : (Jvm.Cond.code ({ cls := "KeepForgetModel", name := "date", desc := "(II)I" } : Jvm.MethodName) prog_12_method_13_code (5 : Nat) (Option.some Jvm.ClassFile.FieldType.int)) ∈ tb := tb_t 1114 (by decide +kernel) (by decide +kernel)
theorem tW_1115 : (Jvm.Cond.methodLink "KeepForgetModel" (155 : Nat) ({ cls := "KeepForgetModel", name := "isDay", desc := "(I)Z" } : Jvm.MethodName)) ∈ tb := tb_t 1115 (by decide +kernel) (by decide +kernel)
theorem tW_1116 : (Jvm.Cond.static ({ cls := "KeepForgetModel", name := "isDay", desc := "(I)Z" } : Jvm.MethodName)) ∈ tb := tb_t 1116 (by decide +kernel) (by decide +kernel)
theorem tW_1117 : (Jvm.Cond.code ({ cls := "KeepForgetModel", name := "isDay", desc := "(I)Z" } : Jvm.MethodName) prog_12_method_9_code (1 : Nat) (Option.some Jvm.ClassFile.FieldType.boolean)) ∈ tb := tb_t 1117 (by decide +kernel) (by decide +kernel)
theorem tW_1118 : (Jvm.Cond.methodLink "KeepForgetModel" (145 : Nat) ({ cls := "KeepForgetModel", name := "yearOf", desc := "(I)I" } : Jvm.MethodName)) ∈ tb := tb_t 1118 (by decide +kernel) (by decide +kernel)
theorem tW_1119 : (Jvm.Cond.static ({ cls := "KeepForgetModel", name := "yearOf", desc := "(I)I" } : Jvm.MethodName)) ∈ tb := tb_t 1119 (by decide +kernel) (by decide +kernel)
theorem tW_1120 : (Jvm.Cond.code ({ cls := "KeepForgetModel", name := "yearOf", desc := "(I)I" } : Jvm.MethodName) prog_12_method_10_code (2 : Nat) (Option.some Jvm.ClassFile.FieldType.int)) ∈ tb := tb_t 1120 (by decide +kernel) (by decide +kernel)
theorem tW_1121 : (Jvm.Cond.methodLink "KeepForgetModel" (158 : Nat) ({ cls := "KeepForgetModel", name := "monthOf", desc := "(I)I" } : Jvm.MethodName)) ∈ tb := tb_t 1121 (by decide +kernel) (by decide +kernel)
theorem tW_1122 : (Jvm.Cond.static ({ cls := "KeepForgetModel", name := "monthOf", desc := "(I)I" } : Jvm.MethodName)) ∈ tb := tb_t 1122 (by decide +kernel) (by decide +kernel)
theorem tW_1123 : (Jvm.Cond.code ({ cls := "KeepForgetModel", name := "monthOf", desc := "(I)I" } : Jvm.MethodName) prog_12_method_11_code (3 : Nat) (Option.some Jvm.ClassFile.FieldType.int)) ∈ tb := tb_t 1123 (by decide +kernel) (by decide +kernel)
theorem tW_1124 : (Jvm.Cond.methodLink "KeepForgetLaw" (107 : Nat) ({ cls := "KeepForgetModel", name := "later", desc := "(II)I" } : Jvm.MethodName)) ∈ tb := tb_t 1124 (by decide +kernel) (by decide +kernel)
theorem tW_1125 : (Jvm.Cond.instanceMethod ({ cls := "KeepForgetModel", name := "later", desc := "(II)I" } : Jvm.MethodName)) ∈ tb := tb_t 1125 (by decide +kernel) (by decide +kernel)
theorem tW_1126 : (Jvm.Cond.selects "KeepForgetModel" ({ cls := "KeepForgetModel", name := "later", desc := "(II)I" } : Jvm.MethodName) ({ cls := "KeepForgetModel", name := "later", desc := "(II)I" } : Jvm.MethodName)) ∈ tb := tb_t 1126 (by decide +kernel) (by decide +kernel)
theorem tW_1127 : (Jvm.Cond.code ({ cls := "KeepForgetModel", name := "later", desc := "(II)I" } : Jvm.MethodName) prog_12_method_15_code (3 : Nat) (Option.some Jvm.ClassFile.FieldType.int)) ∈ tb := tb_t 1127 (by decide +kernel) (by decide +kernel)
theorem tW_1128 : (Jvm.Cond.constant "KeepForgetModel" (167 : Nat) (119988 : Int32)) ∈ tb := tb_t 1128 (by decide +kernel) (by decide +kernel)
theorem tW_1129 : (Jvm.Cond.methodLink "KeepForgetModel" (168 : Nat) ({ cls := "KeepForgetModel", name := "behind", desc := "(II)I" } : Jvm.MethodName)) ∈ tb := tb_t 1129 (by decide +kernel) (by decide +kernel)
theorem tW_1130 : (Jvm.Cond.static ({ cls := "KeepForgetModel", name := "behind", desc := "(II)I" } : Jvm.MethodName)) ∈ tb := tb_t 1130 (by decide +kernel) (by decide +kernel)
theorem tW_1131 : (Jvm.Cond.code ({ cls := "KeepForgetModel", name := "behind", desc := "(II)I" } : Jvm.MethodName) prog_12_method_14_code (9 : Nat) (Option.some Jvm.ClassFile.FieldType.int)) ∈ tb := tb_t 1131 (by decide +kernel) (by decide +kernel)
theorem tW_1132 : (Jvm.Cond.constant "KeepForgetModel" (161 : Nat) (999999 : Int32)) ∈ tb := tb_t 1132 (by decide +kernel) (by decide +kernel)
theorem tW_1133 : (Jvm.Cond.methodLink "KeepForgetModel" (162 : Nat) ({ cls := "java/lang/Math", name := "min", desc := "(II)I" } : Jvm.MethodName)) ∈ tb := tb_t 1133 (by decide +kernel) (by decide +kernel)
theorem tW_1134 : (Jvm.Cond.methodLink "KeepForgetLaw" (112 : Nat) ({ cls := "KeepForgetModel", name := "feed", desc := "(IIIII)I" } : Jvm.MethodName)) ∈ tb := tb_t 1134 (by decide +kernel) (by decide +kernel)
theorem tW_1135 : (Jvm.Cond.instanceMethod ({ cls := "KeepForgetModel", name := "feed", desc := "(IIIII)I" } : Jvm.MethodName)) ∈ tb := tb_t 1135 (by decide +kernel) (by decide +kernel)
theorem tW_1136 : (Jvm.Cond.selects "KeepForgetModel" ({ cls := "KeepForgetModel", name := "feed", desc := "(IIIII)I" } : Jvm.MethodName) ({ cls := "KeepForgetModel", name := "feed", desc := "(IIIII)I" } : Jvm.MethodName)) ∈ tb := tb_t 1136 (by decide +kernel) (by decide +kernel)
theorem tW_1137 : (Jvm.Cond.code ({ cls := "KeepForgetModel", name := "feed", desc := "(IIIII)I" } : Jvm.MethodName) prog_12_method_16_code (8 : Nat) (Option.some Jvm.ClassFile.FieldType.int)) ∈ tb := tb_t 1137 (by decide +kernel) (by decide +kernel)
theorem tW_1138 : (Jvm.Cond.methodLink "KeepForgetLaw" (115 : Nat) ({ cls := "KeepForgetModel", name := "rules", desc := "(II)I" } : Jvm.MethodName)) ∈ tb := tb_t 1138 (by decide +kernel) (by decide +kernel)
theorem tW_1139 : (Jvm.Cond.instanceMethod ({ cls := "KeepForgetModel", name := "rules", desc := "(II)I" } : Jvm.MethodName)) ∈ tb := tb_t 1139 (by decide +kernel) (by decide +kernel)
theorem tW_1140 : (Jvm.Cond.selects "KeepForgetModel" ({ cls := "KeepForgetModel", name := "rules", desc := "(II)I" } : Jvm.MethodName) ({ cls := "KeepForgetModel", name := "rules", desc := "(II)I" } : Jvm.MethodName)) ∈ tb := tb_t 1140 (by decide +kernel) (by decide +kernel)
theorem tW_1141 : (Jvm.Cond.code ({ cls := "KeepForgetModel", name := "rules", desc := "(II)I" } : Jvm.MethodName) prog_12_method_30_code (4 : Nat) (Option.some Jvm.ClassFile.FieldType.int)) ∈ tb := tb_t 1141 (by decide +kernel) (by decide +kernel)
theorem tW_1142 : (Jvm.Cond.methodLink "KeepForgetModel" (221 : Nat) ({ cls := "KeepForgetModel", name := "step", desc := "()V" } : Jvm.MethodName)) ∈ tb := tb_t 1142 (by decide +kernel) (by decide +kernel)
theorem tW_1144 : (Jvm.Cond.instanceMethod ({ cls := "KeepForgetModel", name := "step", desc := "()V" } : Jvm.MethodName)) ∈ tb := tb_t 1144 (by decide +kernel) (by decide +kernel)
theorem tW_1145 : (Jvm.Cond.code ({ cls := "KeepForgetModel", name := "step", desc := "()V" } : Jvm.MethodName) prog_12_method_20_code (2 : Nat) (Option.none : Option Jvm.ClassFile.FieldType)) ∈ tb := tb_t 1145 (by decide +kernel) (by decide +kernel)
theorem tW_1146 : (Jvm.Cond.methodLink "KeepForgetModel" (180 : Nat) ({ cls := "KeepForgetModel", name := "byteAt", desc := "(I)I" } : Jvm.MethodName)) ∈ tb := tb_t 1146 (by decide +kernel) (by decide +kernel)
theorem tW_1148 : (Jvm.Cond.instanceMethod ({ cls := "KeepForgetModel", name := "byteAt", desc := "(I)I" } : Jvm.MethodName)) ∈ tb := tb_t 1148 (by decide +kernel) (by decide +kernel)
theorem tW_1149 : (Jvm.Cond.code ({ cls := "KeepForgetModel", name := "byteAt", desc := "(I)I" } : Jvm.MethodName) prog_12_method_17_code (2 : Nat) (Option.some Jvm.ClassFile.FieldType.int)) ∈ tb := tb_t 1149 (by decide +kernel) (by decide +kernel)
theorem tW_1150 : (Jvm.Cond.methodLink "KeepForgetModel" (192 : Nat) ({ cls := "KeepForgetModel", name := "isLetter", desc := "(I)Z" } : Jvm.MethodName)) ∈ tb := tb_t 1150 (by decide +kernel) (by decide +kernel)
theorem tW_1151 : (Jvm.Cond.static ({ cls := "KeepForgetModel", name := "isLetter", desc := "(I)Z" } : Jvm.MethodName)) ∈ tb := tb_t 1151 (by decide +kernel) (by decide +kernel)
theorem tW_1152 : (Jvm.Cond.code ({ cls := "KeepForgetModel", name := "isLetter", desc := "(I)Z" } : Jvm.MethodName) prog_12_method_18_code (1 : Nat) (Option.some Jvm.ClassFile.FieldType.boolean)) ∈ tb := tb_t 1152 (by decide +kernel) (by decide +kernel)
theorem tW_1153 : (Jvm.Cond.methodLink "KeepForgetModel" (195 : Nat) ({ cls := "KeepForgetModel", name := "isDigit", desc := "(I)Z" } : Jvm.MethodName)) ∈ tb := tb_t 1153 (by decide +kernel) (by decide +kernel)
theorem tW_1154 : (Jvm.Cond.static ({ cls := "KeepForgetModel", name := "isDigit", desc := "(I)Z" } : Jvm.MethodName)) ∈ tb := tb_t 1154 (by decide +kernel) (by decide +kernel)
theorem tW_1155 : (Jvm.Cond.code ({ cls := "KeepForgetModel", name := "isDigit", desc := "(I)Z" } : Jvm.MethodName) prog_12_method_19_code (1 : Nat) (Option.some Jvm.ClassFile.FieldType.boolean)) ∈ tb := tb_t 1155 (by decide +kernel) (by decide +kernel)
theorem tW_1157 : (Jvm.Cond.methodLink "KeepForgetModel" (217 : Nat) ({ cls := "KeepForgetModel", name := "isWord", desc := "(Ljava/lang/String;)Z" } : Jvm.MethodName)) ∈ tb := tb_t 1157 (by decide +kernel) (by decide +kernel)
theorem tW_1159 : (Jvm.Cond.instanceMethod ({ cls := "KeepForgetModel", name := "isWord", desc := "(Ljava/lang/String;)Z" } : Jvm.MethodName)) ∈ tb := tb_t 1159 (by decide +kernel) (by decide +kernel)
theorem tW_1160 : (Jvm.Cond.code ({ cls := "KeepForgetModel", name := "isWord", desc := "(Ljava/lang/String;)Z" } : Jvm.MethodName) prog_12_method_22_code (4 : Nat) (Option.some Jvm.ClassFile.FieldType.boolean)) ∈ tb := tb_t 1160 (by decide +kernel) (by decide +kernel)
theorem tW_1161 : (Jvm.Cond.methodLink "KeepForgetModel" (207 : Nat) ({ cls := "java/lang/String", name := "length", desc := "()I" } : Jvm.MethodName)) ∈ tb := tb_t 1161 (by decide +kernel) (by decide +kernel)
theorem tW_1162 : (Jvm.Cond.methodLink "KeepForgetModel" (213 : Nat) ({ cls := "java/lang/String", name := "charAt", desc := "(I)C" } : Jvm.MethodName)) ∈ tb := tb_t 1162 (by decide +kernel) (by decide +kernel)
theorem tW_1165 : (Jvm.Cond.methodLink "KeepForgetModel" (224 : Nat) ({ cls := "KeepForgetModel", name := "wrong", desc := "(I)V" } : Jvm.MethodName)) ∈ tb := tb_t 1165 (by decide +kernel) (by decide +kernel)
theorem tW_1167 : (Jvm.Cond.instanceMethod ({ cls := "KeepForgetModel", name := "wrong", desc := "(I)V" } : Jvm.MethodName)) ∈ tb := tb_t 1167 (by decide +kernel) (by decide +kernel)
theorem tW_1168 : (Jvm.Cond.code ({ cls := "KeepForgetModel", name := "wrong", desc := "(I)V" } : Jvm.MethodName) prog_12_method_21_code (2 : Nat) (Option.none : Option Jvm.ClassFile.FieldType)) ∈ tb := tb_t 1168 (by decide +kernel) (by decide +kernel)
theorem tW_1169 : (Jvm.Cond.methodLink "KeepForgetModel" (275 : Nat) ({ cls := "KeepForgetModel", name := "readRule", desc := "()V" } : Jvm.MethodName)) ∈ tb := tb_t 1169 (by decide +kernel) (by decide +kernel)
theorem tW_1171 : (Jvm.Cond.instanceMethod ({ cls := "KeepForgetModel", name := "readRule", desc := "()V" } : Jvm.MethodName)) ∈ tb := tb_t 1171 (by decide +kernel) (by decide +kernel)
theorem tW_1172 : (Jvm.Cond.code ({ cls := "KeepForgetModel", name := "readRule", desc := "()V" } : Jvm.MethodName) prog_12_method_29_code (4 : Nat) (Option.none : Option Jvm.ClassFile.FieldType)) ∈ tb := tb_t 1172 (by decide +kernel) (by decide +kernel)
theorem tW_1173 : (Jvm.Cond.methodLink "KeepForgetModel" (252 : Nat) ({ cls := "KeepForgetModel", name := "readWhat", desc := "()V" } : Jvm.MethodName)) ∈ tb := tb_t 1173 (by decide +kernel) (by decide +kernel)
theorem tW_1175 : (Jvm.Cond.instanceMethod ({ cls := "KeepForgetModel", name := "readWhat", desc := "()V" } : Jvm.MethodName)) ∈ tb := tb_t 1175 (by decide +kernel) (by decide +kernel)
theorem tW_1176 : (Jvm.Cond.code ({ cls := "KeepForgetModel", name := "readWhat", desc := "()V" } : Jvm.MethodName) prog_12_method_27_code (1 : Nat) (Option.none : Option Jvm.ClassFile.FieldType)) ∈ tb := tb_t 1176 (by decide +kernel) (by decide +kernel)
theorem tW_1178 : (Jvm.Cond.methodLink "KeepForgetModel" (236 : Nat) ({ cls := "KeepForgetModel", name := "readNumbered", desc := "(II)I" } : Jvm.MethodName)) ∈ tb := tb_t 1178 (by decide +kernel) (by decide +kernel)
theorem tW_1180 : (Jvm.Cond.instanceMethod ({ cls := "KeepForgetModel", name := "readNumbered", desc := "(II)I" } : Jvm.MethodName)) ∈ tb := tb_t 1180 (by decide +kernel) (by decide +kernel)
theorem tW_1181 : (Jvm.Cond.code ({ cls := "KeepForgetModel", name := "readNumbered", desc := "(II)I" } : Jvm.MethodName) prog_12_method_25_code (4 : Nat) (Option.some Jvm.ClassFile.FieldType.int)) ∈ tb := tb_t 1181 (by decide +kernel) (by decide +kernel)
theorem tW_1182 : (Jvm.Cond.methodLink "KeepForgetModel" (228 : Nat) ({ cls := "KeepForgetModel", name := "numbered", desc := "(II)I" } : Jvm.MethodName)) ∈ tb := tb_t 1182 (by decide +kernel) (by decide +kernel)
theorem tW_1184 : (Jvm.Cond.instanceMethod ({ cls := "KeepForgetModel", name := "numbered", desc := "(II)I" } : Jvm.MethodName)) ∈ tb := tb_t 1184 (by decide +kernel) (by decide +kernel)
theorem tW_1185 : (Jvm.Cond.code ({ cls := "KeepForgetModel", name := "numbered", desc := "(II)I" } : Jvm.MethodName) prog_12_method_23_code (4 : Nat) (Option.some Jvm.ClassFile.FieldType.int)) ∈ tb := tb_t 1185 (by decide +kernel) (by decide +kernel)
theorem tW_1187 : (Jvm.Cond.methodLink "KeepForgetModel" (243 : Nat) ({ cls := "KeepForgetModel", name := "readNumber", desc := "()I" } : Jvm.MethodName)) ∈ tb := tb_t 1187 (by decide +kernel) (by decide +kernel)
theorem tW_1189 : (Jvm.Cond.instanceMethod ({ cls := "KeepForgetModel", name := "readNumber", desc := "()I" } : Jvm.MethodName)) ∈ tb := tb_t 1189 (by decide +kernel) (by decide +kernel)
theorem tW_1190 : (Jvm.Cond.code ({ cls := "KeepForgetModel", name := "readNumber", desc := "()I" } : Jvm.MethodName) prog_12_method_26_code (3 : Nat) (Option.some Jvm.ClassFile.FieldType.int)) ∈ tb := tb_t 1190 (by decide +kernel) (by decide +kernel)
theorem tW_1195 : (Jvm.Cond.methodLink "KeepForgetModel" (262 : Nat) ({ cls := "KeepForgetModel", name := "word", desc := "(Ljava/lang/String;)V" } : Jvm.MethodName)) ∈ tb := tb_t 1195 (by decide +kernel) (by decide +kernel)
theorem tW_1197 : (Jvm.Cond.instanceMethod ({ cls := "KeepForgetModel", name := "word", desc := "(Ljava/lang/String;)V" } : Jvm.MethodName)) ∈ tb := tb_t 1197 (by decide +kernel) (by decide +kernel)
theorem tW_1198 : (Jvm.Cond.code ({ cls := "KeepForgetModel", name := "word", desc := "(Ljava/lang/String;)V" } : Jvm.MethodName) prog_12_method_24_code (2 : Nat) (Option.none : Option Jvm.ClassFile.FieldType)) ∈ tb := tb_t 1198 (by decide +kernel) (by decide +kernel)
theorem tW_1199 : (Jvm.Cond.methodLink "KeepForgetModel" (266 : Nat) ({ cls := "KeepForgetModel", name := "readTests", desc := "()V" } : Jvm.MethodName)) ∈ tb := tb_t 1199 (by decide +kernel) (by decide +kernel)
theorem tW_1201 : (Jvm.Cond.instanceMethod ({ cls := "KeepForgetModel", name := "readTests", desc := "()V" } : Jvm.MethodName)) ∈ tb := tb_t 1201 (by decide +kernel) (by decide +kernel)
theorem tW_1202 : (Jvm.Cond.code ({ cls := "KeepForgetModel", name := "readTests", desc := "()V" } : Jvm.MethodName) prog_12_method_28_code (5 : Nat) (Option.none : Option Jvm.ClassFile.FieldType)) ∈ tb := tb_t 1202 (by decide +kernel) (by decide +kernel)
theorem tW_1206 : (Jvm.Cond.methodLink "KeepForgetLaw" (119 : Nat) ({ cls := "KeepForgetModel", name := "fault", desc := "()I" } : Jvm.MethodName)) ∈ tb := tb_t 1206 (by decide +kernel) (by decide +kernel)
theorem tW_1207 : (Jvm.Cond.instanceMethod ({ cls := "KeepForgetModel", name := "fault", desc := "()I" } : Jvm.MethodName)) ∈ tb := tb_t 1207 (by decide +kernel) (by decide +kernel)
theorem tW_1208 : (Jvm.Cond.selects "KeepForgetModel" ({ cls := "KeepForgetModel", name := "fault", desc := "()I" } : Jvm.MethodName) ({ cls := "KeepForgetModel", name := "fault", desc := "()I" } : Jvm.MethodName)) ∈ tb := tb_t 1208 (by decide +kernel) (by decide +kernel)
theorem tW_1209 : (Jvm.Cond.code ({ cls := "KeepForgetModel", name := "fault", desc := "()I" } : Jvm.MethodName) prog_12_method_31_code (1 : Nat) (Option.some Jvm.ClassFile.FieldType.int)) ∈ tb := tb_t 1209 (by decide +kernel) (by decide +kernel)
theorem tW_1210 : (Jvm.Cond.methodLink "KeepForgetLaw" (123 : Nat) ({ cls := "KeepForgetModel", name := "thing", desc := "(I)I" } : Jvm.MethodName)) ∈ tb := tb_t 1210 (by decide +kernel) (by decide +kernel)
theorem tW_1211 : (Jvm.Cond.instanceMethod ({ cls := "KeepForgetModel", name := "thing", desc := "(I)I" } : Jvm.MethodName)) ∈ tb := tb_t 1211 (by decide +kernel) (by decide +kernel)
theorem tW_1212 : (Jvm.Cond.selects "KeepForgetModel" ({ cls := "KeepForgetModel", name := "thing", desc := "(I)I" } : Jvm.MethodName) ({ cls := "KeepForgetModel", name := "thing", desc := "(I)I" } : Jvm.MethodName)) ∈ tb := tb_t 1212 (by decide +kernel) (by decide +kernel)
theorem tW_1213 : (Jvm.Cond.code ({ cls := "KeepForgetModel", name := "thing", desc := "(I)I" } : Jvm.MethodName) prog_12_method_35_code (2 : Nat) (Option.some Jvm.ClassFile.FieldType.int)) ∈ tb := tb_t 1213 (by decide +kernel) (by decide +kernel)
theorem tW_1214 : (Jvm.Cond.methodLink "KeepForgetLaw" (126 : Nat) ({ cls := "KeepForgetModel", name := "fact", desc := "(III)I" } : Jvm.MethodName)) ∈ tb := tb_t 1214 (by decide +kernel) (by decide +kernel)
theorem tW_1215 : (Jvm.Cond.instanceMethod ({ cls := "KeepForgetModel", name := "fact", desc := "(III)I" } : Jvm.MethodName)) ∈ tb := tb_t 1215 (by decide +kernel) (by decide +kernel)
theorem tW_1216 : (Jvm.Cond.selects "KeepForgetModel" ({ cls := "KeepForgetModel", name := "fact", desc := "(III)I" } : Jvm.MethodName) ({ cls := "KeepForgetModel", name := "fact", desc := "(III)I" } : Jvm.MethodName)) ∈ tb := tb_t 1216 (by decide +kernel) (by decide +kernel)
theorem tW_1217 : (Jvm.Cond.code ({ cls := "KeepForgetModel", name := "fact", desc := "(III)I" } : Jvm.MethodName) prog_12_method_36_code (5 : Nat) (Option.some Jvm.ClassFile.FieldType.int)) ∈ tb := tb_t 1217 (by decide +kernel) (by decide +kernel)
theorem tW_1218 : (Jvm.Cond.methodLink "KeepForgetModel" (281 : Nat) ({ cls := "KeepForgetModel", name := "isThing", desc := "(I)Z" } : Jvm.MethodName)) ∈ tb := tb_t 1218 (by decide +kernel) (by decide +kernel)
theorem tW_1220 : (Jvm.Cond.instanceMethod ({ cls := "KeepForgetModel", name := "isThing", desc := "(I)Z" } : Jvm.MethodName)) ∈ tb := tb_t 1220 (by decide +kernel) (by decide +kernel)
theorem tW_1221 : (Jvm.Cond.code ({ cls := "KeepForgetModel", name := "isThing", desc := "(I)Z" } : Jvm.MethodName) prog_12_method_32_code (2 : Nat) (Option.some Jvm.ClassFile.FieldType.boolean)) ∈ tb := tb_t 1221 (by decide +kernel) (by decide +kernel)
theorem tW_1222 : (Jvm.Cond.methodLink "KeepForgetLaw" (129 : Nat) ({ cls := "KeepForgetModel", name := "event", desc := "(III)I" } : Jvm.MethodName)) ∈ tb := tb_t 1222 (by decide +kernel) (by decide +kernel)
theorem tW_1223 : (Jvm.Cond.instanceMethod ({ cls := "KeepForgetModel", name := "event", desc := "(III)I" } : Jvm.MethodName)) ∈ tb := tb_t 1223 (by decide +kernel) (by decide +kernel)
theorem tW_1224 : (Jvm.Cond.selects "KeepForgetModel" ({ cls := "KeepForgetModel", name := "event", desc := "(III)I" } : Jvm.MethodName) ({ cls := "KeepForgetModel", name := "event", desc := "(III)I" } : Jvm.MethodName)) ∈ tb := tb_t 1224 (by decide +kernel) (by decide +kernel)
theorem tW_1225 : (Jvm.Cond.code ({ cls := "KeepForgetModel", name := "event", desc := "(III)I" } : Jvm.MethodName) prog_12_method_37_code (5 : Nat) (Option.some Jvm.ClassFile.FieldType.int)) ∈ tb := tb_t 1225 (by decide +kernel) (by decide +kernel)
theorem tW_1226 : (Jvm.Cond.methodLink "KeepForgetLaw" (132 : Nat) ({ cls := "KeepForgetModel", name := "copy", desc := "(III)Z" } : Jvm.MethodName)) ∈ tb := tb_t 1226 (by decide +kernel) (by decide +kernel)
theorem tW_1227 : (Jvm.Cond.instanceMethod ({ cls := "KeepForgetModel", name := "copy", desc := "(III)Z" } : Jvm.MethodName)) ∈ tb := tb_t 1227 (by decide +kernel) (by decide +kernel)
theorem tW_1228 : (Jvm.Cond.selects "KeepForgetModel" ({ cls := "KeepForgetModel", name := "copy", desc := "(III)Z" } : Jvm.MethodName) ({ cls := "KeepForgetModel", name := "copy", desc := "(III)Z" } : Jvm.MethodName)) ∈ tb := tb_t 1228 (by decide +kernel) (by decide +kernel)
theorem tW_1229 : (Jvm.Cond.code ({ cls := "KeepForgetModel", name := "copy", desc := "(III)Z" } : Jvm.MethodName) prog_12_method_47_code (5 : Nat) (Option.some Jvm.ClassFile.FieldType.boolean)) ∈ tb := tb_t 1229 (by decide +kernel) (by decide +kernel)
theorem tW_1230 : (Jvm.Cond.methodLink "KeepForgetModel" (330 : Nat) ({ cls := "KeepForgetModel", name := "isField", desc := "(I)Z" } : Jvm.MethodName)) ∈ tb := tb_t 1230 (by decide +kernel) (by decide +kernel)
theorem tW_1231 : (Jvm.Cond.static ({ cls := "KeepForgetModel", name := "isField", desc := "(I)Z" } : Jvm.MethodName)) ∈ tb := tb_t 1231 (by decide +kernel) (by decide +kernel)
theorem tW_1232 : (Jvm.Cond.code ({ cls := "KeepForgetModel", name := "isField", desc := "(I)Z" } : Jvm.MethodName) prog_12_method_33_code (1 : Nat) (Option.some Jvm.ClassFile.FieldType.boolean)) ∈ tb := tb_t 1232 (by decide +kernel) (by decide +kernel)
theorem tW_1233 : (Jvm.Cond.methodLink "KeepForgetModel" (333 : Nat) ({ cls := "KeepForgetModel", name := "isStore", desc := "(I)Z" } : Jvm.MethodName)) ∈ tb := tb_t 1233 (by decide +kernel) (by decide +kernel)
theorem tW_1234 : (Jvm.Cond.static ({ cls := "KeepForgetModel", name := "isStore", desc := "(I)Z" } : Jvm.MethodName)) ∈ tb := tb_t 1234 (by decide +kernel) (by decide +kernel)
theorem tW_1235 : (Jvm.Cond.code ({ cls := "KeepForgetModel", name := "isStore", desc := "(I)Z" } : Jvm.MethodName) prog_12_method_34_code (1 : Nat) (Option.some Jvm.ClassFile.FieldType.boolean)) ∈ tb := tb_t 1235 (by decide +kernel) (by decide +kernel)
theorem tW_1236 : (Jvm.Cond.methodLink "KeepForgetModel" (336 : Nat) ({ cls := "KeepForgetModel", name := "placesOf", desc := "(II)I" } : Jvm.MethodName)) ∈ tb := tb_t 1236 (by decide +kernel) (by decide +kernel)
theorem tW_1238 : (Jvm.Cond.instanceMethod ({ cls := "KeepForgetModel", name := "placesOf", desc := "(II)I" } : Jvm.MethodName)) ∈ tb := tb_t 1238 (by decide +kernel) (by decide +kernel)
theorem tW_1239 : (Jvm.Cond.code ({ cls := "KeepForgetModel", name := "placesOf", desc := "(II)I" } : Jvm.MethodName) prog_12_method_46_code (6 : Nat) (Option.some Jvm.ClassFile.FieldType.int)) ∈ tb := tb_t 1239 (by decide +kernel) (by decide +kernel)
theorem tW_1240 : (Jvm.Cond.methodLink "KeepForgetModel" (316 : Nat) ({ cls := "KeepForgetModel", name := "force", desc := "(I)I" } : Jvm.MethodName)) ∈ tb := tb_t 1240 (by decide +kernel) (by decide +kernel)
theorem tW_1242 : (Jvm.Cond.instanceMethod ({ cls := "KeepForgetModel", name := "force", desc := "(I)I" } : Jvm.MethodName)) ∈ tb := tb_t 1242 (by decide +kernel) (by decide +kernel)
theorem tW_1243 : (Jvm.Cond.code ({ cls := "KeepForgetModel", name := "force", desc := "(I)I" } : Jvm.MethodName) prog_12_method_38_code (4 : Nat) (Option.some Jvm.ClassFile.FieldType.int)) ∈ tb := tb_t 1243 (by decide +kernel) (by decide +kernel)
theorem tW_1244 : (Jvm.Cond.methodLink "KeepForgetModel" (305 : Nat) ({ cls := "KeepForgetModel", name := "isFor", desc := "(III)Z" } : Jvm.MethodName)) ∈ tb := tb_t 1244 (by decide +kernel) (by decide +kernel)
theorem tW_1246 : (Jvm.Cond.instanceMethod ({ cls := "KeepForgetModel", name := "isFor", desc := "(III)Z" } : Jvm.MethodName)) ∈ tb := tb_t 1246 (by decide +kernel) (by decide +kernel)
theorem tW_1247 : (Jvm.Cond.code ({ cls := "KeepForgetModel", name := "isFor", desc := "(III)Z" } : Jvm.MethodName) prog_12_method_39_code (8 : Nat) (Option.some Jvm.ClassFile.FieldType.boolean)) ∈ tb := tb_t 1247 (by decide +kernel) (by decide +kernel)
theorem tW_1248 : (Jvm.Cond.methodLink "KeepForgetLaw" (135 : Nat) ({ cls := "KeepForgetModel", name := "copies", desc := "(II)I" } : Jvm.MethodName)) ∈ tb := tb_t 1248 (by decide +kernel) (by decide +kernel)
theorem tW_1249 : (Jvm.Cond.instanceMethod ({ cls := "KeepForgetModel", name := "copies", desc := "(II)I" } : Jvm.MethodName)) ∈ tb := tb_t 1249 (by decide +kernel) (by decide +kernel)
theorem tW_1250 : (Jvm.Cond.selects "KeepForgetModel" ({ cls := "KeepForgetModel", name := "copies", desc := "(II)I" } : Jvm.MethodName) ({ cls := "KeepForgetModel", name := "copies", desc := "(II)I" } : Jvm.MethodName)) ∈ tb := tb_t 1250 (by decide +kernel) (by decide +kernel)
theorem tW_1251 : (Jvm.Cond.code ({ cls := "KeepForgetModel", name := "copies", desc := "(II)I" } : Jvm.MethodName) prog_12_method_48_code (3 : Nat) (Option.some Jvm.ClassFile.FieldType.int)) ∈ tb := tb_t 1251 (by decide +kernel) (by decide +kernel)
theorem tW_1252 : (Jvm.Cond.methodLink "KeepForgetLaw" (139 : Nat) ({ cls := "KeepForgetModel", name := "store", desc := "(III)V" } : Jvm.MethodName)) ∈ tb := tb_t 1252 (by decide +kernel) (by decide +kernel)
theorem tW_1253 : (Jvm.Cond.instanceMethod ({ cls := "KeepForgetModel", name := "store", desc := "(III)V" } : Jvm.MethodName)) ∈ tb := tb_t 1253 (by decide +kernel) (by decide +kernel)
theorem tW_1254 : (Jvm.Cond.selects "KeepForgetModel" ({ cls := "KeepForgetModel", name := "store", desc := "(III)V" } : Jvm.MethodName) ({ cls := "KeepForgetModel", name := "store", desc := "(III)V" } : Jvm.MethodName)) ∈ tb := tb_t 1254 (by decide +kernel) (by decide +kernel)
theorem tW_1255 : (Jvm.Cond.code ({ cls := "KeepForgetModel", name := "store", desc := "(III)V" } : Jvm.MethodName) prog_12_method_49_code (4 : Nat) (Option.none : Option Jvm.ClassFile.FieldType)) ∈ tb := tb_t 1255 (by decide +kernel) (by decide +kernel)
theorem tW_1256 : (Jvm.Cond.methodLink "KeepForgetLaw" (142 : Nat) ({ cls := "KeepForgetModel", name := "hold", desc := "(II)I" } : Jvm.MethodName)) ∈ tb := tb_t 1256 (by decide +kernel) (by decide +kernel)
theorem tW_1257 : (Jvm.Cond.instanceMethod ({ cls := "KeepForgetModel", name := "hold", desc := "(II)I" } : Jvm.MethodName)) ∈ tb := tb_t 1257 (by decide +kernel) (by decide +kernel)
theorem tW_1258 : (Jvm.Cond.selects "KeepForgetModel" ({ cls := "KeepForgetModel", name := "hold", desc := "(II)I" } : Jvm.MethodName) ({ cls := "KeepForgetModel", name := "hold", desc := "(II)I" } : Jvm.MethodName)) ∈ tb := tb_t 1258 (by decide +kernel) (by decide +kernel)
theorem tW_1259 : (Jvm.Cond.code ({ cls := "KeepForgetModel", name := "hold", desc := "(II)I" } : Jvm.MethodName) prog_12_method_50_code (3 : Nat) (Option.some Jvm.ClassFile.FieldType.int)) ∈ tb := tb_t 1259 (by decide +kernel) (by decide +kernel)
theorem tW_1260 : (Jvm.Cond.methodLink "KeepForgetLaw" (146 : Nat) ({ cls := "KeepForgetModel", name := "lift", desc := "(I)Z" } : Jvm.MethodName)) ∈ tb := tb_t 1260 (by decide +kernel) (by decide +kernel)
theorem tW_1261 : (Jvm.Cond.instanceMethod ({ cls := "KeepForgetModel", name := "lift", desc := "(I)Z" } : Jvm.MethodName)) ∈ tb := tb_t 1261 (by decide +kernel) (by decide +kernel)
theorem tW_1262 : (Jvm.Cond.selects "KeepForgetModel" ({ cls := "KeepForgetModel", name := "lift", desc := "(I)Z" } : Jvm.MethodName) ({ cls := "KeepForgetModel", name := "lift", desc := "(I)Z" } : Jvm.MethodName)) ∈ tb := tb_t 1262 (by decide +kernel) (by decide +kernel)
theorem tW_1263 : (Jvm.Cond.code ({ cls := "KeepForgetModel", name := "lift", desc := "(I)Z" } : Jvm.MethodName) prog_12_method_51_code (4 : Nat) (Option.some Jvm.ClassFile.FieldType.boolean)) ∈ tb := tb_t 1263 (by decide +kernel) (by decide +kernel)
theorem tW_1264 : (Jvm.Cond.methodLink "KeepForgetLaw" (149 : Nat) ({ cls := "KeepForgetModel", name := "wish", desc := "(I)I" } : Jvm.MethodName)) ∈ tb := tb_t 1264 (by decide +kernel) (by decide +kernel)
theorem tW_1265 : (Jvm.Cond.instanceMethod ({ cls := "KeepForgetModel", name := "wish", desc := "(I)I" } : Jvm.MethodName)) ∈ tb := tb_t 1265 (by decide +kernel) (by decide +kernel)
theorem tW_1266 : (Jvm.Cond.selects "KeepForgetModel" ({ cls := "KeepForgetModel", name := "wish", desc := "(I)I" } : Jvm.MethodName) ({ cls := "KeepForgetModel", name := "wish", desc := "(I)I" } : Jvm.MethodName)) ∈ tb := tb_t 1266 (by decide +kernel) (by decide +kernel)
theorem tW_1267 : (Jvm.Cond.code ({ cls := "KeepForgetModel", name := "wish", desc := "(I)I" } : Jvm.MethodName) prog_12_method_52_code (4 : Nat) (Option.some Jvm.ClassFile.FieldType.int)) ∈ tb := tb_t 1267 (by decide +kernel) (by decide +kernel)
theorem tW_1268 : (Jvm.Cond.methodLink "KeepForgetModel" (342 : Nat) ({ cls := "KeepForgetModel", name := "isDue", desc := "(III)Z" } : Jvm.MethodName)) ∈ tb := tb_t 1268 (by decide +kernel) (by decide +kernel)
theorem tW_1270 : (Jvm.Cond.instanceMethod ({ cls := "KeepForgetModel", name := "isDue", desc := "(III)Z" } : Jvm.MethodName)) ∈ tb := tb_t 1270 (by decide +kernel) (by decide +kernel)
theorem tW_1271 : (Jvm.Cond.code ({ cls := "KeepForgetModel", name := "isDue", desc := "(III)Z" } : Jvm.MethodName) prog_12_method_45_code (4 : Nat) (Option.some Jvm.ClassFile.FieldType.boolean)) ∈ tb := tb_t 1271 (by decide +kernel) (by decide +kernel)
theorem tW_1272 : (Jvm.Cond.methodLink "KeepForgetModel" (322 : Nat) ({ cls := "KeepForgetModel", name := "know", desc := "(II)V" } : Jvm.MethodName)) ∈ tb := tb_t 1272 (by decide +kernel) (by decide +kernel)
theorem tW_1274 : (Jvm.Cond.instanceMethod ({ cls := "KeepForgetModel", name := "know", desc := "(II)V" } : Jvm.MethodName)) ∈ tb := tb_t 1274 (by decide +kernel) (by decide +kernel)
theorem tW_1275 : (Jvm.Cond.code ({ cls := "KeepForgetModel", name := "know", desc := "(II)V" } : Jvm.MethodName) prog_12_method_44_code (5 : Nat) (Option.none : Option Jvm.ClassFile.FieldType)) ∈ tb := tb_t 1275 (by decide +kernel) (by decide +kernel)
theorem tW_1276 : (Jvm.Cond.methodLink "KeepForgetModel" (319 : Nat) ({ cls := "KeepForgetModel", name := "tell", desc := "(III)V" } : Jvm.MethodName)) ∈ tb := tb_t 1276 (by decide +kernel) (by decide +kernel)
theorem tW_1278 : (Jvm.Cond.instanceMethod ({ cls := "KeepForgetModel", name := "tell", desc := "(III)V" } : Jvm.MethodName)) ∈ tb := tb_t 1278 (by decide +kernel) (by decide +kernel)
theorem tW_1279 : (Jvm.Cond.code ({ cls := "KeepForgetModel", name := "tell", desc := "(III)V" } : Jvm.MethodName) prog_12_method_42_code (8 : Nat) (Option.none : Option Jvm.ClassFile.FieldType)) ∈ tb := tb_t 1279 (by decide +kernel) (by decide +kernel)
theorem tW_1280 : (Jvm.Cond.methodLink "KeepForgetModel" (293 : Nat) ({ cls := "java/lang/Math", name := "max", desc := "(II)I" } : Jvm.MethodName)) ∈ tb := tb_t 1280 (by decide +kernel) (by decide +kernel)
theorem tW_1281 : (Jvm.Cond.methodLink "KeepForgetModel" (309 : Nat) ({ cls := "KeepForgetModel", name := "bid", desc := "(III)V" } : Jvm.MethodName)) ∈ tb := tb_t 1281 (by decide +kernel) (by decide +kernel)
theorem tW_1283 : (Jvm.Cond.instanceMethod ({ cls := "KeepForgetModel", name := "bid", desc := "(III)V" } : Jvm.MethodName)) ∈ tb := tb_t 1283 (by decide +kernel) (by decide +kernel)
theorem tW_1284 : (Jvm.Cond.code ({ cls := "KeepForgetModel", name := "bid", desc := "(III)V" } : Jvm.MethodName) prog_12_method_41_code (8 : Nat) (Option.none : Option Jvm.ClassFile.FieldType)) ∈ tb := tb_t 1284 (by decide +kernel) (by decide +kernel)
theorem tW_1285 : (Jvm.Cond.methodLink "KeepForgetModel" (290 : Nat) ({ cls := "KeepForgetModel", name := "until", desc := "(II)I" } : Jvm.MethodName)) ∈ tb := tb_t 1285 (by decide +kernel) (by decide +kernel)
theorem tW_1287 : (Jvm.Cond.instanceMethod ({ cls := "KeepForgetModel", name := "until", desc := "(II)I" } : Jvm.MethodName)) ∈ tb := tb_t 1287 (by decide +kernel) (by decide +kernel)
theorem tW_1288 : (Jvm.Cond.code ({ cls := "KeepForgetModel", name := "until", desc := "(II)I" } : Jvm.MethodName) prog_12_method_40_code (4 : Nat) (Option.some Jvm.ClassFile.FieldType.int)) ∈ tb := tb_t 1288 (by decide +kernel) (by decide +kernel)
theorem tW_1289 : (Jvm.Cond.methodLink "KeepForgetModel" (326 : Nat) ({ cls := "KeepForgetModel", name := "isHeld", desc := "(II)Z" } : Jvm.MethodName)) ∈ tb := tb_t 1289 (by decide +kernel) (by decide +kernel)
theorem tW_1291 : (Jvm.Cond.instanceMethod ({ cls := "KeepForgetModel", name := "isHeld", desc := "(II)Z" } : Jvm.MethodName)) ∈ tb := tb_t 1291 (by decide +kernel) (by decide +kernel)
theorem tW_1292 : (Jvm.Cond.code ({ cls := "KeepForgetModel", name := "isHeld", desc := "(II)Z" } : Jvm.MethodName) prog_12_method_43_code (3 : Nat) (Option.some Jvm.ClassFile.FieldType.boolean)) ∈ tb := tb_t 1292 (by decide +kernel) (by decide +kernel)
theorem tW_1293 : (Jvm.Cond.methodLink "KeepForgetLaw" (153 : Nat) ({ cls := "KeepForgetModel", name := "span", desc := "(IIII)I" } : Jvm.MethodName)) ∈ tb := tb_t 1293 (by decide +kernel) (by decide +kernel)
theorem tW_1294 : (Jvm.Cond.instanceMethod ({ cls := "KeepForgetModel", name := "span", desc := "(IIII)I" } : Jvm.MethodName)) ∈ tb := tb_t 1294 (by decide +kernel) (by decide +kernel)
theorem tW_1295 : (Jvm.Cond.selects "KeepForgetModel" ({ cls := "KeepForgetModel", name := "span", desc := "(IIII)I" } : Jvm.MethodName) ({ cls := "KeepForgetModel", name := "span", desc := "(IIII)I" } : Jvm.MethodName)) ∈ tb := tb_t 1295 (by decide +kernel) (by decide +kernel)
theorem tW_1296 : (Jvm.Cond.code ({ cls := "KeepForgetModel", name := "span", desc := "(IIII)I" } : Jvm.MethodName) prog_12_method_54_code (5 : Nat) (Option.some Jvm.ClassFile.FieldType.int)) ∈ tb := tb_t 1296 (by decide +kernel) (by decide +kernel)
theorem tW_1297 : (Jvm.Cond.methodLink "KeepForgetModel" (345 : Nat) ({ cls := "KeepForgetModel", name := "isSet", desc := "(I)Z" } : Jvm.MethodName)) ∈ tb := tb_t 1297 (by decide +kernel) (by decide +kernel)
theorem tW_1299 : (Jvm.Cond.instanceMethod ({ cls := "KeepForgetModel", name := "isSet", desc := "(I)Z" } : Jvm.MethodName)) ∈ tb := tb_t 1299 (by decide +kernel) (by decide +kernel)
theorem tW_1300 : (Jvm.Cond.code ({ cls := "KeepForgetModel", name := "isSet", desc := "(I)Z" } : Jvm.MethodName) prog_12_method_53_code (2 : Nat) (Option.some Jvm.ClassFile.FieldType.boolean)) ∈ tb := tb_t 1300 (by decide +kernel) (by decide +kernel)
theorem tW_1301 : (Jvm.Cond.methodLink "KeepForgetLaw" (156 : Nat) ({ cls := "KeepForgetModel", name := "lost", desc := "(IIII)I" } : Jvm.MethodName)) ∈ tb := tb_t 1301 (by decide +kernel) (by decide +kernel)
theorem tW_1302 : (Jvm.Cond.instanceMethod ({ cls := "KeepForgetModel", name := "lost", desc := "(IIII)I" } : Jvm.MethodName)) ∈ tb := tb_t 1302 (by decide +kernel) (by decide +kernel)
theorem tW_1303 : (Jvm.Cond.selects "KeepForgetModel" ({ cls := "KeepForgetModel", name := "lost", desc := "(IIII)I" } : Jvm.MethodName) ({ cls := "KeepForgetModel", name := "lost", desc := "(IIII)I" } : Jvm.MethodName)) ∈ tb := tb_t 1303 (by decide +kernel) (by decide +kernel)
theorem tW_1304 : (Jvm.Cond.code ({ cls := "KeepForgetModel", name := "lost", desc := "(IIII)I" } : Jvm.MethodName) prog_12_method_55_code (5 : Nat) (Option.some Jvm.ClassFile.FieldType.int)) ∈ tb := tb_t 1304 (by decide +kernel) (by decide +kernel)
theorem tW_1305 : (Jvm.Cond.methodLink "KeepForgetLaw" (159 : Nat) ({ cls := "KeepForgetModel", name := "why", desc := "(II)I" } : Jvm.MethodName)) ∈ tb := tb_t 1305 (by decide +kernel) (by decide +kernel)
theorem tW_1306 : (Jvm.Cond.instanceMethod ({ cls := "KeepForgetModel", name := "why", desc := "(II)I" } : Jvm.MethodName)) ∈ tb := tb_t 1306 (by decide +kernel) (by decide +kernel)
theorem tW_1307 : (Jvm.Cond.selects "KeepForgetModel" ({ cls := "KeepForgetModel", name := "why", desc := "(II)I" } : Jvm.MethodName) ({ cls := "KeepForgetModel", name := "why", desc := "(II)I" } : Jvm.MethodName)) ∈ tb := tb_t 1307 (by decide +kernel) (by decide +kernel)
theorem tW_1308 : (Jvm.Cond.code ({ cls := "KeepForgetModel", name := "why", desc := "(II)I" } : Jvm.MethodName) prog_12_method_56_code (3 : Nat) (Option.some Jvm.ClassFile.FieldType.int)) ∈ tb := tb_t 1308 (by decide +kernel) (by decide +kernel)
theorem tW_1309 : (Jvm.Cond.methodLink "KeepForgetLaw" (162 : Nat) ({ cls := "KeepForgetModel", name := "places", desc := "(II)I" } : Jvm.MethodName)) ∈ tb := tb_t 1309 (by decide +kernel) (by decide +kernel)
theorem tW_1310 : (Jvm.Cond.instanceMethod ({ cls := "KeepForgetModel", name := "places", desc := "(II)I" } : Jvm.MethodName)) ∈ tb := tb_t 1310 (by decide +kernel) (by decide +kernel)
theorem tW_1311 : (Jvm.Cond.selects "KeepForgetModel" ({ cls := "KeepForgetModel", name := "places", desc := "(II)I" } : Jvm.MethodName) ({ cls := "KeepForgetModel", name := "places", desc := "(II)I" } : Jvm.MethodName)) ∈ tb := tb_t 1311 (by decide +kernel) (by decide +kernel)
theorem tW_1312 : (Jvm.Cond.code ({ cls := "KeepForgetModel", name := "places", desc := "(II)I" } : Jvm.MethodName) prog_12_method_57_code (3 : Nat) (Option.some Jvm.ClassFile.FieldType.int)) ∈ tb := tb_t 1312 (by decide +kernel) (by decide +kernel)
theorem tW_1313 : (Jvm.Cond.methodLink "KeepForgetLaw" (166 : Nat) ({ cls := "KeepForgetModel", name := "misplaced", desc := "()I" } : Jvm.MethodName)) ∈ tb := tb_t 1313 (by decide +kernel) (by decide +kernel)
theorem tW_1314 : (Jvm.Cond.instanceMethod ({ cls := "KeepForgetModel", name := "misplaced", desc := "()I" } : Jvm.MethodName)) ∈ tb := tb_t 1314 (by decide +kernel) (by decide +kernel)
theorem tW_1315 : (Jvm.Cond.selects "KeepForgetModel" ({ cls := "KeepForgetModel", name := "misplaced", desc := "()I" } : Jvm.MethodName) ({ cls := "KeepForgetModel", name := "misplaced", desc := "()I" } : Jvm.MethodName)) ∈ tb := tb_t 1315 (by decide +kernel) (by decide +kernel)
theorem tW_1316 : (Jvm.Cond.code ({ cls := "KeepForgetModel", name := "misplaced", desc := "()I" } : Jvm.MethodName) prog_12_method_59_code (4 : Nat) (Option.some Jvm.ClassFile.FieldType.int)) ∈ tb := tb_t 1316 (by decide +kernel) (by decide +kernel)
theorem tW_1317 : (Jvm.Cond.methodLink "KeepForgetModel" (348 : Nat) ({ cls := "KeepForgetModel", name := "ones", desc := "(I)I" } : Jvm.MethodName)) ∈ tb := tb_t 1317 (by decide +kernel) (by decide +kernel)
theorem tW_1318 : (Jvm.Cond.static ({ cls := "KeepForgetModel", name := "ones", desc := "(I)I" } : Jvm.MethodName)) ∈ tb := tb_t 1318 (by decide +kernel) (by decide +kernel)
theorem tW_1319 : (Jvm.Cond.code ({ cls := "KeepForgetModel", name := "ones", desc := "(I)I" } : Jvm.MethodName) prog_12_method_58_code (3 : Nat) (Option.some Jvm.ClassFile.FieldType.int)) ∈ tb := tb_t 1319 (by decide +kernel) (by decide +kernel)
theorem tW_1320 : (Jvm.Cond.methodLink "KeepForgetLaw" (169 : Nat) ({ cls := "KeepForgetModel", name := "planned", desc := "(III)I" } : Jvm.MethodName)) ∈ tb := tb_t 1320 (by decide +kernel) (by decide +kernel)
theorem tW_1321 : (Jvm.Cond.instanceMethod ({ cls := "KeepForgetModel", name := "planned", desc := "(III)I" } : Jvm.MethodName)) ∈ tb := tb_t 1321 (by decide +kernel) (by decide +kernel)
theorem tW_1322 : (Jvm.Cond.selects "KeepForgetModel" ({ cls := "KeepForgetModel", name := "planned", desc := "(III)I" } : Jvm.MethodName) ({ cls := "KeepForgetModel", name := "planned", desc := "(III)I" } : Jvm.MethodName)) ∈ tb := tb_t 1322 (by decide +kernel) (by decide +kernel)
theorem tW_1323 : (Jvm.Cond.code ({ cls := "KeepForgetModel", name := "planned", desc := "(III)I" } : Jvm.MethodName) prog_12_method_60_code (5 : Nat) (Option.some Jvm.ClassFile.FieldType.int)) ∈ tb := tb_t 1323 (by decide +kernel) (by decide +kernel)
theorem tW_1324 : (Jvm.Cond.methodLink "KeepForgetLaw" (172 : Nat) ({ cls := "KeepForgetModel", name := "differ", desc := "(II)I" } : Jvm.MethodName)) ∈ tb := tb_t 1324 (by decide +kernel) (by decide +kernel)
theorem tW_1325 : (Jvm.Cond.instanceMethod ({ cls := "KeepForgetModel", name := "differ", desc := "(II)I" } : Jvm.MethodName)) ∈ tb := tb_t 1325 (by decide +kernel) (by decide +kernel)
theorem tW_1326 : (Jvm.Cond.selects "KeepForgetModel" ({ cls := "KeepForgetModel", name := "differ", desc := "(II)I" } : Jvm.MethodName) ({ cls := "KeepForgetModel", name := "differ", desc := "(II)I" } : Jvm.MethodName)) ∈ tb := tb_t 1326 (by decide +kernel) (by decide +kernel)
theorem tW_1327 : (Jvm.Cond.code ({ cls := "KeepForgetModel", name := "differ", desc := "(II)I" } : Jvm.MethodName) prog_12_method_61_code (8 : Nat) (Option.some Jvm.ClassFile.FieldType.int)) ∈ tb := tb_t 1327 (by decide +kernel) (by decide +kernel)
theorem tW_1328 : (Jvm.Cond.methodLink "KeepForgetLaw" (175 : Nat) ({ cls := "KeepForgetModel", name := "bites", desc := "(II)Z" } : Jvm.MethodName)) ∈ tb := tb_t 1328 (by decide +kernel) (by decide +kernel)
theorem tW_1329 : (Jvm.Cond.instanceMethod ({ cls := "KeepForgetModel", name := "bites", desc := "(II)Z" } : Jvm.MethodName)) ∈ tb := tb_t 1329 (by decide +kernel) (by decide +kernel)
theorem tW_1330 : (Jvm.Cond.selects "KeepForgetModel" ({ cls := "KeepForgetModel", name := "bites", desc := "(II)Z" } : Jvm.MethodName) ({ cls := "KeepForgetModel", name := "bites", desc := "(II)Z" } : Jvm.MethodName)) ∈ tb := tb_t 1330 (by decide +kernel) (by decide +kernel)
theorem tW_1331 : (Jvm.Cond.code ({ cls := "KeepForgetModel", name := "bites", desc := "(II)Z" } : Jvm.MethodName) prog_12_method_62_code (6 : Nat) (Option.some Jvm.ClassFile.FieldType.boolean)) ∈ tb := tb_t 1331 (by decide +kernel) (by decide +kernel)
theorem tW_1332 : (Jvm.Cond.methodLink "KeepForgetLaw" (178 : Nat) ({ cls := "KeepForgetModel", name := "days", desc := "(I)I" } : Jvm.MethodName)) ∈ tb := tb_t 1332 (by decide +kernel) (by decide +kernel)
theorem tW_1333 : (Jvm.Cond.instanceMethod ({ cls := "KeepForgetModel", name := "days", desc := "(I)I" } : Jvm.MethodName)) ∈ tb := tb_t 1333 (by decide +kernel) (by decide +kernel)
theorem tW_1334 : (Jvm.Cond.selects "KeepForgetModel" ({ cls := "KeepForgetModel", name := "days", desc := "(I)I" } : Jvm.MethodName) ({ cls := "KeepForgetModel", name := "days", desc := "(I)I" } : Jvm.MethodName)) ∈ tb := tb_t 1334 (by decide +kernel) (by decide +kernel)
theorem tW_1335 : (Jvm.Cond.code ({ cls := "KeepForgetModel", name := "days", desc := "(I)I" } : Jvm.MethodName) prog_12_method_64_code (4 : Nat) (Option.some Jvm.ClassFile.FieldType.int)) ∈ tb := tb_t 1335 (by decide +kernel) (by decide +kernel)
theorem tW_1336 : (Jvm.Cond.methodLink "KeepForgetModel" (357 : Nat) ({ cls := "KeepForgetModel", name := "sweep", desc := "(I)V" } : Jvm.MethodName)) ∈ tb := tb_t 1336 (by decide +kernel) (by decide +kernel)
theorem tW_1338 : (Jvm.Cond.instanceMethod ({ cls := "KeepForgetModel", name := "sweep", desc := "(I)V" } : Jvm.MethodName)) ∈ tb := tb_t 1338 (by decide +kernel) (by decide +kernel)
theorem tW_1339 : (Jvm.Cond.code ({ cls := "KeepForgetModel", name := "sweep", desc := "(I)V" } : Jvm.MethodName) prog_12_method_63_code (4 : Nat) (Option.none : Option Jvm.ClassFile.FieldType)) ∈ tb := tb_t 1339 (by decide +kernel) (by decide +kernel)
theorem tW_1340 : (Jvm.Cond.methodLink "KeepForgetLaw" (181 : Nat) ({ cls := "KeepForgetModel", name := "entry", desc := "(II)I" } : Jvm.MethodName)) ∈ tb := tb_t 1340 (by decide +kernel) (by decide +kernel)
theorem tW_1341 : (Jvm.Cond.instanceMethod ({ cls := "KeepForgetModel", name := "entry", desc := "(II)I" } : Jvm.MethodName)) ∈ tb := tb_t 1341 (by decide +kernel) (by decide +kernel)
theorem tW_1342 : (Jvm.Cond.selects "KeepForgetModel" ({ cls := "KeepForgetModel", name := "entry", desc := "(II)I" } : Jvm.MethodName) ({ cls := "KeepForgetModel", name := "entry", desc := "(II)I" } : Jvm.MethodName)) ∈ tb := tb_t 1342 (by decide +kernel) (by decide +kernel)
theorem tW_1343 : (Jvm.Cond.code ({ cls := "KeepForgetModel", name := "entry", desc := "(II)I" } : Jvm.MethodName) prog_12_method_65_code (3 : Nat) (Option.some Jvm.ClassFile.FieldType.int)) ∈ tb := tb_t 1343 (by decide +kernel) (by decide +kernel)
theorem tW_1344 : (Jvm.Cond.methodLink "KeepForgetLaw" (184 : Nat) ({ cls := "KeepForgetModel", name := "count", desc := "(I)I" } : Jvm.MethodName)) ∈ tb := tb_t 1344 (by decide +kernel) (by decide +kernel)
theorem tW_1345 : (Jvm.Cond.instanceMethod ({ cls := "KeepForgetModel", name := "count", desc := "(I)I" } : Jvm.MethodName)) ∈ tb := tb_t 1345 (by decide +kernel) (by decide +kernel)
theorem tW_1346 : (Jvm.Cond.selects "KeepForgetModel" ({ cls := "KeepForgetModel", name := "count", desc := "(I)I" } : Jvm.MethodName) ({ cls := "KeepForgetModel", name := "count", desc := "(I)I" } : Jvm.MethodName)) ∈ tb := tb_t 1346 (by decide +kernel) (by decide +kernel)
theorem tW_1347 : (Jvm.Cond.code ({ cls := "KeepForgetModel", name := "count", desc := "(I)I" } : Jvm.MethodName) prog_12_method_66_code (5 : Nat) (Option.some Jvm.ClassFile.FieldType.int)) ∈ tb := tb_t 1347 (by decide +kernel) (by decide +kernel)
theorem tW_1348 : (Jvm.Cond.arrayClass Jvm.ClassFile.FieldType.long) ∈ tb := tb_t 1348 (by decide +kernel) (by decide +kernel)
theorem tW_1364 : (Jvm.Cond.fieldLink "java/lang/String" (9 : Nat) "java/lang/String" "value" "[B") ∈ tb := tb_t 1364 (by decide +kernel) (by decide +kernel)
theorem tW_1365 : (Jvm.Cond.fieldLink "java/lang/String" (15 : Nat) "java/lang/String" "coder" "B") ∈ tb := tb_t 1365 (by decide +kernel) (by decide +kernel)
theorem tP_0 : Cond.selects "KeepForget" ⟨"KeepForget", "putOnTape", "(I)V"⟩ ⟨"KeepForget", "putOnTape", "(I)V"⟩ ∈ tb := tb_p (q := (⟨"KeepForget", "putOnTape", "(I)V"⟩, 13)) 0 (by decide +kernel) (by decide +kernel)
theorem tP_1 : Cond.selects "KeepForget" ⟨"KeepForget", "placesOf", "(LKeepForget$Thing;I)I"⟩ ⟨"KeepForget", "placesOf", "(LKeepForget$Thing;I)I"⟩ ∈ tb := tb_p (q := (⟨"KeepForget", "placesOf", "(LKeepForget$Thing;I)I"⟩, 13)) 1 (by decide +kernel) (by decide +kernel)
theorem tP_2 : Cond.selects "KeepForget" ⟨"KeepForget", "setInForce", "()LKeepForget$RuleSet;"⟩ ⟨"KeepForget", "setInForce", "()LKeepForget$RuleSet;"⟩ ∈ tb := tb_p (q := (⟨"KeepForget", "setInForce", "()LKeepForget$RuleSet;"⟩, 13)) 2 (by decide +kernel) (by decide +kernel)
theorem tP_3 : Cond.selects "KeepForget" ⟨"KeepForget", "numberInForce", "()I"⟩ ⟨"KeepForget", "numberInForce", "()I"⟩ ∈ tb := tb_p (q := (⟨"KeepForget", "numberInForce", "()I"⟩, 13)) 3 (by decide +kernel) (by decide +kernel)
theorem tP_4 : Cond.selects "java/lang/Throwable" ⟨"java/lang/Throwable", "fillInStackTrace", "(I)Ljava/lang/Throwable;"⟩ ⟨"java/lang/Throwable", "fillInStackTrace", "(I)Ljava/lang/Throwable;"⟩ ∈ tb := tb_p (q := (⟨"java/lang/Throwable", "fillInStackTrace", "(I)Ljava/lang/Throwable;"⟩, 6)) 4 (by decide +kernel) (by decide +kernel)
theorem tP_5 : Cond.selects "KeepForget$RuleReader" ⟨"KeepForget$RuleReader", "next", "()V"⟩ ⟨"KeepForget$RuleReader", "next", "()V"⟩ ∈ tb := tb_p (q := (⟨"KeepForget$RuleReader", "next", "()V"⟩, 7)) 5 (by decide +kernel) (by decide +kernel)
theorem tP_6 : Cond.selects "KeepForget$RuleReader" ⟨"KeepForget$RuleReader", "readRule", "(LKeepForget$RuleSet;)Z"⟩ ⟨"KeepForget$RuleReader", "readRule", "(LKeepForget$RuleSet;)Z"⟩ ∈ tb := tb_p (q := (⟨"KeepForget$RuleReader", "readRule", "(LKeepForget$RuleSet;)Z"⟩, 7)) 6 (by decide +kernel) (by decide +kernel)
theorem tP_7 : Cond.selects "KeepForget$RuleReader" ⟨"KeepForget$RuleReader", "ruleSort", "()I"⟩ ⟨"KeepForget$RuleReader", "ruleSort", "()I"⟩ ∈ tb := tb_p (q := (⟨"KeepForget$RuleReader", "ruleSort", "()I"⟩, 7)) 7 (by decide +kernel) (by decide +kernel)
theorem tP_8 : Cond.selects "KeepForget$RuleReader" ⟨"KeepForget$RuleReader", "isWord", "(Ljava/lang/String;)Z"⟩ ⟨"KeepForget$RuleReader", "isWord", "(Ljava/lang/String;)Z"⟩ ∈ tb := tb_p (q := (⟨"KeepForget$RuleReader", "isWord", "(Ljava/lang/String;)Z"⟩, 7)) 8 (by decide +kernel) (by decide +kernel)
theorem tP_9 : Cond.selects "KeepForget$RuleReader" ⟨"KeepForget$RuleReader", "fail", "(I)Z"⟩ ⟨"KeepForget$RuleReader", "fail", "(I)Z"⟩ ∈ tb := tb_p (q := (⟨"KeepForget$RuleReader", "fail", "(I)Z"⟩, 7)) 9 (by decide +kernel) (by decide +kernel)
theorem tP_10 : Cond.selects "KeepForget$RuleReader" ⟨"KeepForget$RuleReader", "readWhat", "(LKeepForget$Rule;)Z"⟩ ⟨"KeepForget$RuleReader", "readWhat", "(LKeepForget$Rule;)Z"⟩ ∈ tb := tb_p (q := (⟨"KeepForget$RuleReader", "readWhat", "(LKeepForget$Rule;)Z"⟩, 7)) 10 (by decide +kernel) (by decide +kernel)
theorem tP_11 : Cond.selects "KeepForget$RuleReader" ⟨"KeepForget$RuleReader", "bitOf", "(CI)I"⟩ ⟨"KeepForget$RuleReader", "bitOf", "(CI)I"⟩ ∈ tb := tb_p (q := (⟨"KeepForget$RuleReader", "bitOf", "(CI)I"⟩, 7)) 11 (by decide +kernel) (by decide +kernel)
theorem tP_12 : Cond.selects "KeepForget$RuleReader" ⟨"KeepForget$RuleReader", "numbered", "(CI)I"⟩ ⟨"KeepForget$RuleReader", "numbered", "(CI)I"⟩ ∈ tb := tb_p (q := (⟨"KeepForget$RuleReader", "numbered", "(CI)I"⟩, 7)) 12 (by decide +kernel) (by decide +kernel)
theorem tP_13 : Cond.selects "KeepForget$RuleReader" ⟨"KeepForget$RuleReader", "readStores", "(LKeepForget$Rule;)Z"⟩ ⟨"KeepForget$RuleReader", "readStores", "(LKeepForget$Rule;)Z"⟩ ∈ tb := tb_p (q := (⟨"KeepForget$RuleReader", "readStores", "(LKeepForget$Rule;)Z"⟩, 7)) 13 (by decide +kernel) (by decide +kernel)
theorem tP_14 : Cond.selects "KeepForget$RuleReader" ⟨"KeepForget$RuleReader", "readTime", "(LKeepForget$Rule;)Z"⟩ ⟨"KeepForget$RuleReader", "readTime", "(LKeepForget$Rule;)Z"⟩ ∈ tb := tb_p (q := (⟨"KeepForget$RuleReader", "readTime", "(LKeepForget$Rule;)Z"⟩, 7)) 14 (by decide +kernel) (by decide +kernel)
theorem tP_15 : Cond.selects "KeepForget$RuleReader" ⟨"KeepForget$RuleReader", "checkNumber", "()Z"⟩ ⟨"KeepForget$RuleReader", "checkNumber", "()Z"⟩ ∈ tb := tb_p (q := (⟨"KeepForget$RuleReader", "checkNumber", "()Z"⟩, 7)) 15 (by decide +kernel) (by decide +kernel)
theorem tP_16 : Cond.selects "KeepForget$RuleReader" ⟨"KeepForget$RuleReader", "number", "()I"⟩ ⟨"KeepForget$RuleReader", "number", "()I"⟩ ∈ tb := tb_p (q := (⟨"KeepForget$RuleReader", "number", "()I"⟩, 7)) 16 (by decide +kernel) (by decide +kernel)
theorem tP_17 : Cond.selects "KeepForget$RuleReader" ⟨"KeepForget$RuleReader", "readTests", "(LKeepForget$Rule;)Z"⟩ ⟨"KeepForget$RuleReader", "readTests", "(LKeepForget$Rule;)Z"⟩ ∈ tb := tb_p (q := (⟨"KeepForget$RuleReader", "readTests", "(LKeepForget$Rule;)Z"⟩, 7)) 17 (by decide +kernel) (by decide +kernel)
theorem tP_18 : Cond.selects "KeepForget$RuleReader" ⟨"KeepForget$RuleReader", "readTest", "(LKeepForget$Rule;)Z"⟩ ⟨"KeepForget$RuleReader", "readTest", "(LKeepForget$Rule;)Z"⟩ ∈ tb := tb_p (q := (⟨"KeepForget$RuleReader", "readTest", "(LKeepForget$Rule;)Z"⟩, 7)) 18 (by decide +kernel) (by decide +kernel)
theorem tP_19 : Cond.selects "KeepForget$RuleReader" ⟨"KeepForget$RuleReader", "isSign", "(C)Z"⟩ ⟨"KeepForget$RuleReader", "isSign", "(C)Z"⟩ ∈ tb := tb_p (q := (⟨"KeepForget$RuleReader", "isSign", "(C)Z"⟩, 7)) 19 (by decide +kernel) (by decide +kernel)
theorem tP_20 : Cond.selects "KeepForget$RuleReader" ⟨"KeepForget$RuleReader", "readRank", "(LKeepForget$Rule;)Z"⟩ ⟨"KeepForget$RuleReader", "readRank", "(LKeepForget$Rule;)Z"⟩ ∈ tb := tb_p (q := (⟨"KeepForget$RuleReader", "readRank", "(LKeepForget$Rule;)Z"⟩, 7)) 20 (by decide +kernel) (by decide +kernel)
theorem tP_21 : Cond.selects "KeepForget$RuleSet" ⟨"KeepForget$RuleSet", "putInTurn", "(II)V"⟩ ⟨"KeepForget$RuleSet", "putInTurn", "(II)V"⟩ ∈ tb := tb_p (q := (⟨"KeepForget$RuleSet", "putInTurn", "(II)V"⟩, 5)) 21 (by decide +kernel) (by decide +kernel)
theorem tP_22 : Cond.selects "KeepForget" ⟨"KeepForget", "thingAt", "(I)LKeepForget$Thing;"⟩ ⟨"KeepForget", "thingAt", "(I)LKeepForget$Thing;"⟩ ∈ tb := tb_p (q := (⟨"KeepForget", "thingAt", "(I)LKeepForget$Thing;"⟩, 13)) 22 (by decide +kernel) (by decide +kernel)
theorem tP_23 : Cond.selects "KeepForget" ⟨"KeepForget", "heldFields", "(LKeepForget$Thing;)I"⟩ ⟨"KeepForget", "heldFields", "(LKeepForget$Thing;)I"⟩ ∈ tb := tb_p (q := (⟨"KeepForget", "heldFields", "(LKeepForget$Thing;)I"⟩, 13)) 23 (by decide +kernel) (by decide +kernel)
theorem tP_24 : Cond.selects "KeepForget$Span" ⟨"KeepForget$Span", "take", "(III)V"⟩ ⟨"KeepForget$Span", "take", "(III)V"⟩ ∈ tb := tb_p (q := (⟨"KeepForget$Span", "take", "(III)V"⟩, 8)) 24 (by decide +kernel) (by decide +kernel)
theorem tP_25 : Cond.selects "KeepForget$Span" ⟨"KeepForget$Span", "keepUntil", "(II)V"⟩ ⟨"KeepForget$Span", "keepUntil", "(II)V"⟩ ∈ tb := tb_p (q := (⟨"KeepForget$Span", "keepUntil", "(II)V"⟩, 8)) 25 (by decide +kernel) (by decide +kernel)
theorem tP_26 : Cond.selects "KeepForget$Span" ⟨"KeepForget$Span", "lose", "(I)V"⟩ ⟨"KeepForget$Span", "lose", "(I)V"⟩ ∈ tb := tb_p (q := (⟨"KeepForget$Span", "lose", "(I)V"⟩, 8)) 26 (by decide +kernel) (by decide +kernel)
theorem tP_27 : Cond.selects "KeepForget$Span" ⟨"KeepForget$Span", "endAt", "(II)V"⟩ ⟨"KeepForget$Span", "endAt", "(II)V"⟩ ∈ tb := tb_p (q := (⟨"KeepForget$Span", "endAt", "(II)V"⟩, 8)) 27 (by decide +kernel) (by decide +kernel)
theorem tP_28 : Cond.selects "KeepForget" ⟨"KeepForget", "chosenSet", "(I)LKeepForget$RuleSet;"⟩ ⟨"KeepForget", "chosenSet", "(I)LKeepForget$RuleSet;"⟩ ∈ tb := tb_p (q := (⟨"KeepForget", "chosenSet", "(I)LKeepForget$RuleSet;"⟩, 13)) 28 (by decide +kernel) (by decide +kernel)
theorem tP_29 : Cond.selects "KeepForget" ⟨"KeepForget", "setAt", "(I)LKeepForget$RuleSet;"⟩ ⟨"KeepForget", "setAt", "(I)LKeepForget$RuleSet;"⟩ ∈ tb := tb_p (q := (⟨"KeepForget", "setAt", "(I)LKeepForget$RuleSet;"⟩, 13)) 29 (by decide +kernel) (by decide +kernel)
theorem tP_30 : Cond.selects "KeepForget" ⟨"KeepForget", "plannedDay", "(LKeepForget$Thing;IILKeepForget$RuleSet;)I"⟩ ⟨"KeepForget", "plannedDay", "(LKeepForget$Thing;IILKeepForget$RuleSet;)I"⟩ ∈ tb := tb_p (q := (⟨"KeepForget", "plannedDay", "(LKeepForget$Thing;IILKeepForget$RuleSet;)I"⟩, 13)) 30 (by decide +kernel) (by decide +kernel)
theorem tP_31 : Cond.selects "KeepForget" ⟨"KeepForget", "nextBusyDay", "(I)I"⟩ ⟨"KeepForget", "nextBusyDay", "(I)I"⟩ ∈ tb := tb_p (q := (⟨"KeepForget", "nextBusyDay", "(I)I"⟩, 13)) 31 (by decide +kernel) (by decide +kernel)
theorem tP_32 : Cond.selects "KeepForget" ⟨"KeepForget", "sweep", "(I)V"⟩ ⟨"KeepForget", "sweep", "(I)V"⟩ ∈ tb := tb_p (q := (⟨"KeepForget", "sweep", "(I)V"⟩, 13)) 32 (by decide +kernel) (by decide +kernel)
theorem tP_33 : Cond.selects "KeepForget" ⟨"KeepForget", "copyCount", "()I"⟩ ⟨"KeepForget", "copyCount", "()I"⟩ ∈ tb := tb_p (q := (⟨"KeepForget", "copyCount", "()I"⟩, 13)) 33 (by decide +kernel) (by decide +kernel)
theorem tP_34 : Cond.selects "KeepForget" ⟨"KeepForget", "openHoldCount", "()I"⟩ ⟨"KeepForget", "openHoldCount", "()I"⟩ ∈ tb := tb_p (q := (⟨"KeepForget", "openHoldCount", "()I"⟩, 13)) 34 (by decide +kernel) (by decide +kernel)
theorem tP_35 : Cond.selects "KeepForgetModel" ⟨"KeepForgetModel", "fail", "(I)I"⟩ ⟨"KeepForgetModel", "fail", "(I)I"⟩ ∈ tb := tb_p (q := (⟨"KeepForgetModel", "fail", "(I)I"⟩, 60)) 35 (by decide +kernel) (by decide +kernel)
theorem tP_36 : Cond.selects "KeepForgetModel" ⟨"KeepForgetModel", "step", "()V"⟩ ⟨"KeepForgetModel", "step", "()V"⟩ ∈ tb := tb_p (q := (⟨"KeepForgetModel", "step", "()V"⟩, 60)) 36 (by decide +kernel) (by decide +kernel)
theorem tP_37 : Cond.selects "KeepForgetModel" ⟨"KeepForgetModel", "byteAt", "(I)I"⟩ ⟨"KeepForgetModel", "byteAt", "(I)I"⟩ ∈ tb := tb_p (q := (⟨"KeepForgetModel", "byteAt", "(I)I"⟩, 60)) 37 (by decide +kernel) (by decide +kernel)
theorem tP_38 : Cond.selects "KeepForgetModel" ⟨"KeepForgetModel", "isWord", "(Ljava/lang/String;)Z"⟩ ⟨"KeepForgetModel", "isWord", "(Ljava/lang/String;)Z"⟩ ∈ tb := tb_p (q := (⟨"KeepForgetModel", "isWord", "(Ljava/lang/String;)Z"⟩, 60)) 38 (by decide +kernel) (by decide +kernel)
theorem tP_39 : Cond.selects "KeepForgetModel" ⟨"KeepForgetModel", "wrong", "(I)V"⟩ ⟨"KeepForgetModel", "wrong", "(I)V"⟩ ∈ tb := tb_p (q := (⟨"KeepForgetModel", "wrong", "(I)V"⟩, 60)) 39 (by decide +kernel) (by decide +kernel)
theorem tP_40 : Cond.selects "KeepForgetModel" ⟨"KeepForgetModel", "readRule", "()V"⟩ ⟨"KeepForgetModel", "readRule", "()V"⟩ ∈ tb := tb_p (q := (⟨"KeepForgetModel", "readRule", "()V"⟩, 60)) 40 (by decide +kernel) (by decide +kernel)
theorem tP_41 : Cond.selects "KeepForgetModel" ⟨"KeepForgetModel", "readWhat", "()V"⟩ ⟨"KeepForgetModel", "readWhat", "()V"⟩ ∈ tb := tb_p (q := (⟨"KeepForgetModel", "readWhat", "()V"⟩, 60)) 41 (by decide +kernel) (by decide +kernel)
theorem tP_42 : Cond.selects "KeepForgetModel" ⟨"KeepForgetModel", "readNumbered", "(II)I"⟩ ⟨"KeepForgetModel", "readNumbered", "(II)I"⟩ ∈ tb := tb_p (q := (⟨"KeepForgetModel", "readNumbered", "(II)I"⟩, 60)) 42 (by decide +kernel) (by decide +kernel)
theorem tP_43 : Cond.selects "KeepForgetModel" ⟨"KeepForgetModel", "numbered", "(II)I"⟩ ⟨"KeepForgetModel", "numbered", "(II)I"⟩ ∈ tb := tb_p (q := (⟨"KeepForgetModel", "numbered", "(II)I"⟩, 60)) 43 (by decide +kernel) (by decide +kernel)
theorem tP_44 : Cond.selects "KeepForgetModel" ⟨"KeepForgetModel", "readNumber", "()I"⟩ ⟨"KeepForgetModel", "readNumber", "()I"⟩ ∈ tb := tb_p (q := (⟨"KeepForgetModel", "readNumber", "()I"⟩, 60)) 44 (by decide +kernel) (by decide +kernel)
theorem tP_45 : Cond.selects "KeepForgetModel" ⟨"KeepForgetModel", "word", "(Ljava/lang/String;)V"⟩ ⟨"KeepForgetModel", "word", "(Ljava/lang/String;)V"⟩ ∈ tb := tb_p (q := (⟨"KeepForgetModel", "word", "(Ljava/lang/String;)V"⟩, 60)) 45 (by decide +kernel) (by decide +kernel)
theorem tP_46 : Cond.selects "KeepForgetModel" ⟨"KeepForgetModel", "readTests", "()V"⟩ ⟨"KeepForgetModel", "readTests", "()V"⟩ ∈ tb := tb_p (q := (⟨"KeepForgetModel", "readTests", "()V"⟩, 60)) 46 (by decide +kernel) (by decide +kernel)
theorem tP_47 : Cond.selects "KeepForgetModel" ⟨"KeepForgetModel", "isThing", "(I)Z"⟩ ⟨"KeepForgetModel", "isThing", "(I)Z"⟩ ∈ tb := tb_p (q := (⟨"KeepForgetModel", "isThing", "(I)Z"⟩, 60)) 47 (by decide +kernel) (by decide +kernel)
theorem tP_48 : Cond.selects "KeepForgetModel" ⟨"KeepForgetModel", "placesOf", "(II)I"⟩ ⟨"KeepForgetModel", "placesOf", "(II)I"⟩ ∈ tb := tb_p (q := (⟨"KeepForgetModel", "placesOf", "(II)I"⟩, 60)) 48 (by decide +kernel) (by decide +kernel)
theorem tP_49 : Cond.selects "KeepForgetModel" ⟨"KeepForgetModel", "force", "(I)I"⟩ ⟨"KeepForgetModel", "force", "(I)I"⟩ ∈ tb := tb_p (q := (⟨"KeepForgetModel", "force", "(I)I"⟩, 60)) 49 (by decide +kernel) (by decide +kernel)
theorem tP_50 : Cond.selects "KeepForgetModel" ⟨"KeepForgetModel", "isFor", "(III)Z"⟩ ⟨"KeepForgetModel", "isFor", "(III)Z"⟩ ∈ tb := tb_p (q := (⟨"KeepForgetModel", "isFor", "(III)Z"⟩, 60)) 50 (by decide +kernel) (by decide +kernel)
theorem tP_51 : Cond.selects "KeepForgetModel" ⟨"KeepForgetModel", "isDue", "(III)Z"⟩ ⟨"KeepForgetModel", "isDue", "(III)Z"⟩ ∈ tb := tb_p (q := (⟨"KeepForgetModel", "isDue", "(III)Z"⟩, 60)) 51 (by decide +kernel) (by decide +kernel)
theorem tP_52 : Cond.selects "KeepForgetModel" ⟨"KeepForgetModel", "know", "(II)V"⟩ ⟨"KeepForgetModel", "know", "(II)V"⟩ ∈ tb := tb_p (q := (⟨"KeepForgetModel", "know", "(II)V"⟩, 60)) 52 (by decide +kernel) (by decide +kernel)
theorem tP_53 : Cond.selects "KeepForgetModel" ⟨"KeepForgetModel", "tell", "(III)V"⟩ ⟨"KeepForgetModel", "tell", "(III)V"⟩ ∈ tb := tb_p (q := (⟨"KeepForgetModel", "tell", "(III)V"⟩, 60)) 53 (by decide +kernel) (by decide +kernel)
theorem tP_54 : Cond.selects "KeepForgetModel" ⟨"KeepForgetModel", "bid", "(III)V"⟩ ⟨"KeepForgetModel", "bid", "(III)V"⟩ ∈ tb := tb_p (q := (⟨"KeepForgetModel", "bid", "(III)V"⟩, 60)) 54 (by decide +kernel) (by decide +kernel)
theorem tP_55 : Cond.selects "KeepForgetModel" ⟨"KeepForgetModel", "until", "(II)I"⟩ ⟨"KeepForgetModel", "until", "(II)I"⟩ ∈ tb := tb_p (q := (⟨"KeepForgetModel", "until", "(II)I"⟩, 60)) 55 (by decide +kernel) (by decide +kernel)
theorem tP_56 : Cond.selects "KeepForgetModel" ⟨"KeepForgetModel", "isHeld", "(II)Z"⟩ ⟨"KeepForgetModel", "isHeld", "(II)Z"⟩ ∈ tb := tb_p (q := (⟨"KeepForgetModel", "isHeld", "(II)Z"⟩, 60)) 56 (by decide +kernel) (by decide +kernel)
theorem tP_57 : Cond.selects "KeepForgetModel" ⟨"KeepForgetModel", "isSet", "(I)Z"⟩ ⟨"KeepForgetModel", "isSet", "(I)Z"⟩ ∈ tb := tb_p (q := (⟨"KeepForgetModel", "isSet", "(I)Z"⟩, 60)) 57 (by decide +kernel) (by decide +kernel)
theorem tP_58 : Cond.selects "KeepForgetModel" ⟨"KeepForgetModel", "sweep", "(I)V"⟩ ⟨"KeepForgetModel", "sweep", "(I)V"⟩ ∈ tb := tb_p (q := (⟨"KeepForgetModel", "sweep", "(I)V"⟩, 60)) 58 (by decide +kernel) (by decide +kernel)
end
section
theorem hinX1 : ∀ w ∈ wsX10, w ∈ tb := by decide +kernel
theorem hinX2 : ∀ w ∈ wsX20, w ∈ tb := by decide +kernel
theorem hinX3 : ∀ w ∈ wsX30, w ∈ tb := by decide +kernel
theorem hinX4 : ∀ w ∈ wsX40, w ∈ tb := by decide +kernel
theorem hinX5 : ∀ w ∈ wsX50, w ∈ tb := by decide +kernel
theorem hinX6 : ∀ w ∈ wsX60, w ∈ tb := by decide +kernel
theorem hinX7 : ∀ w ∈ wsX70, w ∈ tb := by decide +kernel
theorem hinX8 : ∀ w ∈ wsX80, w ∈ tb := by decide +kernel
theorem hinX9 : ∀ w ∈ wsX90, w ∈ tb := by decide +kernel
theorem hinX10 : ∀ w ∈ wsX100, w ∈ tb := by decide +kernel
end
section
theorem dX10_init_0 : decode cX10_init 0 = .ok (.aload_n 0, 1) := by decide +kernel
theorem dX10_init_1 : decode cX10_init 1 = .ok (.invokespecial 1, 3) := by decide +kernel
theorem dX10_init_4 : decode cX10_init 4 = .ok (.aload_n 0, 1) := by decide +kernel
theorem dX10_init_5 : decode cX10_init 5 = .ok (.iconst (-1), 1) := by decide +kernel
theorem dX10_init_6 : decode cX10_init 6 = .ok (.putfield 9, 3) := by decide +kernel
theorem dX10_init_9 : decode cX10_init 9 = .ok (.aload_n 0, 1) := by decide +kernel
theorem dX10_init_10 : decode cX10_init 10 = .ok (.bipush 30, 2) := by decide +kernel
theorem dX10_init_12 : decode cX10_init 12 = .ok (.newarray .int, 2) := by decide +kernel
theorem dX10_init_14 : decode cX10_init 14 = .ok (.putfield 13, 3) := by decide +kernel
theorem dX10_init_17 : decode cX10_init 17 = .ok (.aload_n 0, 1) := by decide +kernel
theorem dX10_init_18 : decode cX10_init 18 = .ok (.bipush 120, 2) := by decide +kernel
theorem dX10_init_20 : decode cX10_init 20 = .ok (.newarray .int, 2) := by decide +kernel
theorem dX10_init_22 : decode cX10_init 22 = .ok (.putfield 17, 3) := by decide +kernel
theorem dX10_init_25 : decode cX10_init 25 = .ok (.aload_n 0, 1) := by decide +kernel
theorem dX10_init_26 : decode cX10_init 26 = .ok (.bipush 120, 2) := by decide +kernel
theorem dX10_init_28 : decode cX10_init 28 = .ok (.newarray .int, 2) := by decide +kernel
theorem dX10_init_30 : decode cX10_init 30 = .ok (.putfield 20, 3) := by decide +kernel
theorem dX10_init_33 : decode cX10_init 33 = .ok (.aload_n 0, 1) := by decide +kernel
theorem dX10_init_34 : decode cX10_init 34 = .ok (.sipush 240, 3) := by decide +kernel
theorem dX10_init_37 : decode cX10_init 37 = .ok (.newarray .int, 2) := by decide +kernel
theorem dX10_init_39 : decode cX10_init 39 = .ok (.putfield 23, 3) := by decide +kernel
theorem dX10_init_42 : decode cX10_init 42 = .ok (.aload_n 0, 1) := by decide +kernel
theorem dX10_init_43 : decode cX10_init 43 = .ok (.bipush 30, 2) := by decide +kernel
theorem dX10_init_45 : decode cX10_init 45 = .ok (.newarray .boolean, 2) := by decide +kernel
theorem dX10_init_47 : decode cX10_init 47 = .ok (.putfield 26, 3) := by decide +kernel
theorem dX10_init_50 : decode cX10_init 50 = .ok (.aload_n 0, 1) := by decide +kernel
theorem dX10_init_51 : decode cX10_init 51 = .ok (.iconst 4, 1) := by decide +kernel
theorem dX10_init_52 : decode cX10_init 52 = .ok (.newarray .int, 2) := by decide +kernel
theorem dX10_init_54 : decode cX10_init 54 = .ok (.putfield 30, 3) := by decide +kernel
theorem dX10_init_57 : decode cX10_init 57 = .ok (.aload_n 0, 1) := by decide +kernel
theorem dX10_init_58 : decode cX10_init 58 = .ok (.iconst 4, 1) := by decide +kernel
theorem dX10_init_59 : decode cX10_init 59 = .ok (.newarray .int, 2) := by decide +kernel
theorem dX10_init_61 : decode cX10_init 61 = .ok (.putfield 33, 3) := by decide +kernel
theorem dX10_init_64 : decode cX10_init 64 = .ok (.aload_n 0, 1) := by decide +kernel
theorem dX10_init_65 : decode cX10_init 65 = .ok (.bipush 40, 2) := by decide +kernel
theorem dX10_init_67 : decode cX10_init 67 = .ok (.newarray .int, 2) := by decide +kernel
theorem dX10_init_69 : decode cX10_init 69 = .ok (.putfield 36, 3) := by decide +kernel
theorem dX10_init_72 : decode cX10_init 72 = .ok (.aload_n 0, 1) := by decide +kernel
theorem dX10_init_73 : decode cX10_init 73 = .ok (.bipush 40, 2) := by decide +kernel
theorem dX10_init_75 : decode cX10_init 75 = .ok (.newarray .int, 2) := by decide +kernel
theorem dX10_init_77 : decode cX10_init 77 = .ok (.putfield 39, 3) := by decide +kernel
theorem dX10_init_80 : decode cX10_init 80 = .ok (.aload_n 0, 1) := by decide +kernel
theorem dX10_init_81 : decode cX10_init 81 = .ok (.bipush 40, 2) := by decide +kernel
theorem dX10_init_83 : decode cX10_init 83 = .ok (.newarray .boolean, 2) := by decide +kernel
theorem dX10_init_85 : decode cX10_init 85 = .ok (.putfield 42, 3) := by decide +kernel
theorem dX10_init_88 : decode cX10_init 88 = .ok (.aload_n 0, 1) := by decide +kernel
theorem dX10_init_89 : decode cX10_init 89 = .ok (.sipush 400, 3) := by decide +kernel
theorem dX10_init_92 : decode cX10_init 92 = .ok (.newarray .int, 2) := by decide +kernel
theorem dX10_init_94 : decode cX10_init 94 = .ok (.putfield 45, 3) := by decide +kernel
theorem dX10_init_97 : decode cX10_init 97 = .ok (.aload_n 0, 1) := by decide +kernel
theorem dX10_init_98 : decode cX10_init 98 = .ok (.sipush 400, 3) := by decide +kernel
theorem dX10_init_101 : decode cX10_init 101 = .ok (.newarray .int, 2) := by decide +kernel
theorem dX10_init_103 : decode cX10_init 103 = .ok (.putfield 48, 3) := by decide +kernel
theorem dX10_init_106 : decode cX10_init 106 = .ok (.aload_n 0, 1) := by decide +kernel
theorem dX10_init_107 : decode cX10_init 107 = .ok (.sipush 400, 3) := by decide +kernel
theorem dX10_init_110 : decode cX10_init 110 = .ok (.newarray .int, 2) := by decide +kernel
theorem dX10_init_112 : decode cX10_init 112 = .ok (.putfield 51, 3) := by decide +kernel
theorem dX10_init_115 : decode cX10_init 115 = .ok (.aload_n 0, 1) := by decide +kernel
theorem dX10_init_116 : decode cX10_init 116 = .ok (.sipush 400, 3) := by decide +kernel
theorem dX10_init_119 : decode cX10_init 119 = .ok (.newarray .int, 2) := by decide +kernel
theorem dX10_init_121 : decode cX10_init 121 = .ok (.putfield 54, 3) := by decide +kernel
theorem dX10_init_124 : decode cX10_init 124 = .ok (.aload_n 0, 1) := by decide +kernel
theorem dX10_init_125 : decode cX10_init 125 = .ok (.sipush 400, 3) := by decide +kernel
theorem dX10_init_128 : decode cX10_init 128 = .ok (.newarray .int, 2) := by decide +kernel
theorem dX10_init_130 : decode cX10_init 130 = .ok (.putfield 57, 3) := by decide +kernel
theorem dX10_init_133 : decode cX10_init 133 = .ok (.aload_n 0, 1) := by decide +kernel
theorem dX10_init_134 : decode cX10_init 134 = .ok (.bipush 8, 2) := by decide +kernel
theorem dX10_init_136 : decode cX10_init 136 = .ok (.newarray .int, 2) := by decide +kernel
theorem dX10_init_138 : decode cX10_init 138 = .ok (.putfield 60, 3) := by decide +kernel
theorem dX10_init_141 : decode cX10_init 141 = .ok (.aload_n 0, 1) := by decide +kernel
theorem dX10_init_142 : decode cX10_init 142 = .ok (.bipush 8, 2) := by decide +kernel
theorem dX10_init_144 : decode cX10_init 144 = .ok (.newarray .int, 2) := by decide +kernel
theorem dX10_init_146 : decode cX10_init 146 = .ok (.putfield 63, 3) := by decide +kernel
theorem dX10_init_149 : decode cX10_init 149 = .ok (.aload_n 0, 1) := by decide +kernel
theorem dX10_init_150 : decode cX10_init 150 = .ok (.sipush 192, 3) := by decide +kernel
theorem dX10_init_153 : decode cX10_init 153 = .ok (.newarray .int, 2) := by decide +kernel
theorem dX10_init_155 : decode cX10_init 155 = .ok (.putfield 66, 3) := by decide +kernel
theorem dX10_init_158 : decode cX10_init 158 = .ok (.aload_n 0, 1) := by decide +kernel
theorem dX10_init_159 : decode cX10_init 159 = .ok (.sipush 192, 3) := by decide +kernel
theorem dX10_init_162 : decode cX10_init 162 = .ok (.newarray .int, 2) := by decide +kernel
theorem dX10_init_164 : decode cX10_init 164 = .ok (.putfield 69, 3) := by decide +kernel
theorem dX10_init_167 : decode cX10_init 167 = .ok (.aload_n 0, 1) := by decide +kernel
theorem dX10_init_168 : decode cX10_init 168 = .ok (.sipush 192, 3) := by decide +kernel
theorem dX10_init_171 : decode cX10_init 171 = .ok (.newarray .int, 2) := by decide +kernel
theorem dX10_init_173 : decode cX10_init 173 = .ok (.putfield 72, 3) := by decide +kernel
theorem dX10_init_176 : decode cX10_init 176 = .ok (.aload_n 0, 1) := by decide +kernel
theorem dX10_init_177 : decode cX10_init 177 = .ok (.sipush 192, 3) := by decide +kernel
theorem dX10_init_180 : decode cX10_init 180 = .ok (.newarray .int, 2) := by decide +kernel
theorem dX10_init_182 : decode cX10_init 182 = .ok (.putfield 75, 3) := by decide +kernel
theorem dX10_init_185 : decode cX10_init 185 = .ok (.aload_n 0, 1) := by decide +kernel
theorem dX10_init_186 : decode cX10_init 186 = .ok (.sipush 192, 3) := by decide +kernel
theorem dX10_init_189 : decode cX10_init 189 = .ok (.newarray .int, 2) := by decide +kernel
theorem dX10_init_191 : decode cX10_init 191 = .ok (.putfield 78, 3) := by decide +kernel
theorem dX10_init_194 : decode cX10_init 194 = .ok (.aload_n 0, 1) := by decide +kernel
theorem dX10_init_195 : decode cX10_init 195 = .ok (.sipush 192, 3) := by decide +kernel
theorem dX10_init_198 : decode cX10_init 198 = .ok (.newarray .int, 2) := by decide +kernel
theorem dX10_init_200 : decode cX10_init 200 = .ok (.putfield 81, 3) := by decide +kernel
theorem dX10_init_203 : decode cX10_init 203 = .ok (.aload_n 0, 1) := by decide +kernel
theorem dX10_init_204 : decode cX10_init 204 = .ok (.sipush 192, 3) := by decide +kernel
theorem dX10_init_207 : decode cX10_init 207 = .ok (.newarray .int, 2) := by decide +kernel
theorem dX10_init_209 : decode cX10_init 209 = .ok (.putfield 84, 3) := by decide +kernel
theorem dX10_init_212 : decode cX10_init 212 = .ok (.aload_n 0, 1) := by decide +kernel
theorem dX10_init_213 : decode cX10_init 213 = .ok (.sipush 192, 3) := by decide +kernel
theorem dX10_init_216 : decode cX10_init 216 = .ok (.newarray .int, 2) := by decide +kernel
theorem dX10_init_218 : decode cX10_init 218 = .ok (.putfield 87, 3) := by decide +kernel
theorem dX10_init_221 : decode cX10_init 221 = .ok (.aload_n 0, 1) := by decide +kernel
theorem dX10_init_222 : decode cX10_init 222 = .ok (.sipush 192, 3) := by decide +kernel
theorem dX10_init_225 : decode cX10_init 225 = .ok (.newarray .int, 2) := by decide +kernel
theorem dX10_init_227 : decode cX10_init 227 = .ok (.putfield 90, 3) := by decide +kernel
theorem dX10_init_230 : decode cX10_init 230 = .ok (.aload_n 0, 1) := by decide +kernel
theorem dX10_init_231 : decode cX10_init 231 = .ok (.sipush 768, 3) := by decide +kernel
theorem dX10_init_234 : decode cX10_init 234 = .ok (.newarray .int, 2) := by decide +kernel
theorem dX10_init_236 : decode cX10_init 236 = .ok (.putfield 93, 3) := by decide +kernel
theorem dX10_init_239 : decode cX10_init 239 = .ok (.aload_n 0, 1) := by decide +kernel
theorem dX10_init_240 : decode cX10_init 240 = .ok (.sipush 768, 3) := by decide +kernel
theorem dX10_init_243 : decode cX10_init 243 = .ok (.newarray .int, 2) := by decide +kernel
theorem dX10_init_245 : decode cX10_init 245 = .ok (.putfield 96, 3) := by decide +kernel
theorem dX10_init_248 : decode cX10_init 248 = .ok (.aload_n 0, 1) := by decide +kernel
theorem dX10_init_249 : decode cX10_init 249 = .ok (.sipush 768, 3) := by decide +kernel
theorem dX10_init_252 : decode cX10_init 252 = .ok (.newarray .boolean, 2) := by decide +kernel
theorem dX10_init_254 : decode cX10_init 254 = .ok (.putfield 99, 3) := by decide +kernel
theorem dX10_init_257 : decode cX10_init 257 = .ok (.aload_n 0, 1) := by decide +kernel
theorem dX10_init_258 : decode cX10_init 258 = .ok (.sipush 1000, 3) := by decide +kernel
theorem dX10_init_261 : decode cX10_init 261 = .ok (.newarray .int, 2) := by decide +kernel
theorem dX10_init_263 : decode cX10_init 263 = .ok (.putfield 102, 3) := by decide +kernel
theorem dX10_init_266 : decode cX10_init 266 = .ok (.aload_n 0, 1) := by decide +kernel
theorem dX10_init_267 : decode cX10_init 267 = .ok (.bipush 24, 2) := by decide +kernel
theorem dX10_init_269 : decode cX10_init 269 = .ok (.newarray .int, 2) := by decide +kernel
theorem dX10_init_271 : decode cX10_init 271 = .ok (.putfield 105, 3) := by decide +kernel
theorem dX10_init_274 : decode cX10_init 274 = .ok (.aload_n 0, 1) := by decide +kernel
theorem dX10_init_275 : decode cX10_init 275 = .ok (.bipush (-2), 2) := by decide +kernel
theorem dX10_init_277 : decode cX10_init 277 = .ok (.putfield 108, 3) := by decide +kernel
theorem dX10_init_280 : decode cX10_init 280 = .ok (.aload_n 0, 1) := by decide +kernel
theorem dX10_init_281 : decode cX10_init 281 = .ok (.bipush 30, 2) := by decide +kernel
theorem dX10_init_283 : decode cX10_init 283 = .ok (.newarray .boolean, 2) := by decide +kernel
theorem dX10_init_285 : decode cX10_init 285 = .ok (.putfield 111, 3) := by decide +kernel
theorem dX10_init_288 : decode cX10_init 288 = .ok (.aload_n 0, 1) := by decide +kernel
theorem dX10_init_289 : decode cX10_init 289 = .ok (.sipush 240, 3) := by decide +kernel
theorem dX10_init_292 : decode cX10_init 292 = .ok (.newarray .int, 2) := by decide +kernel
theorem dX10_init_294 : decode cX10_init 294 = .ok (.putfield 114, 3) := by decide +kernel
theorem dX10_init_297 : decode cX10_init 297 = .ok (.aload_n 0, 1) := by decide +kernel
theorem dX10_init_298 : decode cX10_init 298 = .ok (.sipush 240, 3) := by decide +kernel
theorem dX10_init_301 : decode cX10_init 301 = .ok (.newarray .int, 2) := by decide +kernel
theorem dX10_init_303 : decode cX10_init 303 = .ok (.putfield 117, 3) := by decide +kernel
theorem dX10_init_306 : decode cX10_init 306 = .ok (.aload_n 0, 1) := by decide +kernel
theorem dX10_init_307 : decode cX10_init 307 = .ok (.sipush 240, 3) := by decide +kernel
theorem dX10_init_310 : decode cX10_init 310 = .ok (.newarray .int, 2) := by decide +kernel
theorem dX10_init_312 : decode cX10_init 312 = .ok (.putfield 120, 3) := by decide +kernel
theorem dX10_init_315 : decode cX10_init 315 = .ok (.aload_n 0, 1) := by decide +kernel
theorem dX10_init_316 : decode cX10_init 316 = .ok (.bipush 30, 2) := by decide +kernel
theorem dX10_init_318 : decode cX10_init 318 = .ok (.newarray .int, 2) := by decide +kernel
theorem dX10_init_320 : decode cX10_init 320 = .ok (.putfield 123, 3) := by decide +kernel
theorem dX10_init_323 : decode cX10_init 323 = .ok (.iconst 0, 1) := by decide +kernel
theorem dX10_init_324 : decode cX10_init 324 = .ok (.istore_n 1, 1) := by decide +kernel
theorem dX10_init_325 : decode cX10_init 325 = .ok (.iload_n 1, 1) := by decide +kernel
theorem dX10_init_326 : decode cX10_init 326 = .ok (.iconst 4, 1) := by decide +kernel
theorem dX10_init_327 : decode cX10_init 327 = .ok (.if_icmp .ge 16, 3) := by decide +kernel
theorem dX10_init_330 : decode cX10_init 330 = .ok (.aload_n 0, 1) := by decide +kernel
theorem dX10_init_331 : decode cX10_init 331 = .ok (.getfield 30, 3) := by decide +kernel
theorem dX10_init_334 : decode cX10_init 334 = .ok (.iload_n 1, 1) := by decide +kernel
theorem dX10_init_335 : decode cX10_init 335 = .ok (.iconst 1, 1) := by decide +kernel
theorem dX10_init_336 : decode cX10_init 336 = .ok (.iastore, 1) := by decide +kernel
theorem dX10_init_337 : decode cX10_init 337 = .ok (.iinc 1 1, 3) := by decide +kernel
theorem dX10_init_340 : decode cX10_init 340 = .ok (.goto (-15), 3) := by decide +kernel
theorem dX10_init_343 : decode cX10_init 343 = .ok (.iconst 0, 1) := by decide +kernel
theorem dX10_init_344 : decode cX10_init 344 = .ok (.istore_n 1, 1) := by decide +kernel
theorem dX10_init_345 : decode cX10_init 345 = .ok (.iload_n 1, 1) := by decide +kernel
theorem dX10_init_346 : decode cX10_init 346 = .ok (.bipush 120, 2) := by decide +kernel
theorem dX10_init_348 : decode cX10_init 348 = .ok (.if_icmp .ge 16, 3) := by decide +kernel
theorem dX10_init_351 : decode cX10_init 351 = .ok (.aload_n 0, 1) := by decide +kernel
theorem dX10_init_352 : decode cX10_init 352 = .ok (.getfield 20, 3) := by decide +kernel
theorem dX10_init_355 : decode cX10_init 355 = .ok (.iload_n 1, 1) := by decide +kernel
theorem dX10_init_356 : decode cX10_init 356 = .ok (.iconst (-1), 1) := by decide +kernel
theorem dX10_init_357 : decode cX10_init 357 = .ok (.iastore, 1) := by decide +kernel
theorem dX10_init_358 : decode cX10_init 358 = .ok (.iinc 1 1, 3) := by decide +kernel
theorem dX10_init_361 : decode cX10_init 361 = .ok (.goto (-16), 3) := by decide +kernel
theorem dX10_init_364 : decode cX10_init 364 = .ok (.return_, 1) := by decide +kernel
theorem dX10_thrown_0 : decode cX10_thrown 0 = .ok (.aload_n 0, 1) := by decide +kernel
theorem dX10_thrown_1 : decode cX10_thrown 1 = .ok (.getfield 126, 3) := by decide +kernel
theorem dX10_thrown_4 : decode cX10_thrown 4 = .ok (.ireturn, 1) := by decide +kernel
theorem dX10_fail_0 : decode cX10_fail 0 = .ok (.aload_n 0, 1) := by decide +kernel
theorem dX10_fail_1 : decode cX10_fail 1 = .ok (.iload_n 1, 1) := by decide +kernel
theorem dX10_fail_2 : decode cX10_fail 2 = .ok (.putfield 126, 3) := by decide +kernel
theorem dX10_fail_5 : decode cX10_fail 5 = .ok (.iconst 0, 1) := by decide +kernel
theorem dX10_fail_6 : decode cX10_fail 6 = .ok (.ireturn, 1) := by decide +kernel
theorem dX10_isLeap_0 : decode cX10_isLeap 0 = .ok (.iload_n 0, 1) := by decide +kernel
theorem dX10_isLeap_1 : decode cX10_isLeap 1 = .ok (.iconst 4, 1) := by decide +kernel
theorem dX10_isLeap_2 : decode cX10_isLeap 2 = .ok (.irem, 1) := by decide +kernel
theorem dX10_isLeap_3 : decode cX10_isLeap 3 = .ok (.ifCond .ne 22, 3) := by decide +kernel
theorem dX10_isLeap_6 : decode cX10_isLeap 6 = .ok (.iload_n 0, 1) := by decide +kernel
theorem dX10_isLeap_7 : decode cX10_isLeap 7 = .ok (.bipush 100, 2) := by decide +kernel
theorem dX10_isLeap_9 : decode cX10_isLeap 9 = .ok (.irem, 1) := by decide +kernel
theorem dX10_isLeap_10 : decode cX10_isLeap 10 = .ok (.ifCond .ne 11, 3) := by decide +kernel
theorem dX10_isLeap_13 : decode cX10_isLeap 13 = .ok (.iload_n 0, 1) := by decide +kernel
theorem dX10_isLeap_14 : decode cX10_isLeap 14 = .ok (.sipush 400, 3) := by decide +kernel
theorem dX10_isLeap_17 : decode cX10_isLeap 17 = .ok (.irem, 1) := by decide +kernel
theorem dX10_isLeap_18 : decode cX10_isLeap 18 = .ok (.ifCond .ne 7, 3) := by decide +kernel
theorem dX10_isLeap_21 : decode cX10_isLeap 21 = .ok (.iconst 1, 1) := by decide +kernel
theorem dX10_isLeap_22 : decode cX10_isLeap 22 = .ok (.goto 4, 3) := by decide +kernel
theorem dX10_isLeap_25 : decode cX10_isLeap 25 = .ok (.iconst 0, 1) := by decide +kernel
theorem dX10_isLeap_26 : decode cX10_isLeap 26 = .ok (.ireturn, 1) := by decide +kernel
theorem dX10_leaps_0 : decode cX10_leaps 0 = .ok (.iload_n 0, 1) := by decide +kernel
theorem dX10_leaps_1 : decode cX10_leaps 1 = .ok (.iconst 4, 1) := by decide +kernel
theorem dX10_leaps_2 : decode cX10_leaps 2 = .ok (.idiv, 1) := by decide +kernel
theorem dX10_leaps_3 : decode cX10_leaps 3 = .ok (.iload_n 0, 1) := by decide +kernel
theorem dX10_leaps_4 : decode cX10_leaps 4 = .ok (.bipush 100, 2) := by decide +kernel
theorem dX10_leaps_6 : decode cX10_leaps 6 = .ok (.idiv, 1) := by decide +kernel
theorem dX10_leaps_7 : decode cX10_leaps 7 = .ok (.isub, 1) := by decide +kernel
theorem dX10_leaps_8 : decode cX10_leaps 8 = .ok (.iload_n 0, 1) := by decide +kernel
theorem dX10_leaps_9 : decode cX10_leaps 9 = .ok (.sipush 400, 3) := by decide +kernel
theorem dX10_leaps_12 : decode cX10_leaps 12 = .ok (.idiv, 1) := by decide +kernel
theorem dX10_leaps_13 : decode cX10_leaps 13 = .ok (.iadd, 1) := by decide +kernel
theorem dX10_leaps_14 : decode cX10_leaps 14 = .ok (.ireturn, 1) := by decide +kernel
theorem dX10_yearDay_0 : decode cX10_yearDay 0 = .ok (.sipush 365, 3) := by decide +kernel
theorem dX10_yearDay_3 : decode cX10_yearDay 3 = .ok (.iload_n 0, 1) := by decide +kernel
theorem dX10_yearDay_4 : decode cX10_yearDay 4 = .ok (.sipush 2000, 3) := by decide +kernel
theorem dX10_yearDay_7 : decode cX10_yearDay 7 = .ok (.isub, 1) := by decide +kernel
theorem dX10_yearDay_8 : decode cX10_yearDay 8 = .ok (.imul, 1) := by decide +kernel
theorem dX10_yearDay_9 : decode cX10_yearDay 9 = .ok (.iload_n 0, 1) := by decide +kernel
theorem dX10_yearDay_10 : decode cX10_yearDay 10 = .ok (.iconst 1, 1) := by decide +kernel
theorem dX10_yearDay_11 : decode cX10_yearDay 11 = .ok (.isub, 1) := by decide +kernel
theorem dX10_yearDay_12 : decode cX10_yearDay 12 = .ok (.invokestatic 129, 3) := by decide +kernel
theorem dX10_yearDay_15 : decode cX10_yearDay 15 = .ok (.iadd, 1) := by decide +kernel
theorem dX10_yearDay_16 : decode cX10_yearDay 16 = .ok (.sipush 1999, 3) := by decide +kernel
theorem dX10_yearDay_19 : decode cX10_yearDay 19 = .ok (.invokestatic 129, 3) := by decide +kernel
theorem dX10_yearDay_22 : decode cX10_yearDay 22 = .ok (.isub, 1) := by decide +kernel
theorem dX10_yearDay_23 : decode cX10_yearDay 23 = .ok (.ireturn, 1) := by decide +kernel
theorem dX10_monthDays_0 : decode cX10_monthDays 0 = .ok (.iload_n 1, 1) := by decide +kernel
theorem dX10_monthDays_1 : decode cX10_monthDays 1 = .ok (.iconst 2, 1) := by decide +kernel
theorem dX10_monthDays_2 : decode cX10_monthDays 2 = .ok (.if_icmp .ne 20, 3) := by decide +kernel
theorem dX10_monthDays_5 : decode cX10_monthDays 5 = .ok (.iload_n 0, 1) := by decide +kernel
theorem dX10_monthDays_6 : decode cX10_monthDays 6 = .ok (.invokestatic 133, 3) := by decide +kernel
theorem dX10_monthDays_9 : decode cX10_monthDays 9 = .ok (.ifCond .eq 8, 3) := by decide +kernel
theorem dX10_monthDays_12 : decode cX10_monthDays 12 = .ok (.bipush 29, 2) := by decide +kernel
theorem dX10_monthDays_14 : decode cX10_monthDays 14 = .ok (.goto 38, 3) := by decide +kernel
theorem dX10_monthDays_17 : decode cX10_monthDays 17 = .ok (.bipush 28, 2) := by decide +kernel
theorem dX10_monthDays_19 : decode cX10_monthDays 19 = .ok (.goto 33, 3) := by decide +kernel
theorem dX10_monthDays_22 : decode cX10_monthDays 22 = .ok (.iload_n 1, 1) := by decide +kernel
theorem dX10_monthDays_23 : decode cX10_monthDays 23 = .ok (.iconst 4, 1) := by decide +kernel
theorem dX10_monthDays_24 : decode cX10_monthDays 24 = .ok (.if_icmp .eq 21, 3) := by decide +kernel
theorem dX10_monthDays_27 : decode cX10_monthDays 27 = .ok (.iload_n 1, 1) := by decide +kernel
theorem dX10_monthDays_28 : decode cX10_monthDays 28 = .ok (.bipush 6, 2) := by decide +kernel
theorem dX10_monthDays_30 : decode cX10_monthDays 30 = .ok (.if_icmp .eq 15, 3) := by decide +kernel
theorem dX10_monthDays_33 : decode cX10_monthDays 33 = .ok (.iload_n 1, 1) := by decide +kernel
theorem dX10_monthDays_34 : decode cX10_monthDays 34 = .ok (.bipush 9, 2) := by decide +kernel
theorem dX10_monthDays_36 : decode cX10_monthDays 36 = .ok (.if_icmp .eq 9, 3) := by decide +kernel
theorem dX10_monthDays_39 : decode cX10_monthDays 39 = .ok (.iload_n 1, 1) := by decide +kernel
theorem dX10_monthDays_40 : decode cX10_monthDays 40 = .ok (.bipush 11, 2) := by decide +kernel
theorem dX10_monthDays_42 : decode cX10_monthDays 42 = .ok (.if_icmp .ne 8, 3) := by decide +kernel
theorem dX10_monthDays_45 : decode cX10_monthDays 45 = .ok (.bipush 30, 2) := by decide +kernel
theorem dX10_monthDays_47 : decode cX10_monthDays 47 = .ok (.goto 5, 3) := by decide +kernel
theorem dX10_monthDays_50 : decode cX10_monthDays 50 = .ok (.bipush 31, 2) := by decide +kernel
theorem dX10_monthDays_52 : decode cX10_monthDays 52 = .ok (.ireturn, 1) := by decide +kernel
theorem dX10_dayOf_0 : decode cX10_dayOf 0 = .ok (.iload_n 0, 1) := by decide +kernel
theorem dX10_dayOf_1 : decode cX10_dayOf 1 = .ok (.invokestatic 137, 3) := by decide +kernel
theorem dX10_dayOf_4 : decode cX10_dayOf 4 = .ok (.iload_n 2, 1) := by decide +kernel
theorem dX10_dayOf_5 : decode cX10_dayOf 5 = .ok (.iadd, 1) := by decide +kernel
theorem dX10_dayOf_6 : decode cX10_dayOf 6 = .ok (.iconst 1, 1) := by decide +kernel
theorem dX10_dayOf_7 : decode cX10_dayOf 7 = .ok (.isub, 1) := by decide +kernel
theorem dX10_dayOf_8 : decode cX10_dayOf 8 = .ok (.istore_n 3, 1) := by decide +kernel
theorem dX10_dayOf_9 : decode cX10_dayOf 9 = .ok (.iconst 1, 1) := by decide +kernel
theorem dX10_dayOf_10 : decode cX10_dayOf 10 = .ok (.istore 4, 2) := by decide +kernel
theorem dX10_dayOf_12 : decode cX10_dayOf 12 = .ok (.iload 4, 2) := by decide +kernel
theorem dX10_dayOf_14 : decode cX10_dayOf 14 = .ok (.iload_n 1, 1) := by decide +kernel
theorem dX10_dayOf_15 : decode cX10_dayOf 15 = .ok (.if_icmp .ge 18, 3) := by decide +kernel
theorem dX10_dayOf_18 : decode cX10_dayOf 18 = .ok (.iload_n 3, 1) := by decide +kernel
theorem dX10_dayOf_19 : decode cX10_dayOf 19 = .ok (.iload_n 0, 1) := by decide +kernel
theorem dX10_dayOf_20 : decode cX10_dayOf 20 = .ok (.iload 4, 2) := by decide +kernel
theorem dX10_dayOf_22 : decode cX10_dayOf 22 = .ok (.invokestatic 140, 3) := by decide +kernel
theorem dX10_dayOf_25 : decode cX10_dayOf 25 = .ok (.iadd, 1) := by decide +kernel
theorem dX10_dayOf_26 : decode cX10_dayOf 26 = .ok (.istore_n 3, 1) := by decide +kernel
theorem dX10_dayOf_27 : decode cX10_dayOf 27 = .ok (.iinc 4 1, 3) := by decide +kernel
theorem dX10_dayOf_30 : decode cX10_dayOf 30 = .ok (.goto (-18), 3) := by decide +kernel
theorem dX10_dayOf_33 : decode cX10_dayOf 33 = .ok (.iload_n 3, 1) := by decide +kernel
theorem dX10_dayOf_34 : decode cX10_dayOf 34 = .ok (.ireturn, 1) := by decide +kernel
theorem dX10_isDay_0 : decode cX10_isDay 0 = .ok (.iload_n 0, 1) := by decide +kernel
theorem dX10_isDay_1 : decode cX10_isDay 1 = .ok (.ifCond .lt 13, 3) := by decide +kernel
theorem dX10_isDay_4 : decode cX10_isDay 4 = .ok (.iload_n 0, 1) := by decide +kernel
theorem dX10_isDay_5 : decode cX10_isDay 5 = .ok (.ldc 144, 2) := by decide +kernel
theorem dX10_isDay_7 : decode cX10_isDay 7 = .ok (.if_icmp .gt 7, 3) := by decide +kernel
theorem dX10_isDay_10 : decode cX10_isDay 10 = .ok (.iconst 1, 1) := by decide +kernel
theorem dX10_isDay_11 : decode cX10_isDay 11 = .ok (.goto 4, 3) := by decide +kernel
theorem dX10_isDay_14 : decode cX10_isDay 14 = .ok (.iconst 0, 1) := by decide +kernel
theorem dX10_isDay_15 : decode cX10_isDay 15 = .ok (.ireturn, 1) := by decide +kernel
theorem dX10_yearOf_0 : decode cX10_yearOf 0 = .ok (.sipush 2000, 3) := by decide +kernel
theorem dX10_yearOf_3 : decode cX10_yearOf 3 = .ok (.iload_n 0, 1) := by decide +kernel
theorem dX10_yearOf_4 : decode cX10_yearOf 4 = .ok (.sipush 366, 3) := by decide +kernel
theorem dX10_yearOf_7 : decode cX10_yearOf 7 = .ok (.idiv, 1) := by decide +kernel
theorem dX10_yearOf_8 : decode cX10_yearOf 8 = .ok (.iadd, 1) := by decide +kernel
theorem dX10_yearOf_9 : decode cX10_yearOf 9 = .ok (.istore_n 1, 1) := by decide +kernel
theorem dX10_yearOf_10 : decode cX10_yearOf 10 = .ok (.iload_n 1, 1) := by decide +kernel
theorem dX10_yearOf_11 : decode cX10_yearOf 11 = .ok (.iconst 1, 1) := by decide +kernel
theorem dX10_yearOf_12 : decode cX10_yearOf 12 = .ok (.iadd, 1) := by decide +kernel
theorem dX10_yearOf_13 : decode cX10_yearOf 13 = .ok (.invokestatic 137, 3) := by decide +kernel
theorem dX10_yearOf_16 : decode cX10_yearOf 16 = .ok (.iload_n 0, 1) := by decide +kernel
theorem dX10_yearOf_17 : decode cX10_yearOf 17 = .ok (.if_icmp .gt 9, 3) := by decide +kernel
theorem dX10_yearOf_20 : decode cX10_yearOf 20 = .ok (.iinc 1 1, 3) := by decide +kernel
theorem dX10_yearOf_23 : decode cX10_yearOf 23 = .ok (.goto (-13), 3) := by decide +kernel
theorem dX10_yearOf_26 : decode cX10_yearOf 26 = .ok (.iload_n 1, 1) := by decide +kernel
theorem dX10_yearOf_27 : decode cX10_yearOf 27 = .ok (.ireturn, 1) := by decide +kernel
theorem dX10_monthOf_0 : decode cX10_monthOf 0 = .ok (.iload_n 0, 1) := by decide +kernel
theorem dX10_monthOf_1 : decode cX10_monthOf 1 = .ok (.invokestatic 145, 3) := by decide +kernel
theorem dX10_monthOf_4 : decode cX10_monthOf 4 = .ok (.istore_n 1, 1) := by decide +kernel
theorem dX10_monthOf_5 : decode cX10_monthOf 5 = .ok (.iconst 1, 1) := by decide +kernel
theorem dX10_monthOf_6 : decode cX10_monthOf 6 = .ok (.istore_n 2, 1) := by decide +kernel
theorem dX10_monthOf_7 : decode cX10_monthOf 7 = .ok (.iload_n 2, 1) := by decide +kernel
theorem dX10_monthOf_8 : decode cX10_monthOf 8 = .ok (.bipush 12, 2) := by decide +kernel
theorem dX10_monthOf_10 : decode cX10_monthOf 10 = .ok (.if_icmp .ge 21, 3) := by decide +kernel
theorem dX10_monthOf_13 : decode cX10_monthOf 13 = .ok (.iload_n 1, 1) := by decide +kernel
theorem dX10_monthOf_14 : decode cX10_monthOf 14 = .ok (.iload_n 2, 1) := by decide +kernel
theorem dX10_monthOf_15 : decode cX10_monthOf 15 = .ok (.iconst 1, 1) := by decide +kernel
theorem dX10_monthOf_16 : decode cX10_monthOf 16 = .ok (.iadd, 1) := by decide +kernel
theorem dX10_monthOf_17 : decode cX10_monthOf 17 = .ok (.iconst 1, 1) := by decide +kernel
theorem dX10_monthOf_18 : decode cX10_monthOf 18 = .ok (.invokestatic 148, 3) := by decide +kernel
theorem dX10_monthOf_21 : decode cX10_monthOf 21 = .ok (.iload_n 0, 1) := by decide +kernel
theorem dX10_monthOf_22 : decode cX10_monthOf 22 = .ok (.if_icmp .gt 9, 3) := by decide +kernel
theorem dX10_monthOf_25 : decode cX10_monthOf 25 = .ok (.iinc 2 1, 3) := by decide +kernel
theorem dX10_monthOf_28 : decode cX10_monthOf 28 = .ok (.goto (-21), 3) := by decide +kernel
theorem dX10_monthOf_31 : decode cX10_monthOf 31 = .ok (.iload_n 2, 1) := by decide +kernel
theorem dX10_monthOf_32 : decode cX10_monthOf 32 = .ok (.ireturn, 1) := by decide +kernel
theorem dX10_day_0 : decode cX10_day 0 = .ok (.aload_n 0, 1) := by decide +kernel
theorem dX10_day_1 : decode cX10_day 1 = .ok (.iconst 0, 1) := by decide +kernel
theorem dX10_day_2 : decode cX10_day 2 = .ok (.putfield 126, 3) := by decide +kernel
theorem dX10_day_5 : decode cX10_day 5 = .ok (.iload_n 1, 1) := by decide +kernel
theorem dX10_day_6 : decode cX10_day 6 = .ok (.sipush 2000, 3) := by decide +kernel
theorem dX10_day_9 : decode cX10_day 9 = .ok (.if_icmp .lt 46, 3) := by decide +kernel
theorem dX10_day_12 : decode cX10_day 12 = .ok (.iload_n 1, 1) := by decide +kernel
theorem dX10_day_13 : decode cX10_day 13 = .ok (.sipush 2600, 3) := by decide +kernel
theorem dX10_day_16 : decode cX10_day 16 = .ok (.if_icmp .gt 39, 3) := by decide +kernel
theorem dX10_day_19 : decode cX10_day 19 = .ok (.iload_n 2, 1) := by decide +kernel
theorem dX10_day_20 : decode cX10_day 20 = .ok (.iconst 1, 1) := by decide +kernel
theorem dX10_day_21 : decode cX10_day 21 = .ok (.if_icmp .lt 34, 3) := by decide +kernel
theorem dX10_day_24 : decode cX10_day 24 = .ok (.iload_n 2, 1) := by decide +kernel
theorem dX10_day_25 : decode cX10_day 25 = .ok (.bipush 12, 2) := by decide +kernel
theorem dX10_day_27 : decode cX10_day 27 = .ok (.if_icmp .gt 28, 3) := by decide +kernel
theorem dX10_day_30 : decode cX10_day 30 = .ok (.iload_n 3, 1) := by decide +kernel
theorem dX10_day_31 : decode cX10_day 31 = .ok (.iconst 1, 1) := by decide +kernel
theorem dX10_day_32 : decode cX10_day 32 = .ok (.if_icmp .lt 23, 3) := by decide +kernel
theorem dX10_day_35 : decode cX10_day 35 = .ok (.iload_n 3, 1) := by decide +kernel
theorem dX10_day_36 : decode cX10_day 36 = .ok (.iload_n 1, 1) := by decide +kernel
theorem dX10_day_37 : decode cX10_day 37 = .ok (.iload_n 2, 1) := by decide +kernel
theorem dX10_day_38 : decode cX10_day 38 = .ok (.invokestatic 140, 3) := by decide +kernel
theorem dX10_day_41 : decode cX10_day 41 = .ok (.if_icmp .gt 14, 3) := by decide +kernel
theorem dX10_day_44 : decode cX10_day 44 = .ok (.iload_n 1, 1) := by decide +kernel
theorem dX10_day_45 : decode cX10_day 45 = .ok (.iload_n 2, 1) := by decide +kernel
theorem dX10_day_46 : decode cX10_day 46 = .ok (.iload_n 3, 1) := by decide +kernel
theorem dX10_day_47 : decode cX10_day 47 = .ok (.invokestatic 148, 3) := by decide +kernel
theorem dX10_day_50 : decode cX10_day 50 = .ok (.ldc 144, 2) := by decide +kernel
theorem dX10_day_52 : decode cX10_day 52 = .ok (.if_icmp .le 9, 3) := by decide +kernel
theorem dX10_day_55 : decode cX10_day 55 = .ok (.aload_n 0, 1) := by decide +kernel
theorem dX10_day_56 : decode cX10_day 56 = .ok (.iconst 1, 1) := by decide +kernel
theorem dX10_day_57 : decode cX10_day 57 = .ok (.invokevirtual 152, 3) := by decide +kernel
theorem dX10_day_60 : decode cX10_day 60 = .ok (.ireturn, 1) := by decide +kernel
theorem dX10_day_61 : decode cX10_day 61 = .ok (.iload_n 1, 1) := by decide +kernel
theorem dX10_day_62 : decode cX10_day 62 = .ok (.iload_n 2, 1) := by decide +kernel
theorem dX10_day_63 : decode cX10_day 63 = .ok (.iload_n 3, 1) := by decide +kernel
theorem dX10_day_64 : decode cX10_day 64 = .ok (.invokestatic 148, 3) := by decide +kernel
theorem dX10_day_67 : decode cX10_day 67 = .ok (.ireturn, 1) := by decide +kernel
theorem dX10_date_0 : decode cX10_date 0 = .ok (.aload_n 0, 1) := by decide +kernel
theorem dX10_date_1 : decode cX10_date 1 = .ok (.iconst 0, 1) := by decide +kernel
theorem dX10_date_2 : decode cX10_date 2 = .ok (.putfield 126, 3) := by decide +kernel
theorem dX10_date_5 : decode cX10_date 5 = .ok (.iload_n 1, 1) := by decide +kernel
theorem dX10_date_6 : decode cX10_date 6 = .ok (.invokestatic 155, 3) := by decide +kernel
theorem dX10_date_9 : decode cX10_date 9 = .ok (.ifCond .eq 12, 3) := by decide +kernel
theorem dX10_date_12 : decode cX10_date 12 = .ok (.iload_n 2, 1) := by decide +kernel
theorem dX10_date_13 : decode cX10_date 13 = .ok (.ifCond .lt 8, 3) := by decide +kernel
theorem dX10_date_16 : decode cX10_date 16 = .ok (.iload_n 2, 1) := by decide +kernel
theorem dX10_date_17 : decode cX10_date 17 = .ok (.iconst 2, 1) := by decide +kernel
theorem dX10_date_18 : decode cX10_date 18 = .ok (.if_icmp .le 9, 3) := by decide +kernel
theorem dX10_date_21 : decode cX10_date 21 = .ok (.aload_n 0, 1) := by decide +kernel
theorem dX10_date_22 : decode cX10_date 22 = .ok (.iconst 1, 1) := by decide +kernel
theorem dX10_date_23 : decode cX10_date 23 = .ok (.invokevirtual 152, 3) := by decide +kernel
theorem dX10_date_26 : decode cX10_date 26 = .ok (.ireturn, 1) := by decide +kernel
theorem dX10_date_27 : decode cX10_date 27 = .ok (.iload_n 1, 1) := by decide +kernel
theorem dX10_date_28 : decode cX10_date 28 = .ok (.invokestatic 145, 3) := by decide +kernel
theorem dX10_date_31 : decode cX10_date 31 = .ok (.istore_n 3, 1) := by decide +kernel
theorem dX10_date_32 : decode cX10_date 32 = .ok (.iload_n 1, 1) := by decide +kernel
theorem dX10_date_33 : decode cX10_date 33 = .ok (.invokestatic 158, 3) := by decide +kernel
theorem dX10_date_36 : decode cX10_date 36 = .ok (.istore 4, 2) := by decide +kernel
theorem dX10_date_38 : decode cX10_date 38 = .ok (.iload_n 2, 1) := by decide +kernel
theorem dX10_date_39 : decode cX10_date 39 = .ok (.ifCond .ne 7, 3) := by decide +kernel
theorem dX10_date_42 : decode cX10_date 42 = .ok (.iload_n 3, 1) := by decide +kernel
theorem dX10_date_43 : decode cX10_date 43 = .ok (.goto 24, 3) := by decide +kernel
theorem dX10_date_46 : decode cX10_date 46 = .ok (.iload_n 2, 1) := by decide +kernel
theorem dX10_date_47 : decode cX10_date 47 = .ok (.iconst 1, 1) := by decide +kernel
theorem dX10_date_48 : decode cX10_date 48 = .ok (.if_icmp .ne 8, 3) := by decide +kernel
theorem dX10_date_51 : decode cX10_date 51 = .ok (.iload 4, 2) := by decide +kernel
theorem dX10_date_53 : decode cX10_date 53 = .ok (.goto 14, 3) := by decide +kernel
theorem dX10_date_56 : decode cX10_date 56 = .ok (.iconst 1, 1) := by decide +kernel
theorem dX10_date_57 : decode cX10_date 57 = .ok (.iload_n 1, 1) := by decide +kernel
theorem dX10_date_58 : decode cX10_date 58 = .ok (.iadd, 1) := by decide +kernel
theorem dX10_date_59 : decode cX10_date 59 = .ok (.iload_n 3, 1) := by decide +kernel
theorem dX10_date_60 : decode cX10_date 60 = .ok (.iload 4, 2) := by decide +kernel
theorem dX10_date_62 : decode cX10_date 62 = .ok (.iconst 1, 1) := by decide +kernel
theorem dX10_date_63 : decode cX10_date 63 = .ok (.invokestatic 148, 3) := by decide +kernel
theorem dX10_date_66 : decode cX10_date 66 = .ok (.isub, 1) := by decide +kernel
theorem dX10_date_67 : decode cX10_date 67 = .ok (.ireturn, 1) := by decide +kernel
theorem dX10_behind_0 : decode cX10_behind 0 = .ok (.iload_n 0, 1) := by decide +kernel
theorem dX10_behind_1 : decode cX10_behind 1 = .ok (.invokestatic 145, 3) := by decide +kernel
theorem dX10_behind_4 : decode cX10_behind 4 = .ok (.istore_n 2, 1) := by decide +kernel
theorem dX10_behind_5 : decode cX10_behind 5 = .ok (.iload_n 0, 1) := by decide +kernel
theorem dX10_behind_6 : decode cX10_behind 6 = .ok (.invokestatic 158, 3) := by decide +kernel
theorem dX10_behind_9 : decode cX10_behind 9 = .ok (.istore_n 3, 1) := by decide +kernel
theorem dX10_behind_10 : decode cX10_behind 10 = .ok (.iconst 1, 1) := by decide +kernel
theorem dX10_behind_11 : decode cX10_behind 11 = .ok (.iload_n 0, 1) := by decide +kernel
theorem dX10_behind_12 : decode cX10_behind 12 = .ok (.iadd, 1) := by decide +kernel
theorem dX10_behind_13 : decode cX10_behind 13 = .ok (.iload_n 2, 1) := by decide +kernel
theorem dX10_behind_14 : decode cX10_behind 14 = .ok (.iload_n 3, 1) := by decide +kernel
theorem dX10_behind_15 : decode cX10_behind 15 = .ok (.iconst 1, 1) := by decide +kernel
theorem dX10_behind_16 : decode cX10_behind 16 = .ok (.invokestatic 148, 3) := by decide +kernel
theorem dX10_behind_19 : decode cX10_behind 19 = .ok (.isub, 1) := by decide +kernel
theorem dX10_behind_20 : decode cX10_behind 20 = .ok (.istore 4, 2) := by decide +kernel
theorem dX10_behind_22 : decode cX10_behind 22 = .ok (.bipush 12, 2) := by decide +kernel
theorem dX10_behind_24 : decode cX10_behind 24 = .ok (.iload_n 2, 1) := by decide +kernel
theorem dX10_behind_25 : decode cX10_behind 25 = .ok (.imul, 1) := by decide +kernel
theorem dX10_behind_26 : decode cX10_behind 26 = .ok (.iload_n 3, 1) := by decide +kernel
theorem dX10_behind_27 : decode cX10_behind 27 = .ok (.iadd, 1) := by decide +kernel
theorem dX10_behind_28 : decode cX10_behind 28 = .ok (.iconst 1, 1) := by decide +kernel
theorem dX10_behind_29 : decode cX10_behind 29 = .ok (.isub, 1) := by decide +kernel
theorem dX10_behind_30 : decode cX10_behind 30 = .ok (.iload_n 1, 1) := by decide +kernel
theorem dX10_behind_31 : decode cX10_behind 31 = .ok (.iadd, 1) := by decide +kernel
theorem dX10_behind_32 : decode cX10_behind 32 = .ok (.istore 5, 2) := by decide +kernel
theorem dX10_behind_34 : decode cX10_behind 34 = .ok (.iload 5, 2) := by decide +kernel
theorem dX10_behind_36 : decode cX10_behind 36 = .ok (.bipush 12, 2) := by decide +kernel
theorem dX10_behind_38 : decode cX10_behind 38 = .ok (.idiv, 1) := by decide +kernel
theorem dX10_behind_39 : decode cX10_behind 39 = .ok (.istore 6, 2) := by decide +kernel
theorem dX10_behind_41 : decode cX10_behind 41 = .ok (.iconst 1, 1) := by decide +kernel
theorem dX10_behind_42 : decode cX10_behind 42 = .ok (.iload 5, 2) := by decide +kernel
theorem dX10_behind_44 : decode cX10_behind 44 = .ok (.bipush 12, 2) := by decide +kernel
theorem dX10_behind_46 : decode cX10_behind 46 = .ok (.irem, 1) := by decide +kernel
theorem dX10_behind_47 : decode cX10_behind 47 = .ok (.iadd, 1) := by decide +kernel
theorem dX10_behind_48 : decode cX10_behind 48 = .ok (.istore 7, 2) := by decide +kernel
theorem dX10_behind_50 : decode cX10_behind 50 = .ok (.iload 6, 2) := by decide +kernel
theorem dX10_behind_52 : decode cX10_behind 52 = .ok (.sipush 2600, 3) := by decide +kernel
theorem dX10_behind_55 : decode cX10_behind 55 = .ok (.if_icmp .le 6, 3) := by decide +kernel
theorem dX10_behind_58 : decode cX10_behind 58 = .ok (.ldc 161, 2) := by decide +kernel
theorem dX10_behind_60 : decode cX10_behind 60 = .ok (.ireturn, 1) := by decide +kernel
theorem dX10_behind_61 : decode cX10_behind 61 = .ok (.iload 6, 2) := by decide +kernel
theorem dX10_behind_63 : decode cX10_behind 63 = .ok (.iload 7, 2) := by decide +kernel
theorem dX10_behind_65 : decode cX10_behind 65 = .ok (.iload 4, 2) := by decide +kernel
theorem dX10_behind_67 : decode cX10_behind 67 = .ok (.iload 6, 2) := by decide +kernel
theorem dX10_behind_69 : decode cX10_behind 69 = .ok (.iload 7, 2) := by decide +kernel
theorem dX10_behind_71 : decode cX10_behind 71 = .ok (.invokestatic 140, 3) := by decide +kernel
theorem dX10_behind_74 : decode cX10_behind 74 = .ok (.invokestatic 162, 3) := by decide +kernel
theorem dX10_behind_77 : decode cX10_behind 77 = .ok (.invokestatic 148, 3) := by decide +kernel
theorem dX10_behind_80 : decode cX10_behind 80 = .ok (.istore 8, 2) := by decide +kernel
theorem dX10_behind_82 : decode cX10_behind 82 = .ok (.iload 8, 2) := by decide +kernel
theorem dX10_behind_84 : decode cX10_behind 84 = .ok (.ldc 144, 2) := by decide +kernel
theorem dX10_behind_86 : decode cX10_behind 86 = .ok (.if_icmp .le 8, 3) := by decide +kernel
theorem dX10_behind_89 : decode cX10_behind 89 = .ok (.ldc 161, 2) := by decide +kernel
theorem dX10_behind_91 : decode cX10_behind 91 = .ok (.goto 5, 3) := by decide +kernel
theorem dX10_behind_94 : decode cX10_behind 94 = .ok (.iload 8, 2) := by decide +kernel
theorem dX10_behind_96 : decode cX10_behind 96 = .ok (.ireturn, 1) := by decide +kernel
theorem dX10_later_0 : decode cX10_later 0 = .ok (.aload_n 0, 1) := by decide +kernel
theorem dX10_later_1 : decode cX10_later 1 = .ok (.iconst 0, 1) := by decide +kernel
theorem dX10_later_2 : decode cX10_later 2 = .ok (.putfield 126, 3) := by decide +kernel
theorem dX10_later_5 : decode cX10_later 5 = .ok (.iload_n 1, 1) := by decide +kernel
theorem dX10_later_6 : decode cX10_later 6 = .ok (.invokestatic 155, 3) := by decide +kernel
theorem dX10_later_9 : decode cX10_later 9 = .ok (.ifCond .eq 13, 3) := by decide +kernel
theorem dX10_later_12 : decode cX10_later 12 = .ok (.iload_n 2, 1) := by decide +kernel
theorem dX10_later_13 : decode cX10_later 13 = .ok (.ifCond .lt 9, 3) := by decide +kernel
theorem dX10_later_16 : decode cX10_later 16 = .ok (.iload_n 2, 1) := by decide +kernel
theorem dX10_later_17 : decode cX10_later 17 = .ok (.ldc 167, 2) := by decide +kernel
theorem dX10_later_19 : decode cX10_later 19 = .ok (.if_icmp .le 9, 3) := by decide +kernel
theorem dX10_later_22 : decode cX10_later 22 = .ok (.aload_n 0, 1) := by decide +kernel
theorem dX10_later_23 : decode cX10_later 23 = .ok (.iconst 1, 1) := by decide +kernel
theorem dX10_later_24 : decode cX10_later 24 = .ok (.invokevirtual 152, 3) := by decide +kernel
theorem dX10_later_27 : decode cX10_later 27 = .ok (.ireturn, 1) := by decide +kernel
theorem dX10_later_28 : decode cX10_later 28 = .ok (.iload_n 1, 1) := by decide +kernel
theorem dX10_later_29 : decode cX10_later 29 = .ok (.iload_n 2, 1) := by decide +kernel
theorem dX10_later_30 : decode cX10_later 30 = .ok (.invokestatic 168, 3) := by decide +kernel
theorem dX10_later_33 : decode cX10_later 33 = .ok (.ireturn, 1) := by decide +kernel
theorem dX10_feed_0 : decode cX10_feed 0 = .ok (.aload_n 0, 1) := by decide +kernel
theorem dX10_feed_1 : decode cX10_feed 1 = .ok (.iconst 0, 1) := by decide +kernel
theorem dX10_feed_2 : decode cX10_feed 2 = .ok (.putfield 126, 3) := by decide +kernel
theorem dX10_feed_5 : decode cX10_feed 5 = .ok (.aload_n 0, 1) := by decide +kernel
theorem dX10_feed_6 : decode cX10_feed 6 = .ok (.getfield 171, 3) := by decide +kernel
theorem dX10_feed_9 : decode cX10_feed 9 = .ok (.bipush 20, 2) := by decide +kernel
theorem dX10_feed_11 : decode cX10_feed 11 = .ok (.iadd, 1) := by decide +kernel
theorem dX10_feed_12 : decode cX10_feed 12 = .ok (.sipush 1000, 3) := by decide +kernel
theorem dX10_feed_15 : decode cX10_feed 15 = .ok (.if_icmp .le 5, 3) := by decide +kernel
theorem dX10_feed_18 : decode cX10_feed 18 = .ok (.iconst (-1), 1) := by decide +kernel
theorem dX10_feed_19 : decode cX10_feed 19 = .ok (.ireturn, 1) := by decide +kernel
theorem dX10_feed_20 : decode cX10_feed 20 = .ok (.iconst 0, 1) := by decide +kernel
theorem dX10_feed_21 : decode cX10_feed 21 = .ok (.istore 6, 2) := by decide +kernel
theorem dX10_feed_23 : decode cX10_feed 23 = .ok (.iload 6, 2) := by decide +kernel
theorem dX10_feed_25 : decode cX10_feed 25 = .ok (.bipush 20, 2) := by decide +kernel
theorem dX10_feed_27 : decode cX10_feed 27 = .ok (.if_icmp .ge 93, 3) := by decide +kernel
theorem dX10_feed_30 : decode cX10_feed 30 = .ok (.iload 6, 2) := by decide +kernel
theorem dX10_feed_32 : decode cX10_feed 32 = .ok (.iconst 4, 1) := by decide +kernel
theorem dX10_feed_33 : decode cX10_feed 33 = .ok (.if_icmp .ge 7, 3) := by decide +kernel
theorem dX10_feed_36 : decode cX10_feed 36 = .ok (.iload_n 1, 1) := by decide +kernel
theorem dX10_feed_37 : decode cX10_feed 37 = .ok (.goto 39, 3) := by decide +kernel
theorem dX10_feed_40 : decode cX10_feed 40 = .ok (.iload 6, 2) := by decide +kernel
theorem dX10_feed_42 : decode cX10_feed 42 = .ok (.bipush 8, 2) := by decide +kernel
theorem dX10_feed_44 : decode cX10_feed 44 = .ok (.if_icmp .ge 7, 3) := by decide +kernel
theorem dX10_feed_47 : decode cX10_feed 47 = .ok (.iload_n 2, 1) := by decide +kernel
theorem dX10_feed_48 : decode cX10_feed 48 = .ok (.goto 28, 3) := by decide +kernel
theorem dX10_feed_51 : decode cX10_feed 51 = .ok (.iload 6, 2) := by decide +kernel
theorem dX10_feed_53 : decode cX10_feed 53 = .ok (.bipush 12, 2) := by decide +kernel
theorem dX10_feed_55 : decode cX10_feed 55 = .ok (.if_icmp .ge 7, 3) := by decide +kernel
theorem dX10_feed_58 : decode cX10_feed 58 = .ok (.iload_n 3, 1) := by decide +kernel
theorem dX10_feed_59 : decode cX10_feed 59 = .ok (.goto 17, 3) := by decide +kernel
theorem dX10_feed_62 : decode cX10_feed 62 = .ok (.iload 6, 2) := by decide +kernel
theorem dX10_feed_64 : decode cX10_feed 64 = .ok (.bipush 16, 2) := by decide +kernel
theorem dX10_feed_66 : decode cX10_feed 66 = .ok (.if_icmp .ge 8, 3) := by decide +kernel
theorem dX10_feed_69 : decode cX10_feed 69 = .ok (.iload 4, 2) := by decide +kernel
theorem dX10_feed_71 : decode cX10_feed 71 = .ok (.goto 5, 3) := by decide +kernel
theorem dX10_feed_74 : decode cX10_feed 74 = .ok (.iload 5, 2) := by decide +kernel
theorem dX10_feed_76 : decode cX10_feed 76 = .ok (.istore 7, 2) := by decide +kernel
theorem dX10_feed_78 : decode cX10_feed 78 = .ok (.aload_n 0, 1) := by decide +kernel
theorem dX10_feed_79 : decode cX10_feed 79 = .ok (.getfield 102, 3) := by decide +kernel
theorem dX10_feed_82 : decode cX10_feed 82 = .ok (.aload_n 0, 1) := by decide +kernel
theorem dX10_feed_83 : decode cX10_feed 83 = .ok (.getfield 171, 3) := by decide +kernel
theorem dX10_feed_86 : decode cX10_feed 86 = .ok (.iload 7, 2) := by decide +kernel
theorem dX10_feed_88 : decode cX10_feed 88 = .ok (.bipush 24, 2) := by decide +kernel
theorem dX10_feed_90 : decode cX10_feed 90 = .ok (.bipush 8, 2) := by decide +kernel
theorem dX10_feed_92 : decode cX10_feed 92 = .ok (.iload 6, 2) := by decide +kernel
theorem dX10_feed_94 : decode cX10_feed 94 = .ok (.iconst 4, 1) := by decide +kernel
theorem dX10_feed_95 : decode cX10_feed 95 = .ok (.irem, 1) := by decide +kernel
theorem dX10_feed_96 : decode cX10_feed 96 = .ok (.imul, 1) := by decide +kernel
theorem dX10_feed_97 : decode cX10_feed 97 = .ok (.isub, 1) := by decide +kernel
theorem dX10_feed_98 : decode cX10_feed 98 = .ok (.ishr, 1) := by decide +kernel
theorem dX10_feed_99 : decode cX10_feed 99 = .ok (.sipush 255, 3) := by decide +kernel
theorem dX10_feed_102 : decode cX10_feed 102 = .ok (.iand, 1) := by decide +kernel
theorem dX10_feed_103 : decode cX10_feed 103 = .ok (.iastore, 1) := by decide +kernel
theorem dX10_feed_104 : decode cX10_feed 104 = .ok (.aload_n 0, 1) := by decide +kernel
theorem dX10_feed_105 : decode cX10_feed 105 = .ok (.dup, 1) := by decide +kernel
theorem dX10_feed_106 : decode cX10_feed 106 = .ok (.getfield 171, 3) := by decide +kernel
theorem dX10_feed_109 : decode cX10_feed 109 = .ok (.iconst 1, 1) := by decide +kernel
theorem dX10_feed_110 : decode cX10_feed 110 = .ok (.iadd, 1) := by decide +kernel
theorem dX10_feed_111 : decode cX10_feed 111 = .ok (.putfield 171, 3) := by decide +kernel
theorem dX10_feed_114 : decode cX10_feed 114 = .ok (.iinc 6 1, 3) := by decide +kernel
theorem dX10_feed_117 : decode cX10_feed 117 = .ok (.goto (-94), 3) := by decide +kernel
theorem dX10_feed_120 : decode cX10_feed 120 = .ok (.aload_n 0, 1) := by decide +kernel
theorem dX10_feed_121 : decode cX10_feed 121 = .ok (.getfield 171, 3) := by decide +kernel
theorem dX10_feed_124 : decode cX10_feed 124 = .ok (.ireturn, 1) := by decide +kernel
theorem dX10_byteAt_0 : decode cX10_byteAt 0 = .ok (.iload_n 1, 1) := by decide +kernel
theorem dX10_byteAt_1 : decode cX10_byteAt 1 = .ok (.aload_n 0, 1) := by decide +kernel
theorem dX10_byteAt_2 : decode cX10_byteAt 2 = .ok (.getfield 174, 3) := by decide +kernel
theorem dX10_byteAt_5 : decode cX10_byteAt 5 = .ok (.if_icmp .ge 12, 3) := by decide +kernel
theorem dX10_byteAt_8 : decode cX10_byteAt 8 = .ok (.aload_n 0, 1) := by decide +kernel
theorem dX10_byteAt_9 : decode cX10_byteAt 9 = .ok (.getfield 102, 3) := by decide +kernel
theorem dX10_byteAt_12 : decode cX10_byteAt 12 = .ok (.iload_n 1, 1) := by decide +kernel
theorem dX10_byteAt_13 : decode cX10_byteAt 13 = .ok (.iaload, 1) := by decide +kernel
theorem dX10_byteAt_14 : decode cX10_byteAt 14 = .ok (.goto 4, 3) := by decide +kernel
theorem dX10_byteAt_17 : decode cX10_byteAt 17 = .ok (.iconst (-1), 1) := by decide +kernel
theorem dX10_byteAt_18 : decode cX10_byteAt 18 = .ok (.ireturn, 1) := by decide +kernel
theorem dX10_isLetter_0 : decode cX10_isLetter 0 = .ok (.iload_n 0, 1) := by decide +kernel
theorem dX10_isLetter_1 : decode cX10_isLetter 1 = .ok (.bipush 97, 2) := by decide +kernel
theorem dX10_isLetter_3 : decode cX10_isLetter 3 = .ok (.if_icmp .lt 13, 3) := by decide +kernel
theorem dX10_isLetter_6 : decode cX10_isLetter 6 = .ok (.iload_n 0, 1) := by decide +kernel
theorem dX10_isLetter_7 : decode cX10_isLetter 7 = .ok (.bipush 122, 2) := by decide +kernel
theorem dX10_isLetter_9 : decode cX10_isLetter 9 = .ok (.if_icmp .gt 7, 3) := by decide +kernel
theorem dX10_isLetter_12 : decode cX10_isLetter 12 = .ok (.iconst 1, 1) := by decide +kernel
theorem dX10_isLetter_13 : decode cX10_isLetter 13 = .ok (.goto 4, 3) := by decide +kernel
theorem dX10_isLetter_16 : decode cX10_isLetter 16 = .ok (.iconst 0, 1) := by decide +kernel
theorem dX10_isLetter_17 : decode cX10_isLetter 17 = .ok (.ireturn, 1) := by decide +kernel
theorem dX10_isDigit_0 : decode cX10_isDigit 0 = .ok (.iload_n 0, 1) := by decide +kernel
theorem dX10_isDigit_1 : decode cX10_isDigit 1 = .ok (.bipush 48, 2) := by decide +kernel
theorem dX10_isDigit_3 : decode cX10_isDigit 3 = .ok (.if_icmp .lt 13, 3) := by decide +kernel
theorem dX10_isDigit_6 : decode cX10_isDigit 6 = .ok (.iload_n 0, 1) := by decide +kernel
theorem dX10_isDigit_7 : decode cX10_isDigit 7 = .ok (.bipush 57, 2) := by decide +kernel
theorem dX10_isDigit_9 : decode cX10_isDigit 9 = .ok (.if_icmp .gt 7, 3) := by decide +kernel
theorem dX10_isDigit_12 : decode cX10_isDigit 12 = .ok (.iconst 1, 1) := by decide +kernel
theorem dX10_isDigit_13 : decode cX10_isDigit 13 = .ok (.goto 4, 3) := by decide +kernel
theorem dX10_isDigit_16 : decode cX10_isDigit 16 = .ok (.iconst 0, 1) := by decide +kernel
theorem dX10_isDigit_17 : decode cX10_isDigit 17 = .ok (.ireturn, 1) := by decide +kernel
theorem dX10_step_0 : decode cX10_step 0 = .ok (.aload_n 0, 1) := by decide +kernel
theorem dX10_step_1 : decode cX10_step 1 = .ok (.aload_n 0, 1) := by decide +kernel
theorem dX10_step_2 : decode cX10_step 2 = .ok (.getfield 177, 3) := by decide +kernel
theorem dX10_step_5 : decode cX10_step 5 = .ok (.invokevirtual 180, 3) := by decide +kernel
theorem dX10_step_8 : decode cX10_step 8 = .ok (.bipush 32, 2) := by decide +kernel
theorem dX10_step_10 : decode cX10_step 10 = .ok (.if_icmp .eq 16, 3) := by decide +kernel
theorem dX10_step_13 : decode cX10_step 13 = .ok (.aload_n 0, 1) := by decide +kernel
theorem dX10_step_14 : decode cX10_step 14 = .ok (.aload_n 0, 1) := by decide +kernel
theorem dX10_step_15 : decode cX10_step 15 = .ok (.getfield 177, 3) := by decide +kernel
theorem dX10_step_18 : decode cX10_step 18 = .ok (.invokevirtual 180, 3) := by decide +kernel
theorem dX10_step_21 : decode cX10_step 21 = .ok (.bipush 10, 2) := by decide +kernel
theorem dX10_step_23 : decode cX10_step 23 = .ok (.if_icmp .ne 16, 3) := by decide +kernel
theorem dX10_step_26 : decode cX10_step 26 = .ok (.aload_n 0, 1) := by decide +kernel
theorem dX10_step_27 : decode cX10_step 27 = .ok (.dup, 1) := by decide +kernel
theorem dX10_step_28 : decode cX10_step 28 = .ok (.getfield 177, 3) := by decide +kernel
theorem dX10_step_31 : decode cX10_step 31 = .ok (.iconst 1, 1) := by decide +kernel
theorem dX10_step_32 : decode cX10_step 32 = .ok (.iadd, 1) := by decide +kernel
theorem dX10_step_33 : decode cX10_step 33 = .ok (.putfield 177, 3) := by decide +kernel
theorem dX10_step_36 : decode cX10_step 36 = .ok (.goto (-36), 3) := by decide +kernel
theorem dX10_step_39 : decode cX10_step 39 = .ok (.aload_n 0, 1) := by decide +kernel
theorem dX10_step_40 : decode cX10_step 40 = .ok (.aload_n 0, 1) := by decide +kernel
theorem dX10_step_41 : decode cX10_step 41 = .ok (.getfield 177, 3) := by decide +kernel
theorem dX10_step_44 : decode cX10_step 44 = .ok (.putfield 183, 3) := by decide +kernel
theorem dX10_step_47 : decode cX10_step 47 = .ok (.aload_n 0, 1) := by decide +kernel
theorem dX10_step_48 : decode cX10_step 48 = .ok (.iconst 0, 1) := by decide +kernel
theorem dX10_step_49 : decode cX10_step 49 = .ok (.putfield 186, 3) := by decide +kernel
theorem dX10_step_52 : decode cX10_step 52 = .ok (.aload_n 0, 1) := by decide +kernel
theorem dX10_step_53 : decode cX10_step 53 = .ok (.aload_n 0, 1) := by decide +kernel
theorem dX10_step_54 : decode cX10_step 54 = .ok (.getfield 177, 3) := by decide +kernel
theorem dX10_step_57 : decode cX10_step 57 = .ok (.invokevirtual 180, 3) := by decide +kernel
theorem dX10_step_60 : decode cX10_step 60 = .ok (.istore_n 1, 1) := by decide +kernel
theorem dX10_step_61 : decode cX10_step 61 = .ok (.iload_n 1, 1) := by decide +kernel
theorem dX10_step_62 : decode cX10_step 62 = .ok (.iconst (-1), 1) := by decide +kernel
theorem dX10_step_63 : decode cX10_step 63 = .ok (.if_icmp .ne 11, 3) := by decide +kernel
theorem dX10_step_66 : decode cX10_step 66 = .ok (.aload_n 0, 1) := by decide +kernel
theorem dX10_step_67 : decode cX10_step 67 = .ok (.iconst 0, 1) := by decide +kernel
theorem dX10_step_68 : decode cX10_step 68 = .ok (.putfield 189, 3) := by decide +kernel
theorem dX10_step_71 : decode cX10_step 71 = .ok (.goto 143, 3) := by decide +kernel
theorem dX10_step_74 : decode cX10_step 74 = .ok (.iload_n 1, 1) := by decide +kernel
theorem dX10_step_75 : decode cX10_step 75 = .ok (.invokestatic 192, 3) := by decide +kernel
theorem dX10_step_78 : decode cX10_step 78 = .ok (.ifCond .eq 52, 3) := by decide +kernel
theorem dX10_step_81 : decode cX10_step 81 = .ok (.aload_n 0, 1) := by decide +kernel
theorem dX10_step_82 : decode cX10_step 82 = .ok (.aload_n 0, 1) := by decide +kernel
theorem dX10_step_83 : decode cX10_step 83 = .ok (.getfield 177, 3) := by decide +kernel
theorem dX10_step_86 : decode cX10_step 86 = .ok (.invokevirtual 180, 3) := by decide +kernel
theorem dX10_step_89 : decode cX10_step 89 = .ok (.invokestatic 192, 3) := by decide +kernel
theorem dX10_step_92 : decode cX10_step 92 = .ok (.ifCond .ne 17, 3) := by decide +kernel
theorem dX10_step_95 : decode cX10_step 95 = .ok (.aload_n 0, 1) := by decide +kernel
theorem dX10_step_96 : decode cX10_step 96 = .ok (.aload_n 0, 1) := by decide +kernel
theorem dX10_step_97 : decode cX10_step 97 = .ok (.getfield 177, 3) := by decide +kernel
theorem dX10_step_100 : decode cX10_step 100 = .ok (.invokevirtual 180, 3) := by decide +kernel
theorem dX10_step_103 : decode cX10_step 103 = .ok (.invokestatic 195, 3) := by decide +kernel
theorem dX10_step_106 : decode cX10_step 106 = .ok (.ifCond .eq 16, 3) := by decide +kernel
theorem dX10_step_109 : decode cX10_step 109 = .ok (.aload_n 0, 1) := by decide +kernel
theorem dX10_step_110 : decode cX10_step 110 = .ok (.dup, 1) := by decide +kernel
theorem dX10_step_111 : decode cX10_step 111 = .ok (.getfield 177, 3) := by decide +kernel
theorem dX10_step_114 : decode cX10_step 114 = .ok (.iconst 1, 1) := by decide +kernel
theorem dX10_step_115 : decode cX10_step 115 = .ok (.iadd, 1) := by decide +kernel
theorem dX10_step_116 : decode cX10_step 116 = .ok (.putfield 177, 3) := by decide +kernel
theorem dX10_step_119 : decode cX10_step 119 = .ok (.goto (-38), 3) := by decide +kernel
theorem dX10_step_122 : decode cX10_step 122 = .ok (.aload_n 0, 1) := by decide +kernel
theorem dX10_step_123 : decode cX10_step 123 = .ok (.iconst 1, 1) := by decide +kernel
theorem dX10_step_124 : decode cX10_step 124 = .ok (.putfield 189, 3) := by decide +kernel
theorem dX10_step_127 : decode cX10_step 127 = .ok (.goto 87, 3) := by decide +kernel
theorem dX10_step_130 : decode cX10_step 130 = .ok (.iload_n 1, 1) := by decide +kernel
theorem dX10_step_131 : decode cX10_step 131 = .ok (.invokestatic 195, 3) := by decide +kernel
theorem dX10_step_134 : decode cX10_step 134 = .ok (.ifCond .eq 38, 3) := by decide +kernel
theorem dX10_step_137 : decode cX10_step 137 = .ok (.aload_n 0, 1) := by decide +kernel
theorem dX10_step_138 : decode cX10_step 138 = .ok (.aload_n 0, 1) := by decide +kernel
theorem dX10_step_139 : decode cX10_step 139 = .ok (.getfield 177, 3) := by decide +kernel
theorem dX10_step_142 : decode cX10_step 142 = .ok (.invokevirtual 180, 3) := by decide +kernel
theorem dX10_step_145 : decode cX10_step 145 = .ok (.invokestatic 195, 3) := by decide +kernel
theorem dX10_step_148 : decode cX10_step 148 = .ok (.ifCond .eq 16, 3) := by decide +kernel
theorem dX10_step_151 : decode cX10_step 151 = .ok (.aload_n 0, 1) := by decide +kernel
theorem dX10_step_152 : decode cX10_step 152 = .ok (.dup, 1) := by decide +kernel
theorem dX10_step_153 : decode cX10_step 153 = .ok (.getfield 177, 3) := by decide +kernel
theorem dX10_step_156 : decode cX10_step 156 = .ok (.iconst 1, 1) := by decide +kernel
theorem dX10_step_157 : decode cX10_step 157 = .ok (.iadd, 1) := by decide +kernel
theorem dX10_step_158 : decode cX10_step 158 = .ok (.putfield 177, 3) := by decide +kernel
theorem dX10_step_161 : decode cX10_step 161 = .ok (.goto (-24), 3) := by decide +kernel
theorem dX10_step_164 : decode cX10_step 164 = .ok (.aload_n 0, 1) := by decide +kernel
theorem dX10_step_165 : decode cX10_step 165 = .ok (.iconst 2, 1) := by decide +kernel
theorem dX10_step_166 : decode cX10_step 166 = .ok (.putfield 189, 3) := by decide +kernel
theorem dX10_step_169 : decode cX10_step 169 = .ok (.goto 45, 3) := by decide +kernel
theorem dX10_step_172 : decode cX10_step 172 = .ok (.aload_n 0, 1) := by decide +kernel
theorem dX10_step_173 : decode cX10_step 173 = .ok (.dup, 1) := by decide +kernel
theorem dX10_step_174 : decode cX10_step 174 = .ok (.getfield 177, 3) := by decide +kernel
theorem dX10_step_177 : decode cX10_step 177 = .ok (.iconst 1, 1) := by decide +kernel
theorem dX10_step_178 : decode cX10_step 178 = .ok (.iadd, 1) := by decide +kernel
theorem dX10_step_179 : decode cX10_step 179 = .ok (.putfield 177, 3) := by decide +kernel
theorem dX10_step_182 : decode cX10_step 182 = .ok (.aload_n 0, 1) := by decide +kernel
theorem dX10_step_183 : decode cX10_step 183 = .ok (.iload_n 1, 1) := by decide +kernel
theorem dX10_step_184 : decode cX10_step 184 = .ok (.bipush 59, 2) := by decide +kernel
theorem dX10_step_186 : decode cX10_step 186 = .ok (.if_icmp .eq 15, 3) := by decide +kernel
theorem dX10_step_189 : decode cX10_step 189 = .ok (.iload_n 1, 1) := by decide +kernel
theorem dX10_step_190 : decode cX10_step 190 = .ok (.bipush 61, 2) := by decide +kernel
theorem dX10_step_192 : decode cX10_step 192 = .ok (.if_icmp .eq 9, 3) := by decide +kernel
theorem dX10_step_195 : decode cX10_step 195 = .ok (.iload_n 1, 1) := by decide +kernel
theorem dX10_step_196 : decode cX10_step 196 = .ok (.bipush 60, 2) := by decide +kernel
theorem dX10_step_198 : decode cX10_step 198 = .ok (.if_icmp .ne 7, 3) := by decide +kernel
theorem dX10_step_201 : decode cX10_step 201 = .ok (.iconst 3, 1) := by decide +kernel
theorem dX10_step_202 : decode cX10_step 202 = .ok (.goto 4, 3) := by decide +kernel
theorem dX10_step_205 : decode cX10_step 205 = .ok (.iconst 4, 1) := by decide +kernel
theorem dX10_step_206 : decode cX10_step 206 = .ok (.putfield 189, 3) := by decide +kernel
theorem dX10_step_209 : decode cX10_step 209 = .ok (.aload_n 0, 1) := by decide +kernel
theorem dX10_step_210 : decode cX10_step 210 = .ok (.iload_n 1, 1) := by decide +kernel
theorem dX10_step_211 : decode cX10_step 211 = .ok (.putfield 186, 3) := by decide +kernel
theorem dX10_step_214 : decode cX10_step 214 = .ok (.aload_n 0, 1) := by decide +kernel
theorem dX10_step_215 : decode cX10_step 215 = .ok (.aload_n 0, 1) := by decide +kernel
theorem dX10_step_216 : decode cX10_step 216 = .ok (.getfield 177, 3) := by decide +kernel
theorem dX10_step_219 : decode cX10_step 219 = .ok (.putfield 198, 3) := by decide +kernel
theorem dX10_step_222 : decode cX10_step 222 = .ok (.return_, 1) := by decide +kernel
theorem dX10_wrong_0 : decode cX10_wrong 0 = .ok (.aload_n 0, 1) := by decide +kernel
theorem dX10_wrong_1 : decode cX10_wrong 1 = .ok (.getfield 201, 3) := by decide +kernel
theorem dX10_wrong_4 : decode cX10_wrong 4 = .ok (.ifCond .eq 4, 3) := by decide +kernel
theorem dX10_wrong_7 : decode cX10_wrong 7 = .ok (.return_, 1) := by decide +kernel
theorem dX10_wrong_8 : decode cX10_wrong 8 = .ok (.aload_n 0, 1) := by decide +kernel
theorem dX10_wrong_9 : decode cX10_wrong 9 = .ok (.iload_n 1, 1) := by decide +kernel
theorem dX10_wrong_10 : decode cX10_wrong 10 = .ok (.putfield 201, 3) := by decide +kernel
theorem dX10_wrong_13 : decode cX10_wrong 13 = .ok (.aload_n 0, 1) := by decide +kernel
theorem dX10_wrong_14 : decode cX10_wrong 14 = .ok (.aload_n 0, 1) := by decide +kernel
theorem dX10_wrong_15 : decode cX10_wrong 15 = .ok (.getfield 183, 3) := by decide +kernel
theorem dX10_wrong_18 : decode cX10_wrong 18 = .ok (.putfield 204, 3) := by decide +kernel
theorem dX10_wrong_21 : decode cX10_wrong 21 = .ok (.return_, 1) := by decide +kernel
theorem dX10_isWord_0 : decode cX10_isWord 0 = .ok (.aload_n 0, 1) := by decide +kernel
theorem dX10_isWord_1 : decode cX10_isWord 1 = .ok (.getfield 201, 3) := by decide +kernel
theorem dX10_isWord_4 : decode cX10_isWord 4 = .ok (.ifCond .ne 31, 3) := by decide +kernel
theorem dX10_isWord_7 : decode cX10_isWord 7 = .ok (.aload_n 0, 1) := by decide +kernel
theorem dX10_isWord_8 : decode cX10_isWord 8 = .ok (.getfield 189, 3) := by decide +kernel
theorem dX10_isWord_11 : decode cX10_isWord 11 = .ok (.iconst 1, 1) := by decide +kernel
theorem dX10_isWord_12 : decode cX10_isWord 12 = .ok (.if_icmp .ne 23, 3) := by decide +kernel
theorem dX10_isWord_15 : decode cX10_isWord 15 = .ok (.aload_n 1, 1) := by decide +kernel
theorem dX10_isWord_16 : decode cX10_isWord 16 = .ok (.invokevirtual 207, 3) := by decide +kernel
theorem dX10_isWord_19 : decode cX10_isWord 19 = .ok (.aload_n 0, 1) := by decide +kernel
theorem dX10_isWord_20 : decode cX10_isWord 20 = .ok (.getfield 198, 3) := by decide +kernel
theorem dX10_isWord_23 : decode cX10_isWord 23 = .ok (.aload_n 0, 1) := by decide +kernel
theorem dX10_isWord_24 : decode cX10_isWord 24 = .ok (.getfield 183, 3) := by decide +kernel
theorem dX10_isWord_27 : decode cX10_isWord 27 = .ok (.isub, 1) := by decide +kernel
theorem dX10_isWord_28 : decode cX10_isWord 28 = .ok (.if_icmp .ne 7, 3) := by decide +kernel
theorem dX10_isWord_31 : decode cX10_isWord 31 = .ok (.iconst 1, 1) := by decide +kernel
theorem dX10_isWord_32 : decode cX10_isWord 32 = .ok (.goto 4, 3) := by decide +kernel
theorem dX10_isWord_35 : decode cX10_isWord 35 = .ok (.iconst 0, 1) := by decide +kernel
theorem dX10_isWord_36 : decode cX10_isWord 36 = .ok (.istore_n 2, 1) := by decide +kernel
theorem dX10_isWord_37 : decode cX10_isWord 37 = .ok (.iconst 0, 1) := by decide +kernel
theorem dX10_isWord_38 : decode cX10_isWord 38 = .ok (.istore_n 3, 1) := by decide +kernel
theorem dX10_isWord_39 : decode cX10_isWord 39 = .ok (.iload_n 2, 1) := by decide +kernel
theorem dX10_isWord_40 : decode cX10_isWord 40 = .ok (.ifCond .eq 42, 3) := by decide +kernel
theorem dX10_isWord_43 : decode cX10_isWord 43 = .ok (.iload_n 3, 1) := by decide +kernel
theorem dX10_isWord_44 : decode cX10_isWord 44 = .ok (.aload_n 1, 1) := by decide +kernel
theorem dX10_isWord_45 : decode cX10_isWord 45 = .ok (.invokevirtual 207, 3) := by decide +kernel
theorem dX10_isWord_48 : decode cX10_isWord 48 = .ok (.if_icmp .ge 34, 3) := by decide +kernel
theorem dX10_isWord_51 : decode cX10_isWord 51 = .ok (.aload_n 1, 1) := by decide +kernel
theorem dX10_isWord_52 : decode cX10_isWord 52 = .ok (.iload_n 3, 1) := by decide +kernel
theorem dX10_isWord_53 : decode cX10_isWord 53 = .ok (.invokevirtual 213, 3) := by decide +kernel
theorem dX10_isWord_56 : decode cX10_isWord 56 = .ok (.aload_n 0, 1) := by decide +kernel
theorem dX10_isWord_57 : decode cX10_isWord 57 = .ok (.getfield 102, 3) := by decide +kernel
theorem dX10_isWord_60 : decode cX10_isWord 60 = .ok (.aload_n 0, 1) := by decide +kernel
theorem dX10_isWord_61 : decode cX10_isWord 61 = .ok (.getfield 183, 3) := by decide +kernel
theorem dX10_isWord_64 : decode cX10_isWord 64 = .ok (.iload_n 3, 1) := by decide +kernel
theorem dX10_isWord_65 : decode cX10_isWord 65 = .ok (.iadd, 1) := by decide +kernel
theorem dX10_isWord_66 : decode cX10_isWord 66 = .ok (.iaload, 1) := by decide +kernel
theorem dX10_isWord_67 : decode cX10_isWord 67 = .ok (.if_icmp .ne 7, 3) := by decide +kernel
theorem dX10_isWord_70 : decode cX10_isWord 70 = .ok (.iconst 1, 1) := by decide +kernel
theorem dX10_isWord_71 : decode cX10_isWord 71 = .ok (.goto 4, 3) := by decide +kernel
theorem dX10_isWord_74 : decode cX10_isWord 74 = .ok (.iconst 0, 1) := by decide +kernel
theorem dX10_isWord_75 : decode cX10_isWord 75 = .ok (.istore_n 2, 1) := by decide +kernel
theorem dX10_isWord_76 : decode cX10_isWord 76 = .ok (.iinc 3 1, 3) := by decide +kernel
theorem dX10_isWord_79 : decode cX10_isWord 79 = .ok (.goto (-40), 3) := by decide +kernel
theorem dX10_isWord_82 : decode cX10_isWord 82 = .ok (.iload_n 2, 1) := by decide +kernel
theorem dX10_isWord_83 : decode cX10_isWord 83 = .ok (.ireturn, 1) := by decide +kernel
theorem dX10_numbered_0 : decode cX10_numbered 0 = .ok (.aload_n 0, 1) := by decide +kernel
theorem dX10_numbered_1 : decode cX10_numbered 1 = .ok (.getfield 201, 3) := by decide +kernel
theorem dX10_numbered_4 : decode cX10_numbered 4 = .ok (.ifCond .ne 37, 3) := by decide +kernel
theorem dX10_numbered_7 : decode cX10_numbered 7 = .ok (.aload_n 0, 1) := by decide +kernel
theorem dX10_numbered_8 : decode cX10_numbered 8 = .ok (.getfield 189, 3) := by decide +kernel
theorem dX10_numbered_11 : decode cX10_numbered 11 = .ok (.iconst 1, 1) := by decide +kernel
theorem dX10_numbered_12 : decode cX10_numbered 12 = .ok (.if_icmp .ne 29, 3) := by decide +kernel
theorem dX10_numbered_15 : decode cX10_numbered 15 = .ok (.aload_n 0, 1) := by decide +kernel
theorem dX10_numbered_16 : decode cX10_numbered 16 = .ok (.getfield 198, 3) := by decide +kernel
theorem dX10_numbered_19 : decode cX10_numbered 19 = .ok (.aload_n 0, 1) := by decide +kernel
theorem dX10_numbered_20 : decode cX10_numbered 20 = .ok (.getfield 183, 3) := by decide +kernel
theorem dX10_numbered_23 : decode cX10_numbered 23 = .ok (.iconst 2, 1) := by decide +kernel
theorem dX10_numbered_24 : decode cX10_numbered 24 = .ok (.iadd, 1) := by decide +kernel
theorem dX10_numbered_25 : decode cX10_numbered 25 = .ok (.if_icmp .ne 16, 3) := by decide +kernel
theorem dX10_numbered_28 : decode cX10_numbered 28 = .ok (.aload_n 0, 1) := by decide +kernel
theorem dX10_numbered_29 : decode cX10_numbered 29 = .ok (.getfield 102, 3) := by decide +kernel
theorem dX10_numbered_32 : decode cX10_numbered 32 = .ok (.aload_n 0, 1) := by decide +kernel
theorem dX10_numbered_33 : decode cX10_numbered 33 = .ok (.getfield 183, 3) := by decide +kernel
theorem dX10_numbered_36 : decode cX10_numbered 36 = .ok (.iaload, 1) := by decide +kernel
theorem dX10_numbered_37 : decode cX10_numbered 37 = .ok (.iload_n 1, 1) := by decide +kernel
theorem dX10_numbered_38 : decode cX10_numbered 38 = .ok (.if_icmp .eq 5, 3) := by decide +kernel
theorem dX10_numbered_41 : decode cX10_numbered 41 = .ok (.iconst (-1), 1) := by decide +kernel
theorem dX10_numbered_42 : decode cX10_numbered 42 = .ok (.ireturn, 1) := by decide +kernel
theorem dX10_numbered_43 : decode cX10_numbered 43 = .ok (.aload_n 0, 1) := by decide +kernel
theorem dX10_numbered_44 : decode cX10_numbered 44 = .ok (.getfield 102, 3) := by decide +kernel
theorem dX10_numbered_47 : decode cX10_numbered 47 = .ok (.aload_n 0, 1) := by decide +kernel
theorem dX10_numbered_48 : decode cX10_numbered 48 = .ok (.getfield 183, 3) := by decide +kernel
theorem dX10_numbered_51 : decode cX10_numbered 51 = .ok (.iconst 1, 1) := by decide +kernel
theorem dX10_numbered_52 : decode cX10_numbered 52 = .ok (.iadd, 1) := by decide +kernel
theorem dX10_numbered_53 : decode cX10_numbered 53 = .ok (.iaload, 1) := by decide +kernel
theorem dX10_numbered_54 : decode cX10_numbered 54 = .ok (.bipush 48, 2) := by decide +kernel
theorem dX10_numbered_56 : decode cX10_numbered 56 = .ok (.isub, 1) := by decide +kernel
theorem dX10_numbered_57 : decode cX10_numbered 57 = .ok (.istore_n 3, 1) := by decide +kernel
theorem dX10_numbered_58 : decode cX10_numbered 58 = .ok (.iload_n 3, 1) := by decide +kernel
theorem dX10_numbered_59 : decode cX10_numbered 59 = .ok (.ifCond .lt 12, 3) := by decide +kernel
theorem dX10_numbered_62 : decode cX10_numbered 62 = .ok (.iload_n 3, 1) := by decide +kernel
theorem dX10_numbered_63 : decode cX10_numbered 63 = .ok (.iload_n 2, 1) := by decide +kernel
theorem dX10_numbered_64 : decode cX10_numbered 64 = .ok (.if_icmp .gt 7, 3) := by decide +kernel
theorem dX10_numbered_67 : decode cX10_numbered 67 = .ok (.iload_n 3, 1) := by decide +kernel
theorem dX10_numbered_68 : decode cX10_numbered 68 = .ok (.goto 4, 3) := by decide +kernel
theorem dX10_numbered_71 : decode cX10_numbered 71 = .ok (.iconst (-1), 1) := by decide +kernel
theorem dX10_numbered_72 : decode cX10_numbered 72 = .ok (.ireturn, 1) := by decide +kernel
theorem dX10_word_0 : decode cX10_word 0 = .ok (.aload_n 0, 1) := by decide +kernel
theorem dX10_word_1 : decode cX10_word 1 = .ok (.getfield 201, 3) := by decide +kernel
theorem dX10_word_4 : decode cX10_word 4 = .ok (.ifCond .eq 4, 3) := by decide +kernel
theorem dX10_word_7 : decode cX10_word 7 = .ok (.return_, 1) := by decide +kernel
theorem dX10_word_8 : decode cX10_word 8 = .ok (.aload_n 0, 1) := by decide +kernel
theorem dX10_word_9 : decode cX10_word 9 = .ok (.aload_n 1, 1) := by decide +kernel
theorem dX10_word_10 : decode cX10_word 10 = .ok (.invokevirtual 217, 3) := by decide +kernel
theorem dX10_word_13 : decode cX10_word 13 = .ok (.ifCond .eq 10, 3) := by decide +kernel
theorem dX10_word_16 : decode cX10_word 16 = .ok (.aload_n 0, 1) := by decide +kernel
theorem dX10_word_17 : decode cX10_word 17 = .ok (.invokevirtual 221, 3) := by decide +kernel
theorem dX10_word_20 : decode cX10_word 20 = .ok (.goto 8, 3) := by decide +kernel
theorem dX10_word_23 : decode cX10_word 23 = .ok (.aload_n 0, 1) := by decide +kernel
theorem dX10_word_24 : decode cX10_word 24 = .ok (.iconst 1, 1) := by decide +kernel
theorem dX10_word_25 : decode cX10_word 25 = .ok (.invokevirtual 224, 3) := by decide +kernel
theorem dX10_word_28 : decode cX10_word 28 = .ok (.return_, 1) := by decide +kernel
theorem dX10_readNumbered_0 : decode cX10_readNumbered 0 = .ok (.aload_n 0, 1) := by decide +kernel
theorem dX10_readNumbered_1 : decode cX10_readNumbered 1 = .ok (.iload_n 1, 1) := by decide +kernel
theorem dX10_readNumbered_2 : decode cX10_readNumbered 2 = .ok (.iload_n 2, 1) := by decide +kernel
theorem dX10_readNumbered_3 : decode cX10_readNumbered 3 = .ok (.invokevirtual 228, 3) := by decide +kernel
theorem dX10_readNumbered_6 : decode cX10_readNumbered 6 = .ok (.istore_n 3, 1) := by decide +kernel
theorem dX10_readNumbered_7 : decode cX10_readNumbered 7 = .ok (.iload_n 3, 1) := by decide +kernel
theorem dX10_readNumbered_8 : decode cX10_readNumbered 8 = .ok (.iconst (-1), 1) := by decide +kernel
theorem dX10_readNumbered_9 : decode cX10_readNumbered 9 = .ok (.if_icmp .ne 8, 3) := by decide +kernel
theorem dX10_readNumbered_12 : decode cX10_readNumbered 12 = .ok (.aload_n 0, 1) := by decide +kernel
theorem dX10_readNumbered_13 : decode cX10_readNumbered 13 = .ok (.iconst 1, 1) := by decide +kernel
theorem dX10_readNumbered_14 : decode cX10_readNumbered 14 = .ok (.invokevirtual 224, 3) := by decide +kernel
theorem dX10_readNumbered_17 : decode cX10_readNumbered 17 = .ok (.aload_n 0, 1) := by decide +kernel
theorem dX10_readNumbered_18 : decode cX10_readNumbered 18 = .ok (.getfield 201, 3) := by decide +kernel
theorem dX10_readNumbered_21 : decode cX10_readNumbered 21 = .ok (.ifCond .ne 7, 3) := by decide +kernel
theorem dX10_readNumbered_24 : decode cX10_readNumbered 24 = .ok (.aload_n 0, 1) := by decide +kernel
theorem dX10_readNumbered_25 : decode cX10_readNumbered 25 = .ok (.invokevirtual 221, 3) := by decide +kernel
theorem dX10_readNumbered_28 : decode cX10_readNumbered 28 = .ok (.iload_n 3, 1) := by decide +kernel
theorem dX10_readNumbered_29 : decode cX10_readNumbered 29 = .ok (.ireturn, 1) := by decide +kernel
theorem dX10_readNumber_0 : decode cX10_readNumber 0 = .ok (.aload_n 0, 1) := by decide +kernel
theorem dX10_readNumber_1 : decode cX10_readNumber 1 = .ok (.getfield 201, 3) := by decide +kernel
theorem dX10_readNumber_4 : decode cX10_readNumber 4 = .ok (.ifCond .eq 5, 3) := by decide +kernel
theorem dX10_readNumber_7 : decode cX10_readNumber 7 = .ok (.iconst 0, 1) := by decide +kernel
theorem dX10_readNumber_8 : decode cX10_readNumber 8 = .ok (.ireturn, 1) := by decide +kernel
theorem dX10_readNumber_9 : decode cX10_readNumber 9 = .ok (.aload_n 0, 1) := by decide +kernel
theorem dX10_readNumber_10 : decode cX10_readNumber 10 = .ok (.getfield 189, 3) := by decide +kernel
theorem dX10_readNumber_13 : decode cX10_readNumber 13 = .ok (.iconst 2, 1) := by decide +kernel
theorem dX10_readNumber_14 : decode cX10_readNumber 14 = .ok (.if_icmp .eq 11, 3) := by decide +kernel
theorem dX10_readNumber_17 : decode cX10_readNumber 17 = .ok (.aload_n 0, 1) := by decide +kernel
theorem dX10_readNumber_18 : decode cX10_readNumber 18 = .ok (.iconst 1, 1) := by decide +kernel
theorem dX10_readNumber_19 : decode cX10_readNumber 19 = .ok (.invokevirtual 224, 3) := by decide +kernel
theorem dX10_readNumber_22 : decode cX10_readNumber 22 = .ok (.goto 21, 3) := by decide +kernel
theorem dX10_readNumber_25 : decode cX10_readNumber 25 = .ok (.aload_n 0, 1) := by decide +kernel
theorem dX10_readNumber_26 : decode cX10_readNumber 26 = .ok (.getfield 198, 3) := by decide +kernel
theorem dX10_readNumber_29 : decode cX10_readNumber 29 = .ok (.aload_n 0, 1) := by decide +kernel
theorem dX10_readNumber_30 : decode cX10_readNumber 30 = .ok (.getfield 183, 3) := by decide +kernel
theorem dX10_readNumber_33 : decode cX10_readNumber 33 = .ok (.isub, 1) := by decide +kernel
theorem dX10_readNumber_34 : decode cX10_readNumber 34 = .ok (.iconst 4, 1) := by decide +kernel
theorem dX10_readNumber_35 : decode cX10_readNumber 35 = .ok (.if_icmp .le 8, 3) := by decide +kernel
theorem dX10_readNumber_38 : decode cX10_readNumber 38 = .ok (.aload_n 0, 1) := by decide +kernel
theorem dX10_readNumber_39 : decode cX10_readNumber 39 = .ok (.iconst 2, 1) := by decide +kernel
theorem dX10_readNumber_40 : decode cX10_readNumber 40 = .ok (.invokevirtual 224, 3) := by decide +kernel
theorem dX10_readNumber_43 : decode cX10_readNumber 43 = .ok (.iconst 0, 1) := by decide +kernel
theorem dX10_readNumber_44 : decode cX10_readNumber 44 = .ok (.istore_n 1, 1) := by decide +kernel
theorem dX10_readNumber_45 : decode cX10_readNumber 45 = .ok (.aload_n 0, 1) := by decide +kernel
theorem dX10_readNumber_46 : decode cX10_readNumber 46 = .ok (.getfield 183, 3) := by decide +kernel
theorem dX10_readNumber_49 : decode cX10_readNumber 49 = .ok (.istore_n 2, 1) := by decide +kernel
theorem dX10_readNumber_50 : decode cX10_readNumber 50 = .ok (.iload_n 2, 1) := by decide +kernel
theorem dX10_readNumber_51 : decode cX10_readNumber 51 = .ok (.aload_n 0, 1) := by decide +kernel
theorem dX10_readNumber_52 : decode cX10_readNumber 52 = .ok (.getfield 198, 3) := by decide +kernel
theorem dX10_readNumber_55 : decode cX10_readNumber 55 = .ok (.if_icmp .ge 31, 3) := by decide +kernel
theorem dX10_readNumber_58 : decode cX10_readNumber 58 = .ok (.aload_n 0, 1) := by decide +kernel
theorem dX10_readNumber_59 : decode cX10_readNumber 59 = .ok (.getfield 201, 3) := by decide +kernel
theorem dX10_readNumber_62 : decode cX10_readNumber 62 = .ok (.ifCond .ne 24, 3) := by decide +kernel
theorem dX10_readNumber_65 : decode cX10_readNumber 65 = .ok (.bipush 10, 2) := by decide +kernel
theorem dX10_readNumber_67 : decode cX10_readNumber 67 = .ok (.iload_n 1, 1) := by decide +kernel
theorem dX10_readNumber_68 : decode cX10_readNumber 68 = .ok (.imul, 1) := by decide +kernel
theorem dX10_readNumber_69 : decode cX10_readNumber 69 = .ok (.aload_n 0, 1) := by decide +kernel
theorem dX10_readNumber_70 : decode cX10_readNumber 70 = .ok (.getfield 102, 3) := by decide +kernel
theorem dX10_readNumber_73 : decode cX10_readNumber 73 = .ok (.iload_n 2, 1) := by decide +kernel
theorem dX10_readNumber_74 : decode cX10_readNumber 74 = .ok (.iaload, 1) := by decide +kernel
theorem dX10_readNumber_75 : decode cX10_readNumber 75 = .ok (.iadd, 1) := by decide +kernel
theorem dX10_readNumber_76 : decode cX10_readNumber 76 = .ok (.bipush 48, 2) := by decide +kernel
theorem dX10_readNumber_78 : decode cX10_readNumber 78 = .ok (.isub, 1) := by decide +kernel
theorem dX10_readNumber_79 : decode cX10_readNumber 79 = .ok (.istore_n 1, 1) := by decide +kernel
theorem dX10_readNumber_80 : decode cX10_readNumber 80 = .ok (.iinc 2 1, 3) := by decide +kernel
theorem dX10_readNumber_83 : decode cX10_readNumber 83 = .ok (.goto (-33), 3) := by decide +kernel
theorem dX10_readNumber_86 : decode cX10_readNumber 86 = .ok (.aload_n 0, 1) := by decide +kernel
theorem dX10_readNumber_87 : decode cX10_readNumber 87 = .ok (.getfield 201, 3) := by decide +kernel
theorem dX10_readNumber_90 : decode cX10_readNumber 90 = .ok (.ifCond .ne 7, 3) := by decide +kernel
theorem dX10_readNumber_93 : decode cX10_readNumber 93 = .ok (.aload_n 0, 1) := by decide +kernel
theorem dX10_readNumber_94 : decode cX10_readNumber 94 = .ok (.invokevirtual 221, 3) := by decide +kernel
theorem dX10_readNumber_97 : decode cX10_readNumber 97 = .ok (.iload_n 1, 1) := by decide +kernel
theorem dX10_readNumber_98 : decode cX10_readNumber 98 = .ok (.ireturn, 1) := by decide +kernel
theorem dX10_readWhat_0 : decode cX10_readWhat 0 = .ok (.aload_n 0, 1) := by decide +kernel
theorem dX10_readWhat_1 : decode cX10_readWhat 1 = .ok (.ldc 231, 2) := by decide +kernel
theorem dX10_readWhat_3 : decode cX10_readWhat 3 = .ok (.invokevirtual 217, 3) := by decide +kernel
theorem dX10_readWhat_6 : decode cX10_readWhat 6 = .ok (.ifCond .eq 20, 3) := by decide +kernel
theorem dX10_readWhat_9 : decode cX10_readWhat 9 = .ok (.aload_n 0, 1) := by decide +kernel
theorem dX10_readWhat_10 : decode cX10_readWhat 10 = .ok (.getfield 69, 3) := by decide +kernel
theorem dX10_readWhat_13 : decode cX10_readWhat 13 = .ok (.aload_n 0, 1) := by decide +kernel
theorem dX10_readWhat_14 : decode cX10_readWhat 14 = .ok (.getfield 233, 3) := by decide +kernel
theorem dX10_readWhat_17 : decode cX10_readWhat 17 = .ok (.iconst (-1), 1) := by decide +kernel
theorem dX10_readWhat_18 : decode cX10_readWhat 18 = .ok (.iastore, 1) := by decide +kernel
theorem dX10_readWhat_19 : decode cX10_readWhat 19 = .ok (.aload_n 0, 1) := by decide +kernel
theorem dX10_readWhat_20 : decode cX10_readWhat 20 = .ok (.invokevirtual 221, 3) := by decide +kernel
theorem dX10_readWhat_23 : decode cX10_readWhat 23 = .ok (.goto 19, 3) := by decide +kernel
theorem dX10_readWhat_26 : decode cX10_readWhat 26 = .ok (.aload_n 0, 1) := by decide +kernel
theorem dX10_readWhat_27 : decode cX10_readWhat 27 = .ok (.getfield 69, 3) := by decide +kernel
theorem dX10_readWhat_30 : decode cX10_readWhat 30 = .ok (.aload_n 0, 1) := by decide +kernel
theorem dX10_readWhat_31 : decode cX10_readWhat 31 = .ok (.getfield 233, 3) := by decide +kernel
theorem dX10_readWhat_34 : decode cX10_readWhat 34 = .ok (.aload_n 0, 1) := by decide +kernel
theorem dX10_readWhat_35 : decode cX10_readWhat 35 = .ok (.bipush 107, 2) := by decide +kernel
theorem dX10_readWhat_37 : decode cX10_readWhat 37 = .ok (.iconst 3, 1) := by decide +kernel
theorem dX10_readWhat_38 : decode cX10_readWhat 38 = .ok (.invokevirtual 236, 3) := by decide +kernel
theorem dX10_readWhat_41 : decode cX10_readWhat 41 = .ok (.iastore, 1) := by decide +kernel
theorem dX10_readWhat_42 : decode cX10_readWhat 42 = .ok (.aload_n 0, 1) := by decide +kernel
theorem dX10_readWhat_43 : decode cX10_readWhat 43 = .ok (.ldc 239, 2) := by decide +kernel
theorem dX10_readWhat_45 : decode cX10_readWhat 45 = .ok (.invokevirtual 217, 3) := by decide +kernel
theorem dX10_readWhat_48 : decode cX10_readWhat 48 = .ok (.ifCond .eq 20, 3) := by decide +kernel
theorem dX10_readWhat_51 : decode cX10_readWhat 51 = .ok (.aload_n 0, 1) := by decide +kernel
theorem dX10_readWhat_52 : decode cX10_readWhat 52 = .ok (.getfield 72, 3) := by decide +kernel
theorem dX10_readWhat_55 : decode cX10_readWhat 55 = .ok (.aload_n 0, 1) := by decide +kernel
theorem dX10_readWhat_56 : decode cX10_readWhat 56 = .ok (.getfield 233, 3) := by decide +kernel
theorem dX10_readWhat_59 : decode cX10_readWhat 59 = .ok (.iconst (-1), 1) := by decide +kernel
theorem dX10_readWhat_60 : decode cX10_readWhat 60 = .ok (.iastore, 1) := by decide +kernel
theorem dX10_readWhat_61 : decode cX10_readWhat 61 = .ok (.aload_n 0, 1) := by decide +kernel
theorem dX10_readWhat_62 : decode cX10_readWhat 62 = .ok (.invokevirtual 221, 3) := by decide +kernel
theorem dX10_readWhat_65 : decode cX10_readWhat 65 = .ok (.goto 20, 3) := by decide +kernel
theorem dX10_readWhat_68 : decode cX10_readWhat 68 = .ok (.aload_n 0, 1) := by decide +kernel
theorem dX10_readWhat_69 : decode cX10_readWhat 69 = .ok (.getfield 72, 3) := by decide +kernel
theorem dX10_readWhat_72 : decode cX10_readWhat 72 = .ok (.aload_n 0, 1) := by decide +kernel
theorem dX10_readWhat_73 : decode cX10_readWhat 73 = .ok (.getfield 233, 3) := by decide +kernel
theorem dX10_readWhat_76 : decode cX10_readWhat 76 = .ok (.aload_n 0, 1) := by decide +kernel
theorem dX10_readWhat_77 : decode cX10_readWhat 77 = .ok (.bipush 102, 2) := by decide +kernel
theorem dX10_readWhat_79 : decode cX10_readWhat 79 = .ok (.bipush 7, 2) := by decide +kernel
theorem dX10_readWhat_81 : decode cX10_readWhat 81 = .ok (.invokevirtual 236, 3) := by decide +kernel
theorem dX10_readWhat_84 : decode cX10_readWhat 84 = .ok (.iastore, 1) := by decide +kernel
theorem dX10_readWhat_85 : decode cX10_readWhat 85 = .ok (.return_, 1) := by decide +kernel
theorem dX10_readTests_0 : decode cX10_readTests 0 = .ok (.aload_n 0, 1) := by decide +kernel
theorem dX10_readTests_1 : decode cX10_readTests 1 = .ok (.ldc 241, 2) := by decide +kernel
theorem dX10_readTests_3 : decode cX10_readTests 3 = .ok (.invokevirtual 217, 3) := by decide +kernel
theorem dX10_readTests_6 : decode cX10_readTests 6 = .ok (.istore_n 1, 1) := by decide +kernel
theorem dX10_readTests_7 : decode cX10_readTests 7 = .ok (.iload_n 1, 1) := by decide +kernel
theorem dX10_readTests_8 : decode cX10_readTests 8 = .ok (.ifCond .eq 7, 3) := by decide +kernel
theorem dX10_readTests_11 : decode cX10_readTests 11 = .ok (.aload_n 0, 1) := by decide +kernel
theorem dX10_readTests_12 : decode cX10_readTests 12 = .ok (.invokevirtual 221, 3) := by decide +kernel
theorem dX10_readTests_15 : decode cX10_readTests 15 = .ok (.aload_n 0, 1) := by decide +kernel
theorem dX10_readTests_16 : decode cX10_readTests 16 = .ok (.getfield 201, 3) := by decide +kernel
theorem dX10_readTests_19 : decode cX10_readTests 19 = .ok (.ifCond .ne 195, 3) := by decide +kernel
theorem dX10_readTests_22 : decode cX10_readTests 22 = .ok (.iload_n 1, 1) := by decide +kernel
theorem dX10_readTests_23 : decode cX10_readTests 23 = .ok (.ifCond .eq 191, 3) := by decide +kernel
theorem dX10_readTests_26 : decode cX10_readTests 26 = .ok (.aload_n 0, 1) := by decide +kernel
theorem dX10_readTests_27 : decode cX10_readTests 27 = .ok (.bipush 97, 2) := by decide +kernel
theorem dX10_readTests_29 : decode cX10_readTests 29 = .ok (.iconst 3, 1) := by decide +kernel
theorem dX10_readTests_30 : decode cX10_readTests 30 = .ok (.invokevirtual 228, 3) := by decide +kernel
theorem dX10_readTests_33 : decode cX10_readTests 33 = .ok (.istore_n 2, 1) := by decide +kernel
theorem dX10_readTests_34 : decode cX10_readTests 34 = .ok (.iload_n 2, 1) := by decide +kernel
theorem dX10_readTests_35 : decode cX10_readTests 35 = .ok (.iconst (-1), 1) := by decide +kernel
theorem dX10_readTests_36 : decode cX10_readTests 36 = .ok (.if_icmp .ne 11, 3) := by decide +kernel
theorem dX10_readTests_39 : decode cX10_readTests 39 = .ok (.aload_n 0, 1) := by decide +kernel
theorem dX10_readTests_40 : decode cX10_readTests 40 = .ok (.iconst 1, 1) := by decide +kernel
theorem dX10_readTests_41 : decode cX10_readTests 41 = .ok (.invokevirtual 224, 3) := by decide +kernel
theorem dX10_readTests_44 : decode cX10_readTests 44 = .ok (.goto 21, 3) := by decide +kernel
theorem dX10_readTests_47 : decode cX10_readTests 47 = .ok (.aload_n 0, 1) := by decide +kernel
theorem dX10_readTests_48 : decode cX10_readTests 48 = .ok (.getfield 90, 3) := by decide +kernel
theorem dX10_readTests_51 : decode cX10_readTests 51 = .ok (.aload_n 0, 1) := by decide +kernel
theorem dX10_readTests_52 : decode cX10_readTests 52 = .ok (.getfield 233, 3) := by decide +kernel
theorem dX10_readTests_55 : decode cX10_readTests 55 = .ok (.iaload, 1) := by decide +kernel
theorem dX10_readTests_56 : decode cX10_readTests 56 = .ok (.iconst 4, 1) := by decide +kernel
theorem dX10_readTests_57 : decode cX10_readTests 57 = .ok (.if_icmp .ne 8, 3) := by decide +kernel
theorem dX10_readTests_60 : decode cX10_readTests 60 = .ok (.aload_n 0, 1) := by decide +kernel
theorem dX10_readTests_61 : decode cX10_readTests 61 = .ok (.iconst 2, 1) := by decide +kernel
theorem dX10_readTests_62 : decode cX10_readTests 62 = .ok (.invokevirtual 224, 3) := by decide +kernel
theorem dX10_readTests_65 : decode cX10_readTests 65 = .ok (.aload_n 0, 1) := by decide +kernel
theorem dX10_readTests_66 : decode cX10_readTests 66 = .ok (.getfield 201, 3) := by decide +kernel
theorem dX10_readTests_69 : decode cX10_readTests 69 = .ok (.ifCond .eq 4, 3) := by decide +kernel
theorem dX10_readTests_72 : decode cX10_readTests 72 = .ok (.return_, 1) := by decide +kernel
theorem dX10_readTests_73 : decode cX10_readTests 73 = .ok (.aload_n 0, 1) := by decide +kernel
theorem dX10_readTests_74 : decode cX10_readTests 74 = .ok (.invokevirtual 221, 3) := by decide +kernel
theorem dX10_readTests_77 : decode cX10_readTests 77 = .ok (.aload_n 0, 1) := by decide +kernel
theorem dX10_readTests_78 : decode cX10_readTests 78 = .ok (.getfield 189, 3) := by decide +kernel
theorem dX10_readTests_81 : decode cX10_readTests 81 = .ok (.iconst 3, 1) := by decide +kernel
theorem dX10_readTests_82 : decode cX10_readTests 82 = .ok (.if_icmp .ne 16, 3) := by decide +kernel
theorem dX10_readTests_85 : decode cX10_readTests 85 = .ok (.aload_n 0, 1) := by decide +kernel
theorem dX10_readTests_86 : decode cX10_readTests 86 = .ok (.getfield 186, 3) := by decide +kernel
theorem dX10_readTests_89 : decode cX10_readTests 89 = .ok (.bipush 60, 2) := by decide +kernel
theorem dX10_readTests_91 : decode cX10_readTests 91 = .ok (.if_icmp .ne 7, 3) := by decide +kernel
theorem dX10_readTests_94 : decode cX10_readTests 94 = .ok (.iconst 1, 1) := by decide +kernel
theorem dX10_readTests_95 : decode cX10_readTests 95 = .ok (.goto 4, 3) := by decide +kernel
theorem dX10_readTests_98 : decode cX10_readTests 98 = .ok (.iconst 0, 1) := by decide +kernel
theorem dX10_readTests_99 : decode cX10_readTests 99 = .ok (.istore_n 3, 1) := by decide +kernel
theorem dX10_readTests_100 : decode cX10_readTests 100 = .ok (.iload_n 3, 1) := by decide +kernel
theorem dX10_readTests_101 : decode cX10_readTests 101 = .ok (.ifCond .ne 25, 3) := by decide +kernel
theorem dX10_readTests_104 : decode cX10_readTests 104 = .ok (.aload_n 0, 1) := by decide +kernel
theorem dX10_readTests_105 : decode cX10_readTests 105 = .ok (.getfield 189, 3) := by decide +kernel
theorem dX10_readTests_108 : decode cX10_readTests 108 = .ok (.iconst 3, 1) := by decide +kernel
theorem dX10_readTests_109 : decode cX10_readTests 109 = .ok (.if_icmp .ne 12, 3) := by decide +kernel
theorem dX10_readTests_112 : decode cX10_readTests 112 = .ok (.aload_n 0, 1) := by decide +kernel
theorem dX10_readTests_113 : decode cX10_readTests 113 = .ok (.getfield 186, 3) := by decide +kernel
theorem dX10_readTests_116 : decode cX10_readTests 116 = .ok (.bipush 61, 2) := by decide +kernel
theorem dX10_readTests_118 : decode cX10_readTests 118 = .ok (.if_icmp .eq 8, 3) := by decide +kernel
theorem dX10_readTests_121 : decode cX10_readTests 121 = .ok (.aload_n 0, 1) := by decide +kernel
theorem dX10_readTests_122 : decode cX10_readTests 122 = .ok (.iconst 1, 1) := by decide +kernel
theorem dX10_readTests_123 : decode cX10_readTests 123 = .ok (.invokevirtual 224, 3) := by decide +kernel
theorem dX10_readTests_126 : decode cX10_readTests 126 = .ok (.aload_n 0, 1) := by decide +kernel
theorem dX10_readTests_127 : decode cX10_readTests 127 = .ok (.getfield 201, 3) := by decide +kernel
theorem dX10_readTests_130 : decode cX10_readTests 130 = .ok (.ifCond .eq 4, 3) := by decide +kernel
theorem dX10_readTests_133 : decode cX10_readTests 133 = .ok (.return_, 1) := by decide +kernel
theorem dX10_readTests_134 : decode cX10_readTests 134 = .ok (.aload_n 0, 1) := by decide +kernel
theorem dX10_readTests_135 : decode cX10_readTests 135 = .ok (.invokevirtual 221, 3) := by decide +kernel
theorem dX10_readTests_138 : decode cX10_readTests 138 = .ok (.iconst 4, 1) := by decide +kernel
theorem dX10_readTests_139 : decode cX10_readTests 139 = .ok (.aload_n 0, 1) := by decide +kernel
theorem dX10_readTests_140 : decode cX10_readTests 140 = .ok (.getfield 233, 3) := by decide +kernel
theorem dX10_readTests_143 : decode cX10_readTests 143 = .ok (.imul, 1) := by decide +kernel
theorem dX10_readTests_144 : decode cX10_readTests 144 = .ok (.aload_n 0, 1) := by decide +kernel
theorem dX10_readTests_145 : decode cX10_readTests 145 = .ok (.getfield 90, 3) := by decide +kernel
theorem dX10_readTests_148 : decode cX10_readTests 148 = .ok (.aload_n 0, 1) := by decide +kernel
theorem dX10_readTests_149 : decode cX10_readTests 149 = .ok (.getfield 233, 3) := by decide +kernel
theorem dX10_readTests_152 : decode cX10_readTests 152 = .ok (.iaload, 1) := by decide +kernel
theorem dX10_readTests_153 : decode cX10_readTests 153 = .ok (.iadd, 1) := by decide +kernel
theorem dX10_readTests_154 : decode cX10_readTests 154 = .ok (.istore 4, 2) := by decide +kernel
theorem dX10_readTests_156 : decode cX10_readTests 156 = .ok (.aload_n 0, 1) := by decide +kernel
theorem dX10_readTests_157 : decode cX10_readTests 157 = .ok (.getfield 93, 3) := by decide +kernel
theorem dX10_readTests_160 : decode cX10_readTests 160 = .ok (.iload 4, 2) := by decide +kernel
theorem dX10_readTests_162 : decode cX10_readTests 162 = .ok (.iload_n 2, 1) := by decide +kernel
theorem dX10_readTests_163 : decode cX10_readTests 163 = .ok (.iastore, 1) := by decide +kernel
theorem dX10_readTests_164 : decode cX10_readTests 164 = .ok (.aload_n 0, 1) := by decide +kernel
theorem dX10_readTests_165 : decode cX10_readTests 165 = .ok (.getfield 99, 3) := by decide +kernel
theorem dX10_readTests_168 : decode cX10_readTests 168 = .ok (.iload 4, 2) := by decide +kernel
theorem dX10_readTests_170 : decode cX10_readTests 170 = .ok (.iload_n 3, 1) := by decide +kernel
theorem dX10_readTests_171 : decode cX10_readTests 171 = .ok (.bastore, 1) := by decide +kernel
theorem dX10_readTests_172 : decode cX10_readTests 172 = .ok (.aload_n 0, 1) := by decide +kernel
theorem dX10_readTests_173 : decode cX10_readTests 173 = .ok (.getfield 96, 3) := by decide +kernel
theorem dX10_readTests_176 : decode cX10_readTests 176 = .ok (.iload 4, 2) := by decide +kernel
theorem dX10_readTests_178 : decode cX10_readTests 178 = .ok (.aload_n 0, 1) := by decide +kernel
theorem dX10_readTests_179 : decode cX10_readTests 179 = .ok (.invokevirtual 243, 3) := by decide +kernel
theorem dX10_readTests_182 : decode cX10_readTests 182 = .ok (.iastore, 1) := by decide +kernel
theorem dX10_readTests_183 : decode cX10_readTests 183 = .ok (.aload_n 0, 1) := by decide +kernel
theorem dX10_readTests_184 : decode cX10_readTests 184 = .ok (.getfield 90, 3) := by decide +kernel
theorem dX10_readTests_187 : decode cX10_readTests 187 = .ok (.aload_n 0, 1) := by decide +kernel
theorem dX10_readTests_188 : decode cX10_readTests 188 = .ok (.getfield 233, 3) := by decide +kernel
theorem dX10_readTests_191 : decode cX10_readTests 191 = .ok (.dup2, 1) := by decide +kernel
theorem dX10_readTests_192 : decode cX10_readTests 192 = .ok (.iaload, 1) := by decide +kernel
theorem dX10_readTests_193 : decode cX10_readTests 193 = .ok (.iconst 1, 1) := by decide +kernel
theorem dX10_readTests_194 : decode cX10_readTests 194 = .ok (.iadd, 1) := by decide +kernel
theorem dX10_readTests_195 : decode cX10_readTests 195 = .ok (.iastore, 1) := by decide +kernel
theorem dX10_readTests_196 : decode cX10_readTests 196 = .ok (.aload_n 0, 1) := by decide +kernel
theorem dX10_readTests_197 : decode cX10_readTests 197 = .ok (.ldc 246, 2) := by decide +kernel
theorem dX10_readTests_199 : decode cX10_readTests 199 = .ok (.invokevirtual 217, 3) := by decide +kernel
theorem dX10_readTests_202 : decode cX10_readTests 202 = .ok (.istore_n 1, 1) := by decide +kernel
theorem dX10_readTests_203 : decode cX10_readTests 203 = .ok (.iload_n 1, 1) := by decide +kernel
theorem dX10_readTests_204 : decode cX10_readTests 204 = .ok (.ifCond .eq 7, 3) := by decide +kernel
theorem dX10_readTests_207 : decode cX10_readTests 207 = .ok (.aload_n 0, 1) := by decide +kernel
theorem dX10_readTests_208 : decode cX10_readTests 208 = .ok (.invokevirtual 221, 3) := by decide +kernel
theorem dX10_readTests_211 : decode cX10_readTests 211 = .ok (.goto (-196), 3) := by decide +kernel
theorem dX10_readTests_214 : decode cX10_readTests 214 = .ok (.return_, 1) := by decide +kernel
theorem dX10_readRule_0 : decode cX10_readRule 0 = .ok (.aload_n 0, 1) := by decide +kernel
theorem dX10_readRule_1 : decode cX10_readRule 1 = .ok (.ldc 248, 2) := by decide +kernel
theorem dX10_readRule_3 : decode cX10_readRule 3 = .ok (.invokevirtual 217, 3) := by decide +kernel
theorem dX10_readRule_6 : decode cX10_readRule 6 = .ok (.istore_n 1, 1) := by decide +kernel
theorem dX10_readRule_7 : decode cX10_readRule 7 = .ok (.aload_n 0, 1) := by decide +kernel
theorem dX10_readRule_8 : decode cX10_readRule 8 = .ok (.ldc 250, 2) := by decide +kernel
theorem dX10_readRule_10 : decode cX10_readRule 10 = .ok (.invokevirtual 217, 3) := by decide +kernel
theorem dX10_readRule_13 : decode cX10_readRule 13 = .ok (.istore_n 2, 1) := by decide +kernel
theorem dX10_readRule_14 : decode cX10_readRule 14 = .ok (.aload_n 0, 1) := by decide +kernel
theorem dX10_readRule_15 : decode cX10_readRule 15 = .ok (.getfield 66, 3) := by decide +kernel
theorem dX10_readRule_18 : decode cX10_readRule 18 = .ok (.aload_n 0, 1) := by decide +kernel
theorem dX10_readRule_19 : decode cX10_readRule 19 = .ok (.getfield 233, 3) := by decide +kernel
theorem dX10_readRule_22 : decode cX10_readRule 22 = .ok (.iload_n 1, 1) := by decide +kernel
theorem dX10_readRule_23 : decode cX10_readRule 23 = .ok (.ifCond .eq 7, 3) := by decide +kernel
theorem dX10_readRule_26 : decode cX10_readRule 26 = .ok (.iconst 0, 1) := by decide +kernel
theorem dX10_readRule_27 : decode cX10_readRule 27 = .ok (.goto 12, 3) := by decide +kernel
theorem dX10_readRule_30 : decode cX10_readRule 30 = .ok (.iload_n 2, 1) := by decide +kernel
theorem dX10_readRule_31 : decode cX10_readRule 31 = .ok (.ifCond .eq 7, 3) := by decide +kernel
theorem dX10_readRule_34 : decode cX10_readRule 34 = .ok (.iconst 1, 1) := by decide +kernel
theorem dX10_readRule_35 : decode cX10_readRule 35 = .ok (.goto 4, 3) := by decide +kernel
theorem dX10_readRule_38 : decode cX10_readRule 38 = .ok (.iconst 2, 1) := by decide +kernel
theorem dX10_readRule_39 : decode cX10_readRule 39 = .ok (.iastore, 1) := by decide +kernel
theorem dX10_readRule_40 : decode cX10_readRule 40 = .ok (.aload_n 0, 1) := by decide +kernel
theorem dX10_readRule_41 : decode cX10_readRule 41 = .ok (.invokevirtual 221, 3) := by decide +kernel
theorem dX10_readRule_44 : decode cX10_readRule 44 = .ok (.aload_n 0, 1) := by decide +kernel
theorem dX10_readRule_45 : decode cX10_readRule 45 = .ok (.invokevirtual 252, 3) := by decide +kernel
theorem dX10_readRule_48 : decode cX10_readRule 48 = .ok (.aload_n 0, 1) := by decide +kernel
theorem dX10_readRule_49 : decode cX10_readRule 49 = .ok (.getfield 84, 3) := by decide +kernel
theorem dX10_readRule_52 : decode cX10_readRule 52 = .ok (.aload_n 0, 1) := by decide +kernel
theorem dX10_readRule_53 : decode cX10_readRule 53 = .ok (.getfield 233, 3) := by decide +kernel
theorem dX10_readRule_56 : decode cX10_readRule 56 = .ok (.iconst 0, 1) := by decide +kernel
theorem dX10_readRule_57 : decode cX10_readRule 57 = .ok (.iastore, 1) := by decide +kernel
theorem dX10_readRule_58 : decode cX10_readRule 58 = .ok (.aload_n 0, 1) := by decide +kernel
theorem dX10_readRule_59 : decode cX10_readRule 59 = .ok (.getfield 90, 3) := by decide +kernel
theorem dX10_readRule_62 : decode cX10_readRule 62 = .ok (.aload_n 0, 1) := by decide +kernel
theorem dX10_readRule_63 : decode cX10_readRule 63 = .ok (.getfield 233, 3) := by decide +kernel
theorem dX10_readRule_66 : decode cX10_readRule 66 = .ok (.iconst 0, 1) := by decide +kernel
theorem dX10_readRule_67 : decode cX10_readRule 67 = .ok (.iastore, 1) := by decide +kernel
theorem dX10_readRule_68 : decode cX10_readRule 68 = .ok (.aload_n 0, 1) := by decide +kernel
theorem dX10_readRule_69 : decode cX10_readRule 69 = .ok (.getfield 87, 3) := by decide +kernel
theorem dX10_readRule_72 : decode cX10_readRule 72 = .ok (.aload_n 0, 1) := by decide +kernel
theorem dX10_readRule_73 : decode cX10_readRule 73 = .ok (.getfield 233, 3) := by decide +kernel
theorem dX10_readRule_76 : decode cX10_readRule 76 = .ok (.iconst 0, 1) := by decide +kernel
theorem dX10_readRule_77 : decode cX10_readRule 77 = .ok (.iastore, 1) := by decide +kernel
theorem dX10_readRule_78 : decode cX10_readRule 78 = .ok (.iload_n 1, 1) := by decide +kernel
theorem dX10_readRule_79 : decode cX10_readRule 79 = .ok (.ifCond .ne 7, 3) := by decide +kernel
theorem dX10_readRule_82 : decode cX10_readRule 82 = .ok (.iload_n 2, 1) := by decide +kernel
theorem dX10_readRule_83 : decode cX10_readRule 83 = .ok (.ifCond .eq 130, 3) := by decide +kernel
theorem dX10_readRule_86 : decode cX10_readRule 86 = .ok (.aload_n 0, 1) := by decide +kernel
theorem dX10_readRule_87 : decode cX10_readRule 87 = .ok (.getfield 75, 3) := by decide +kernel
theorem dX10_readRule_90 : decode cX10_readRule 90 = .ok (.aload_n 0, 1) := by decide +kernel
theorem dX10_readRule_91 : decode cX10_readRule 91 = .ok (.getfield 233, 3) := by decide +kernel
theorem dX10_readRule_94 : decode cX10_readRule 94 = .ok (.aload_n 0, 1) := by decide +kernel
theorem dX10_readRule_95 : decode cX10_readRule 95 = .ok (.invokevirtual 243, 3) := by decide +kernel
theorem dX10_readRule_98 : decode cX10_readRule 98 = .ok (.iastore, 1) := by decide +kernel
theorem dX10_readRule_99 : decode cX10_readRule 99 = .ok (.aload_n 0, 1) := by decide +kernel
theorem dX10_readRule_100 : decode cX10_readRule 100 = .ok (.getfield 78, 3) := by decide +kernel
theorem dX10_readRule_103 : decode cX10_readRule 103 = .ok (.aload_n 0, 1) := by decide +kernel
theorem dX10_readRule_104 : decode cX10_readRule 104 = .ok (.getfield 233, 3) := by decide +kernel
theorem dX10_readRule_107 : decode cX10_readRule 107 = .ok (.aload_n 0, 1) := by decide +kernel
theorem dX10_readRule_108 : decode cX10_readRule 108 = .ok (.ldc 255, 2) := by decide +kernel
theorem dX10_readRule_110 : decode cX10_readRule 110 = .ok (.invokevirtual 217, 3) := by decide +kernel
theorem dX10_readRule_113 : decode cX10_readRule 113 = .ok (.ifCond .eq 7, 3) := by decide +kernel
theorem dX10_readRule_116 : decode cX10_readRule 116 = .ok (.iconst 0, 1) := by decide +kernel
theorem dX10_readRule_117 : decode cX10_readRule 117 = .ok (.goto 33, 3) := by decide +kernel
theorem dX10_readRule_120 : decode cX10_readRule 120 = .ok (.aload_n 0, 1) := by decide +kernel
theorem dX10_readRule_121 : decode cX10_readRule 121 = .ok (.ldc_w 257, 3) := by decide +kernel
theorem dX10_readRule_124 : decode cX10_readRule 124 = .ok (.invokevirtual 217, 3) := by decide +kernel
theorem dX10_readRule_127 : decode cX10_readRule 127 = .ok (.ifCond .eq 7, 3) := by decide +kernel
theorem dX10_readRule_130 : decode cX10_readRule 130 = .ok (.iconst 1, 1) := by decide +kernel
theorem dX10_readRule_131 : decode cX10_readRule 131 = .ok (.goto 19, 3) := by decide +kernel
theorem dX10_readRule_134 : decode cX10_readRule 134 = .ok (.aload_n 0, 1) := by decide +kernel
theorem dX10_readRule_135 : decode cX10_readRule 135 = .ok (.ldc_w 259, 3) := by decide +kernel
theorem dX10_readRule_138 : decode cX10_readRule 138 = .ok (.invokevirtual 217, 3) := by decide +kernel
theorem dX10_readRule_141 : decode cX10_readRule 141 = .ok (.ifCond .eq 8, 3) := by decide +kernel
theorem dX10_readRule_144 : decode cX10_readRule 144 = .ok (.bipush 12, 2) := by decide +kernel
theorem dX10_readRule_146 : decode cX10_readRule 146 = .ok (.goto 4, 3) := by decide +kernel
theorem dX10_readRule_149 : decode cX10_readRule 149 = .ok (.iconst (-1), 1) := by decide +kernel
theorem dX10_readRule_150 : decode cX10_readRule 150 = .ok (.iastore, 1) := by decide +kernel
theorem dX10_readRule_151 : decode cX10_readRule 151 = .ok (.aload_n 0, 1) := by decide +kernel
theorem dX10_readRule_152 : decode cX10_readRule 152 = .ok (.getfield 201, 3) := by decide +kernel
theorem dX10_readRule_155 : decode cX10_readRule 155 = .ok (.ifCond .ne 21, 3) := by decide +kernel
theorem dX10_readRule_158 : decode cX10_readRule 158 = .ok (.aload_n 0, 1) := by decide +kernel
theorem dX10_readRule_159 : decode cX10_readRule 159 = .ok (.getfield 78, 3) := by decide +kernel
theorem dX10_readRule_162 : decode cX10_readRule 162 = .ok (.aload_n 0, 1) := by decide +kernel
theorem dX10_readRule_163 : decode cX10_readRule 163 = .ok (.getfield 233, 3) := by decide +kernel
theorem dX10_readRule_166 : decode cX10_readRule 166 = .ok (.iaload, 1) := by decide +kernel
theorem dX10_readRule_167 : decode cX10_readRule 167 = .ok (.iconst (-1), 1) := by decide +kernel
theorem dX10_readRule_168 : decode cX10_readRule 168 = .ok (.if_icmp .ne 8, 3) := by decide +kernel
theorem dX10_readRule_171 : decode cX10_readRule 171 = .ok (.aload_n 0, 1) := by decide +kernel
theorem dX10_readRule_172 : decode cX10_readRule 172 = .ok (.iconst 1, 1) := by decide +kernel
theorem dX10_readRule_173 : decode cX10_readRule 173 = .ok (.invokevirtual 224, 3) := by decide +kernel
theorem dX10_readRule_176 : decode cX10_readRule 176 = .ok (.aload_n 0, 1) := by decide +kernel
theorem dX10_readRule_177 : decode cX10_readRule 177 = .ok (.getfield 201, 3) := by decide +kernel
theorem dX10_readRule_180 : decode cX10_readRule 180 = .ok (.ifCond .ne 7, 3) := by decide +kernel
theorem dX10_readRule_183 : decode cX10_readRule 183 = .ok (.aload_n 0, 1) := by decide +kernel
theorem dX10_readRule_184 : decode cX10_readRule 184 = .ok (.invokevirtual 221, 3) := by decide +kernel
theorem dX10_readRule_187 : decode cX10_readRule 187 = .ok (.aload_n 0, 1) := by decide +kernel
theorem dX10_readRule_188 : decode cX10_readRule 188 = .ok (.ldc_w 261, 3) := by decide +kernel
theorem dX10_readRule_191 : decode cX10_readRule 191 = .ok (.invokevirtual 262, 3) := by decide +kernel
theorem dX10_readRule_194 : decode cX10_readRule 194 = .ok (.aload_n 0, 1) := by decide +kernel
theorem dX10_readRule_195 : decode cX10_readRule 195 = .ok (.getfield 81, 3) := by decide +kernel
theorem dX10_readRule_198 : decode cX10_readRule 198 = .ok (.aload_n 0, 1) := by decide +kernel
theorem dX10_readRule_199 : decode cX10_readRule 199 = .ok (.getfield 233, 3) := by decide +kernel
theorem dX10_readRule_202 : decode cX10_readRule 202 = .ok (.aload_n 0, 1) := by decide +kernel
theorem dX10_readRule_203 : decode cX10_readRule 203 = .ok (.bipush 101, 2) := by decide +kernel
theorem dX10_readRule_205 : decode cX10_readRule 205 = .ok (.iconst 3, 1) := by decide +kernel
theorem dX10_readRule_206 : decode cX10_readRule 206 = .ok (.invokevirtual 236, 3) := by decide +kernel
theorem dX10_readRule_209 : decode cX10_readRule 209 = .ok (.iastore, 1) := by decide +kernel
theorem dX10_readRule_210 : decode cX10_readRule 210 = .ok (.goto 92, 3) := by decide +kernel
theorem dX10_readRule_213 : decode cX10_readRule 213 = .ok (.aload_n 0, 1) := by decide +kernel
theorem dX10_readRule_214 : decode cX10_readRule 214 = .ok (.bipush 115, 2) := by decide +kernel
theorem dX10_readRule_216 : decode cX10_readRule 216 = .ok (.iconst 3, 1) := by decide +kernel
theorem dX10_readRule_217 : decode cX10_readRule 217 = .ok (.invokevirtual 236, 3) := by decide +kernel
theorem dX10_readRule_220 : decode cX10_readRule 220 = .ok (.istore_n 3, 1) := by decide +kernel
theorem dX10_readRule_221 : decode cX10_readRule 221 = .ok (.aload_n 0, 1) := by decide +kernel
theorem dX10_readRule_222 : decode cX10_readRule 222 = .ok (.getfield 201, 3) := by decide +kernel
theorem dX10_readRule_225 : decode cX10_readRule 225 = .ok (.ifCond .ne 77, 3) := by decide +kernel
theorem dX10_readRule_228 : decode cX10_readRule 228 = .ok (.iload_n 3, 1) := by decide +kernel
theorem dX10_readRule_229 : decode cX10_readRule 229 = .ok (.iconst (-1), 1) := by decide +kernel
theorem dX10_readRule_230 : decode cX10_readRule 230 = .ok (.if_icmp .eq 72, 3) := by decide +kernel
theorem dX10_readRule_233 : decode cX10_readRule 233 = .ok (.aload_n 0, 1) := by decide +kernel
theorem dX10_readRule_234 : decode cX10_readRule 234 = .ok (.getfield 84, 3) := by decide +kernel
theorem dX10_readRule_237 : decode cX10_readRule 237 = .ok (.aload_n 0, 1) := by decide +kernel
theorem dX10_readRule_238 : decode cX10_readRule 238 = .ok (.getfield 233, 3) := by decide +kernel
theorem dX10_readRule_241 : decode cX10_readRule 241 = .ok (.dup2, 1) := by decide +kernel
theorem dX10_readRule_242 : decode cX10_readRule 242 = .ok (.iaload, 1) := by decide +kernel
theorem dX10_readRule_243 : decode cX10_readRule 243 = .ok (.iconst 1, 1) := by decide +kernel
theorem dX10_readRule_244 : decode cX10_readRule 244 = .ok (.iload_n 3, 1) := by decide +kernel
theorem dX10_readRule_245 : decode cX10_readRule 245 = .ok (.ishl, 1) := by decide +kernel
theorem dX10_readRule_246 : decode cX10_readRule 246 = .ok (.ior, 1) := by decide +kernel
theorem dX10_readRule_247 : decode cX10_readRule 247 = .ok (.iastore, 1) := by decide +kernel
theorem dX10_readRule_248 : decode cX10_readRule 248 = .ok (.aload_n 0, 1) := by decide +kernel
theorem dX10_readRule_249 : decode cX10_readRule 249 = .ok (.bipush 115, 2) := by decide +kernel
theorem dX10_readRule_251 : decode cX10_readRule 251 = .ok (.iconst 3, 1) := by decide +kernel
theorem dX10_readRule_252 : decode cX10_readRule 252 = .ok (.invokevirtual 228, 3) := by decide +kernel
theorem dX10_readRule_255 : decode cX10_readRule 255 = .ok (.istore_n 3, 1) := by decide +kernel
theorem dX10_readRule_256 : decode cX10_readRule 256 = .ok (.iload_n 3, 1) := by decide +kernel
theorem dX10_readRule_257 : decode cX10_readRule 257 = .ok (.iconst (-1), 1) := by decide +kernel
theorem dX10_readRule_258 : decode cX10_readRule 258 = .ok (.if_icmp .eq 25, 3) := by decide +kernel
theorem dX10_readRule_261 : decode cX10_readRule 261 = .ok (.aload_n 0, 1) := by decide +kernel
theorem dX10_readRule_262 : decode cX10_readRule 262 = .ok (.getfield 84, 3) := by decide +kernel
theorem dX10_readRule_265 : decode cX10_readRule 265 = .ok (.aload_n 0, 1) := by decide +kernel
theorem dX10_readRule_266 : decode cX10_readRule 266 = .ok (.getfield 233, 3) := by decide +kernel
theorem dX10_readRule_269 : decode cX10_readRule 269 = .ok (.iaload, 1) := by decide +kernel
theorem dX10_readRule_270 : decode cX10_readRule 270 = .ok (.iload_n 3, 1) := by decide +kernel
theorem dX10_readRule_271 : decode cX10_readRule 271 = .ok (.ishr, 1) := by decide +kernel
theorem dX10_readRule_272 : decode cX10_readRule 272 = .ok (.iconst 1, 1) := by decide +kernel
theorem dX10_readRule_273 : decode cX10_readRule 273 = .ok (.iand, 1) := by decide +kernel
theorem dX10_readRule_274 : decode cX10_readRule 274 = .ok (.iconst 1, 1) := by decide +kernel
theorem dX10_readRule_275 : decode cX10_readRule 275 = .ok (.if_icmp .ne 8, 3) := by decide +kernel
theorem dX10_readRule_278 : decode cX10_readRule 278 = .ok (.aload_n 0, 1) := by decide +kernel
theorem dX10_readRule_279 : decode cX10_readRule 279 = .ok (.iconst 3, 1) := by decide +kernel
theorem dX10_readRule_280 : decode cX10_readRule 280 = .ok (.invokevirtual 224, 3) := by decide +kernel
theorem dX10_readRule_283 : decode cX10_readRule 283 = .ok (.aload_n 0, 1) := by decide +kernel
theorem dX10_readRule_284 : decode cX10_readRule 284 = .ok (.getfield 201, 3) := by decide +kernel
theorem dX10_readRule_287 : decode cX10_readRule 287 = .ok (.ifCond .ne (-66), 3) := by decide +kernel
theorem dX10_readRule_290 : decode cX10_readRule 290 = .ok (.iload_n 3, 1) := by decide +kernel
theorem dX10_readRule_291 : decode cX10_readRule 291 = .ok (.iconst (-1), 1) := by decide +kernel
theorem dX10_readRule_292 : decode cX10_readRule 292 = .ok (.if_icmp .eq (-71), 3) := by decide +kernel
theorem dX10_readRule_295 : decode cX10_readRule 295 = .ok (.aload_n 0, 1) := by decide +kernel
theorem dX10_readRule_296 : decode cX10_readRule 296 = .ok (.invokevirtual 221, 3) := by decide +kernel
theorem dX10_readRule_299 : decode cX10_readRule 299 = .ok (.goto (-78), 3) := by decide +kernel
theorem dX10_readRule_302 : decode cX10_readRule 302 = .ok (.aload_n 0, 1) := by decide +kernel
theorem dX10_readRule_303 : decode cX10_readRule 303 = .ok (.invokevirtual 266, 3) := by decide +kernel
theorem dX10_readRule_306 : decode cX10_readRule 306 = .ok (.aload_n 0, 1) := by decide +kernel
theorem dX10_readRule_307 : decode cX10_readRule 307 = .ok (.ldc_w 269, 3) := by decide +kernel
theorem dX10_readRule_310 : decode cX10_readRule 310 = .ok (.invokevirtual 217, 3) := by decide +kernel
theorem dX10_readRule_313 : decode cX10_readRule 313 = .ok (.ifCond .eq 20, 3) := by decide +kernel
theorem dX10_readRule_316 : decode cX10_readRule 316 = .ok (.aload_n 0, 1) := by decide +kernel
theorem dX10_readRule_317 : decode cX10_readRule 317 = .ok (.invokevirtual 221, 3) := by decide +kernel
theorem dX10_readRule_320 : decode cX10_readRule 320 = .ok (.aload_n 0, 1) := by decide +kernel
theorem dX10_readRule_321 : decode cX10_readRule 321 = .ok (.getfield 87, 3) := by decide +kernel
theorem dX10_readRule_324 : decode cX10_readRule 324 = .ok (.aload_n 0, 1) := by decide +kernel
theorem dX10_readRule_325 : decode cX10_readRule 325 = .ok (.getfield 233, 3) := by decide +kernel
theorem dX10_readRule_328 : decode cX10_readRule 328 = .ok (.aload_n 0, 1) := by decide +kernel
theorem dX10_readRule_329 : decode cX10_readRule 329 = .ok (.invokevirtual 243, 3) := by decide +kernel
theorem dX10_readRule_332 : decode cX10_readRule 332 = .ok (.iastore, 1) := by decide +kernel
theorem dX10_readRule_333 : decode cX10_readRule 333 = .ok (.aload_n 0, 1) := by decide +kernel
theorem dX10_readRule_334 : decode cX10_readRule 334 = .ok (.getfield 201, 3) := by decide +kernel
theorem dX10_readRule_337 : decode cX10_readRule 337 = .ok (.ifCond .ne 25, 3) := by decide +kernel
theorem dX10_readRule_340 : decode cX10_readRule 340 = .ok (.aload_n 0, 1) := by decide +kernel
theorem dX10_readRule_341 : decode cX10_readRule 341 = .ok (.getfield 189, 3) := by decide +kernel
theorem dX10_readRule_344 : decode cX10_readRule 344 = .ok (.iconst 3, 1) := by decide +kernel
theorem dX10_readRule_345 : decode cX10_readRule 345 = .ok (.if_icmp .ne 12, 3) := by decide +kernel
theorem dX10_readRule_348 : decode cX10_readRule 348 = .ok (.aload_n 0, 1) := by decide +kernel
theorem dX10_readRule_349 : decode cX10_readRule 349 = .ok (.getfield 186, 3) := by decide +kernel
theorem dX10_readRule_352 : decode cX10_readRule 352 = .ok (.bipush 59, 2) := by decide +kernel
theorem dX10_readRule_354 : decode cX10_readRule 354 = .ok (.if_icmp .eq 8, 3) := by decide +kernel
theorem dX10_readRule_357 : decode cX10_readRule 357 = .ok (.aload_n 0, 1) := by decide +kernel
theorem dX10_readRule_358 : decode cX10_readRule 358 = .ok (.iconst 1, 1) := by decide +kernel
theorem dX10_readRule_359 : decode cX10_readRule 359 = .ok (.invokevirtual 224, 3) := by decide +kernel
theorem dX10_readRule_362 : decode cX10_readRule 362 = .ok (.aload_n 0, 1) := by decide +kernel
theorem dX10_readRule_363 : decode cX10_readRule 363 = .ok (.getfield 201, 3) := by decide +kernel
theorem dX10_readRule_366 : decode cX10_readRule 366 = .ok (.ifCond .ne 7, 3) := by decide +kernel
theorem dX10_readRule_369 : decode cX10_readRule 369 = .ok (.aload_n 0, 1) := by decide +kernel
theorem dX10_readRule_370 : decode cX10_readRule 370 = .ok (.invokevirtual 221, 3) := by decide +kernel
theorem dX10_readRule_373 : decode cX10_readRule 373 = .ok (.return_, 1) := by decide +kernel
theorem dX10_rules_0 : decode cX10_rules 0 = .ok (.aload_n 0, 1) := by decide +kernel
theorem dX10_rules_1 : decode cX10_rules 1 = .ok (.iconst 0, 1) := by decide +kernel
theorem dX10_rules_2 : decode cX10_rules 2 = .ok (.putfield 126, 3) := by decide +kernel
theorem dX10_rules_5 : decode cX10_rules 5 = .ok (.iload_n 1, 1) := by decide +kernel
theorem dX10_rules_6 : decode cX10_rules 6 = .ok (.ifCond .lt 18, 3) := by decide +kernel
theorem dX10_rules_9 : decode cX10_rules 9 = .ok (.iload_n 1, 1) := by decide +kernel
theorem dX10_rules_10 : decode cX10_rules 10 = .ok (.aload_n 0, 1) := by decide +kernel
theorem dX10_rules_11 : decode cX10_rules 11 = .ok (.getfield 171, 3) := by decide +kernel
theorem dX10_rules_14 : decode cX10_rules 14 = .ok (.if_icmp .gt 10, 3) := by decide +kernel
theorem dX10_rules_17 : decode cX10_rules 17 = .ok (.iload_n 2, 1) := by decide +kernel
theorem dX10_rules_18 : decode cX10_rules 18 = .ok (.invokestatic 155, 3) := by decide +kernel
theorem dX10_rules_21 : decode cX10_rules 21 = .ok (.ifCond .ne 9, 3) := by decide +kernel
theorem dX10_rules_24 : decode cX10_rules 24 = .ok (.aload_n 0, 1) := by decide +kernel
theorem dX10_rules_25 : decode cX10_rules 25 = .ok (.iconst 1, 1) := by decide +kernel
theorem dX10_rules_26 : decode cX10_rules 26 = .ok (.invokevirtual 152, 3) := by decide +kernel
theorem dX10_rules_29 : decode cX10_rules 29 = .ok (.ireturn, 1) := by decide +kernel
theorem dX10_rules_30 : decode cX10_rules 30 = .ok (.aload_n 0, 1) := by decide +kernel
theorem dX10_rules_31 : decode cX10_rules 31 = .ok (.iconst 0, 1) := by decide +kernel
theorem dX10_rules_32 : decode cX10_rules 32 = .ok (.putfield 171, 3) := by decide +kernel
theorem dX10_rules_35 : decode cX10_rules 35 = .ok (.aload_n 0, 1) := by decide +kernel
theorem dX10_rules_36 : decode cX10_rules 36 = .ok (.iconst (-1), 1) := by decide +kernel
theorem dX10_rules_37 : decode cX10_rules 37 = .ok (.putfield 9, 3) := by decide +kernel
theorem dX10_rules_40 : decode cX10_rules 40 = .ok (.aload_n 0, 1) := by decide +kernel
theorem dX10_rules_41 : decode cX10_rules 41 = .ok (.getfield 270, 3) := by decide +kernel
theorem dX10_rules_44 : decode cX10_rules 44 = .ok (.bipush 8, 2) := by decide +kernel
theorem dX10_rules_46 : decode cX10_rules 46 = .ok (.if_icmp .ne 6, 3) := by decide +kernel
theorem dX10_rules_49 : decode cX10_rules 49 = .ok (.bipush (-9), 2) := by decide +kernel
theorem dX10_rules_51 : decode cX10_rules 51 = .ok (.ireturn, 1) := by decide +kernel
theorem dX10_rules_52 : decode cX10_rules 52 = .ok (.aload_n 0, 1) := by decide +kernel
theorem dX10_rules_53 : decode cX10_rules 53 = .ok (.iload_n 1, 1) := by decide +kernel
theorem dX10_rules_54 : decode cX10_rules 54 = .ok (.putfield 174, 3) := by decide +kernel
theorem dX10_rules_57 : decode cX10_rules 57 = .ok (.aload_n 0, 1) := by decide +kernel
theorem dX10_rules_58 : decode cX10_rules 58 = .ok (.iconst 0, 1) := by decide +kernel
theorem dX10_rules_59 : decode cX10_rules 59 = .ok (.putfield 177, 3) := by decide +kernel
theorem dX10_rules_62 : decode cX10_rules 62 = .ok (.aload_n 0, 1) := by decide +kernel
theorem dX10_rules_63 : decode cX10_rules 63 = .ok (.iconst 0, 1) := by decide +kernel
theorem dX10_rules_64 : decode cX10_rules 64 = .ok (.putfield 201, 3) := by decide +kernel
theorem dX10_rules_67 : decode cX10_rules 67 = .ok (.iconst 0, 1) := by decide +kernel
theorem dX10_rules_68 : decode cX10_rules 68 = .ok (.istore_n 3, 1) := by decide +kernel
theorem dX10_rules_69 : decode cX10_rules 69 = .ok (.aload_n 0, 1) := by decide +kernel
theorem dX10_rules_70 : decode cX10_rules 70 = .ok (.invokevirtual 221, 3) := by decide +kernel
theorem dX10_rules_73 : decode cX10_rules 73 = .ok (.aload_n 0, 1) := by decide +kernel
theorem dX10_rules_74 : decode cX10_rules 74 = .ok (.getfield 201, 3) := by decide +kernel
theorem dX10_rules_77 : decode cX10_rules 77 = .ok (.ifCond .ne 90, 3) := by decide +kernel
theorem dX10_rules_80 : decode cX10_rules 80 = .ok (.aload_n 0, 1) := by decide +kernel
theorem dX10_rules_81 : decode cX10_rules 81 = .ok (.getfield 189, 3) := by decide +kernel
theorem dX10_rules_84 : decode cX10_rules 84 = .ok (.ifCond .eq 83, 3) := by decide +kernel
theorem dX10_rules_87 : decode cX10_rules 87 = .ok (.aload_n 0, 1) := by decide +kernel
theorem dX10_rules_88 : decode cX10_rules 88 = .ok (.ldc 248, 2) := by decide +kernel
theorem dX10_rules_90 : decode cX10_rules 90 = .ok (.invokevirtual 217, 3) := by decide +kernel
theorem dX10_rules_93 : decode cX10_rules 93 = .ok (.ifCond .ne 30, 3) := by decide +kernel
theorem dX10_rules_96 : decode cX10_rules 96 = .ok (.aload_n 0, 1) := by decide +kernel
theorem dX10_rules_97 : decode cX10_rules 97 = .ok (.ldc 250, 2) := by decide +kernel
theorem dX10_rules_99 : decode cX10_rules 99 = .ok (.invokevirtual 217, 3) := by decide +kernel
theorem dX10_rules_102 : decode cX10_rules 102 = .ok (.ifCond .ne 21, 3) := by decide +kernel
theorem dX10_rules_105 : decode cX10_rules 105 = .ok (.aload_n 0, 1) := by decide +kernel
theorem dX10_rules_106 : decode cX10_rules 106 = .ok (.ldc_w 273, 3) := by decide +kernel
theorem dX10_rules_109 : decode cX10_rules 109 = .ok (.invokevirtual 217, 3) := by decide +kernel
theorem dX10_rules_112 : decode cX10_rules 112 = .ok (.ifCond .ne 11, 3) := by decide +kernel
theorem dX10_rules_115 : decode cX10_rules 115 = .ok (.aload_n 0, 1) := by decide +kernel
theorem dX10_rules_116 : decode cX10_rules 116 = .ok (.iconst 1, 1) := by decide +kernel
theorem dX10_rules_117 : decode cX10_rules 117 = .ok (.invokevirtual 224, 3) := by decide +kernel
theorem dX10_rules_120 : decode cX10_rules 120 = .ok (.goto 14, 3) := by decide +kernel
theorem dX10_rules_123 : decode cX10_rules 123 = .ok (.iload_n 3, 1) := by decide +kernel
theorem dX10_rules_124 : decode cX10_rules 124 = .ok (.bipush 24, 2) := by decide +kernel
theorem dX10_rules_126 : decode cX10_rules 126 = .ok (.if_icmp .ne 8, 3) := by decide +kernel
theorem dX10_rules_129 : decode cX10_rules 129 = .ok (.aload_n 0, 1) := by decide +kernel
theorem dX10_rules_130 : decode cX10_rules 130 = .ok (.iconst 2, 1) := by decide +kernel
theorem dX10_rules_131 : decode cX10_rules 131 = .ok (.invokevirtual 224, 3) := by decide +kernel
theorem dX10_rules_134 : decode cX10_rules 134 = .ok (.aload_n 0, 1) := by decide +kernel
theorem dX10_rules_135 : decode cX10_rules 135 = .ok (.getfield 201, 3) := by decide +kernel
theorem dX10_rules_138 : decode cX10_rules 138 = .ok (.ifCond .eq 6, 3) := by decide +kernel
theorem dX10_rules_141 : decode cX10_rules 141 = .ok (.goto 26, 3) := by decide +kernel
theorem dX10_rules_144 : decode cX10_rules 144 = .ok (.aload_n 0, 1) := by decide +kernel
theorem dX10_rules_145 : decode cX10_rules 145 = .ok (.bipush 24, 2) := by decide +kernel
theorem dX10_rules_147 : decode cX10_rules 147 = .ok (.aload_n 0, 1) := by decide +kernel
theorem dX10_rules_148 : decode cX10_rules 148 = .ok (.getfield 270, 3) := by decide +kernel
theorem dX10_rules_151 : decode cX10_rules 151 = .ok (.imul, 1) := by decide +kernel
theorem dX10_rules_152 : decode cX10_rules 152 = .ok (.iload_n 3, 1) := by decide +kernel
theorem dX10_rules_153 : decode cX10_rules 153 = .ok (.iadd, 1) := by decide +kernel
theorem dX10_rules_154 : decode cX10_rules 154 = .ok (.putfield 233, 3) := by decide +kernel
theorem dX10_rules_157 : decode cX10_rules 157 = .ok (.iinc 3 1, 3) := by decide +kernel
theorem dX10_rules_160 : decode cX10_rules 160 = .ok (.aload_n 0, 1) := by decide +kernel
theorem dX10_rules_161 : decode cX10_rules 161 = .ok (.invokevirtual 275, 3) := by decide +kernel
theorem dX10_rules_164 : decode cX10_rules 164 = .ok (.goto (-91), 3) := by decide +kernel
theorem dX10_rules_167 : decode cX10_rules 167 = .ok (.aload_n 0, 1) := by decide +kernel
theorem dX10_rules_168 : decode cX10_rules 168 = .ok (.getfield 201, 3) := by decide +kernel
theorem dX10_rules_171 : decode cX10_rules 171 = .ok (.ifCond .eq 18, 3) := by decide +kernel
theorem dX10_rules_174 : decode cX10_rules 174 = .ok (.aload_n 0, 1) := by decide +kernel
theorem dX10_rules_175 : decode cX10_rules 175 = .ok (.aload_n 0, 1) := by decide +kernel
theorem dX10_rules_176 : decode cX10_rules 176 = .ok (.getfield 204, 3) := by decide +kernel
theorem dX10_rules_179 : decode cX10_rules 179 = .ok (.putfield 9, 3) := by decide +kernel
theorem dX10_rules_182 : decode cX10_rules 182 = .ok (.iconst (-1), 1) := by decide +kernel
theorem dX10_rules_183 : decode cX10_rules 183 = .ok (.aload_n 0, 1) := by decide +kernel
theorem dX10_rules_184 : decode cX10_rules 184 = .ok (.getfield 201, 3) := by decide +kernel
theorem dX10_rules_187 : decode cX10_rules 187 = .ok (.isub, 1) := by decide +kernel
theorem dX10_rules_188 : decode cX10_rules 188 = .ok (.ireturn, 1) := by decide +kernel
theorem dX10_rules_189 : decode cX10_rules 189 = .ok (.aload_n 0, 1) := by decide +kernel
theorem dX10_rules_190 : decode cX10_rules 190 = .ok (.getfield 63, 3) := by decide +kernel
theorem dX10_rules_193 : decode cX10_rules 193 = .ok (.aload_n 0, 1) := by decide +kernel
theorem dX10_rules_194 : decode cX10_rules 194 = .ok (.getfield 270, 3) := by decide +kernel
theorem dX10_rules_197 : decode cX10_rules 197 = .ok (.iload_n 3, 1) := by decide +kernel
theorem dX10_rules_198 : decode cX10_rules 198 = .ok (.iastore, 1) := by decide +kernel
theorem dX10_rules_199 : decode cX10_rules 199 = .ok (.aload_n 0, 1) := by decide +kernel
theorem dX10_rules_200 : decode cX10_rules 200 = .ok (.getfield 60, 3) := by decide +kernel
theorem dX10_rules_203 : decode cX10_rules 203 = .ok (.aload_n 0, 1) := by decide +kernel
theorem dX10_rules_204 : decode cX10_rules 204 = .ok (.getfield 270, 3) := by decide +kernel
theorem dX10_rules_207 : decode cX10_rules 207 = .ok (.iload_n 2, 1) := by decide +kernel
theorem dX10_rules_208 : decode cX10_rules 208 = .ok (.iastore, 1) := by decide +kernel
theorem dX10_rules_209 : decode cX10_rules 209 = .ok (.aload_n 0, 1) := by decide +kernel
theorem dX10_rules_210 : decode cX10_rules 210 = .ok (.dup, 1) := by decide +kernel
theorem dX10_rules_211 : decode cX10_rules 211 = .ok (.getfield 270, 3) := by decide +kernel
theorem dX10_rules_214 : decode cX10_rules 214 = .ok (.iconst 1, 1) := by decide +kernel
theorem dX10_rules_215 : decode cX10_rules 215 = .ok (.iadd, 1) := by decide +kernel
theorem dX10_rules_216 : decode cX10_rules 216 = .ok (.putfield 270, 3) := by decide +kernel
theorem dX10_rules_219 : decode cX10_rules 219 = .ok (.aload_n 0, 1) := by decide +kernel
theorem dX10_rules_220 : decode cX10_rules 220 = .ok (.getfield 270, 3) := by decide +kernel
theorem dX10_rules_223 : decode cX10_rules 223 = .ok (.iconst 1, 1) := by decide +kernel
theorem dX10_rules_224 : decode cX10_rules 224 = .ok (.isub, 1) := by decide +kernel
theorem dX10_rules_225 : decode cX10_rules 225 = .ok (.ireturn, 1) := by decide +kernel
theorem dX10_fault_0 : decode cX10_fault 0 = .ok (.aload_n 0, 1) := by decide +kernel
theorem dX10_fault_1 : decode cX10_fault 1 = .ok (.iconst 0, 1) := by decide +kernel
theorem dX10_fault_2 : decode cX10_fault 2 = .ok (.putfield 126, 3) := by decide +kernel
theorem dX10_fault_5 : decode cX10_fault 5 = .ok (.aload_n 0, 1) := by decide +kernel
theorem dX10_fault_6 : decode cX10_fault 6 = .ok (.getfield 9, 3) := by decide +kernel
theorem dX10_fault_9 : decode cX10_fault 9 = .ok (.ireturn, 1) := by decide +kernel
theorem dX10_isThing_0 : decode cX10_isThing 0 = .ok (.iload_n 1, 1) := by decide +kernel
theorem dX10_isThing_1 : decode cX10_isThing 1 = .ok (.ifCond .lt 15, 3) := by decide +kernel
theorem dX10_isThing_4 : decode cX10_isThing 4 = .ok (.iload_n 1, 1) := by decide +kernel
theorem dX10_isThing_5 : decode cX10_isThing 5 = .ok (.aload_n 0, 1) := by decide +kernel
theorem dX10_isThing_6 : decode cX10_isThing 6 = .ok (.getfield 278, 3) := by decide +kernel
theorem dX10_isThing_9 : decode cX10_isThing 9 = .ok (.if_icmp .ge 7, 3) := by decide +kernel
theorem dX10_isThing_12 : decode cX10_isThing 12 = .ok (.iconst 1, 1) := by decide +kernel
theorem dX10_isThing_13 : decode cX10_isThing 13 = .ok (.goto 4, 3) := by decide +kernel
theorem dX10_isThing_16 : decode cX10_isThing 16 = .ok (.iconst 0, 1) := by decide +kernel
theorem dX10_isThing_17 : decode cX10_isThing 17 = .ok (.ireturn, 1) := by decide +kernel
theorem dX10_isField_0 : decode cX10_isField 0 = .ok (.iload_n 0, 1) := by decide +kernel
theorem dX10_isField_1 : decode cX10_isField 1 = .ok (.ifCond .lt 13, 3) := by decide +kernel
theorem dX10_isField_4 : decode cX10_isField 4 = .ok (.iload_n 0, 1) := by decide +kernel
theorem dX10_isField_5 : decode cX10_isField 5 = .ok (.bipush 8, 2) := by decide +kernel
theorem dX10_isField_7 : decode cX10_isField 7 = .ok (.if_icmp .ge 7, 3) := by decide +kernel
theorem dX10_isField_10 : decode cX10_isField 10 = .ok (.iconst 1, 1) := by decide +kernel
theorem dX10_isField_11 : decode cX10_isField 11 = .ok (.goto 4, 3) := by decide +kernel
theorem dX10_isField_14 : decode cX10_isField 14 = .ok (.iconst 0, 1) := by decide +kernel
theorem dX10_isField_15 : decode cX10_isField 15 = .ok (.ireturn, 1) := by decide +kernel
theorem dX10_isStore_0 : decode cX10_isStore 0 = .ok (.iload_n 0, 1) := by decide +kernel
theorem dX10_isStore_1 : decode cX10_isStore 1 = .ok (.ifCond .lt 12, 3) := by decide +kernel
theorem dX10_isStore_4 : decode cX10_isStore 4 = .ok (.iload_n 0, 1) := by decide +kernel
theorem dX10_isStore_5 : decode cX10_isStore 5 = .ok (.iconst 4, 1) := by decide +kernel
theorem dX10_isStore_6 : decode cX10_isStore 6 = .ok (.if_icmp .ge 7, 3) := by decide +kernel
theorem dX10_isStore_9 : decode cX10_isStore 9 = .ok (.iconst 1, 1) := by decide +kernel
theorem dX10_isStore_10 : decode cX10_isStore 10 = .ok (.goto 4, 3) := by decide +kernel
theorem dX10_isStore_13 : decode cX10_isStore 13 = .ok (.iconst 0, 1) := by decide +kernel
theorem dX10_isStore_14 : decode cX10_isStore 14 = .ok (.ireturn, 1) := by decide +kernel
theorem dX10_thing_0 : decode cX10_thing 0 = .ok (.aload_n 0, 1) := by decide +kernel
theorem dX10_thing_1 : decode cX10_thing 1 = .ok (.iconst 0, 1) := by decide +kernel
theorem dX10_thing_2 : decode cX10_thing 2 = .ok (.putfield 126, 3) := by decide +kernel
theorem dX10_thing_5 : decode cX10_thing 5 = .ok (.aload_n 0, 1) := by decide +kernel
theorem dX10_thing_6 : decode cX10_thing 6 = .ok (.getfield 278, 3) := by decide +kernel
theorem dX10_thing_9 : decode cX10_thing 9 = .ok (.bipush 30, 2) := by decide +kernel
theorem dX10_thing_11 : decode cX10_thing 11 = .ok (.if_icmp .eq 12, 3) := by decide +kernel
theorem dX10_thing_14 : decode cX10_thing 14 = .ok (.iload_n 1, 1) := by decide +kernel
theorem dX10_thing_15 : decode cX10_thing 15 = .ok (.ifCond .lt 8, 3) := by decide +kernel
theorem dX10_thing_18 : decode cX10_thing 18 = .ok (.iload_n 1, 1) := by decide +kernel
theorem dX10_thing_19 : decode cX10_thing 19 = .ok (.iconst 3, 1) := by decide +kernel
theorem dX10_thing_20 : decode cX10_thing 20 = .ok (.if_icmp .le 5, 3) := by decide +kernel
theorem dX10_thing_23 : decode cX10_thing 23 = .ok (.iconst (-1), 1) := by decide +kernel
theorem dX10_thing_24 : decode cX10_thing 24 = .ok (.ireturn, 1) := by decide +kernel
theorem dX10_thing_25 : decode cX10_thing 25 = .ok (.aload_n 0, 1) := by decide +kernel
theorem dX10_thing_26 : decode cX10_thing 26 = .ok (.getfield 13, 3) := by decide +kernel
theorem dX10_thing_29 : decode cX10_thing 29 = .ok (.aload_n 0, 1) := by decide +kernel
theorem dX10_thing_30 : decode cX10_thing 30 = .ok (.getfield 278, 3) := by decide +kernel
theorem dX10_thing_33 : decode cX10_thing 33 = .ok (.iload_n 1, 1) := by decide +kernel
theorem dX10_thing_34 : decode cX10_thing 34 = .ok (.iastore, 1) := by decide +kernel
theorem dX10_thing_35 : decode cX10_thing 35 = .ok (.aload_n 0, 1) := by decide +kernel
theorem dX10_thing_36 : decode cX10_thing 36 = .ok (.dup, 1) := by decide +kernel
theorem dX10_thing_37 : decode cX10_thing 37 = .ok (.getfield 278, 3) := by decide +kernel
theorem dX10_thing_40 : decode cX10_thing 40 = .ok (.iconst 1, 1) := by decide +kernel
theorem dX10_thing_41 : decode cX10_thing 41 = .ok (.iadd, 1) := by decide +kernel
theorem dX10_thing_42 : decode cX10_thing 42 = .ok (.putfield 278, 3) := by decide +kernel
theorem dX10_thing_45 : decode cX10_thing 45 = .ok (.aload_n 0, 1) := by decide +kernel
theorem dX10_thing_46 : decode cX10_thing 46 = .ok (.getfield 278, 3) := by decide +kernel
theorem dX10_thing_49 : decode cX10_thing 49 = .ok (.iconst 1, 1) := by decide +kernel
theorem dX10_thing_50 : decode cX10_thing 50 = .ok (.isub, 1) := by decide +kernel
theorem dX10_thing_51 : decode cX10_thing 51 = .ok (.ireturn, 1) := by decide +kernel
theorem dX10_fact_0 : decode cX10_fact 0 = .ok (.aload_n 0, 1) := by decide +kernel
theorem dX10_fact_1 : decode cX10_fact 1 = .ok (.iconst 0, 1) := by decide +kernel
theorem dX10_fact_2 : decode cX10_fact 2 = .ok (.putfield 126, 3) := by decide +kernel
theorem dX10_fact_5 : decode cX10_fact 5 = .ok (.aload_n 0, 1) := by decide +kernel
theorem dX10_fact_6 : decode cX10_fact 6 = .ok (.iload_n 1, 1) := by decide +kernel
theorem dX10_fact_7 : decode cX10_fact 7 = .ok (.invokevirtual 281, 3) := by decide +kernel
theorem dX10_fact_10 : decode cX10_fact 10 = .ok (.ifCond .eq 12, 3) := by decide +kernel
theorem dX10_fact_13 : decode cX10_fact 13 = .ok (.iload_n 2, 1) := by decide +kernel
theorem dX10_fact_14 : decode cX10_fact 14 = .ok (.ifCond .lt 8, 3) := by decide +kernel
theorem dX10_fact_17 : decode cX10_fact 17 = .ok (.iload_n 2, 1) := by decide +kernel
theorem dX10_fact_18 : decode cX10_fact 18 = .ok (.iconst 3, 1) := by decide +kernel
theorem dX10_fact_19 : decode cX10_fact 19 = .ok (.if_icmp .le 9, 3) := by decide +kernel
theorem dX10_fact_22 : decode cX10_fact 22 = .ok (.aload_n 0, 1) := by decide +kernel
theorem dX10_fact_23 : decode cX10_fact 23 = .ok (.iconst 1, 1) := by decide +kernel
theorem dX10_fact_24 : decode cX10_fact 24 = .ok (.invokevirtual 152, 3) := by decide +kernel
theorem dX10_fact_27 : decode cX10_fact 27 = .ok (.ireturn, 1) := by decide +kernel
theorem dX10_fact_28 : decode cX10_fact 28 = .ok (.iload_n 3, 1) := by decide +kernel
theorem dX10_fact_29 : decode cX10_fact 29 = .ok (.ifCond .lt 10, 3) := by decide +kernel
theorem dX10_fact_32 : decode cX10_fact 32 = .ok (.iload_n 3, 1) := by decide +kernel
theorem dX10_fact_33 : decode cX10_fact 33 = .ok (.sipush 9999, 3) := by decide +kernel
theorem dX10_fact_36 : decode cX10_fact 36 = .ok (.if_icmp .le 9, 3) := by decide +kernel
theorem dX10_fact_39 : decode cX10_fact 39 = .ok (.aload_n 0, 1) := by decide +kernel
theorem dX10_fact_40 : decode cX10_fact 40 = .ok (.iconst 2, 1) := by decide +kernel
theorem dX10_fact_41 : decode cX10_fact 41 = .ok (.invokevirtual 152, 3) := by decide +kernel
theorem dX10_fact_44 : decode cX10_fact 44 = .ok (.ireturn, 1) := by decide +kernel
theorem dX10_fact_45 : decode cX10_fact 45 = .ok (.aload_n 0, 1) := by decide +kernel
theorem dX10_fact_46 : decode cX10_fact 46 = .ok (.getfield 17, 3) := by decide +kernel
theorem dX10_fact_49 : decode cX10_fact 49 = .ok (.iconst 4, 1) := by decide +kernel
theorem dX10_fact_50 : decode cX10_fact 50 = .ok (.iload_n 1, 1) := by decide +kernel
theorem dX10_fact_51 : decode cX10_fact 51 = .ok (.imul, 1) := by decide +kernel
theorem dX10_fact_52 : decode cX10_fact 52 = .ok (.iload_n 2, 1) := by decide +kernel
theorem dX10_fact_53 : decode cX10_fact 53 = .ok (.iadd, 1) := by decide +kernel
theorem dX10_fact_54 : decode cX10_fact 54 = .ok (.iaload, 1) := by decide +kernel
theorem dX10_fact_55 : decode cX10_fact 55 = .ok (.istore 4, 2) := by decide +kernel
theorem dX10_fact_57 : decode cX10_fact 57 = .ok (.aload_n 0, 1) := by decide +kernel
theorem dX10_fact_58 : decode cX10_fact 58 = .ok (.getfield 111, 3) := by decide +kernel
theorem dX10_fact_61 : decode cX10_fact 61 = .ok (.iload_n 1, 1) := by decide +kernel
theorem dX10_fact_62 : decode cX10_fact 62 = .ok (.iconst 0, 1) := by decide +kernel
theorem dX10_fact_63 : decode cX10_fact 63 = .ok (.bastore, 1) := by decide +kernel
theorem dX10_fact_64 : decode cX10_fact 64 = .ok (.aload_n 0, 1) := by decide +kernel
theorem dX10_fact_65 : decode cX10_fact 65 = .ok (.getfield 17, 3) := by decide +kernel
theorem dX10_fact_68 : decode cX10_fact 68 = .ok (.iconst 4, 1) := by decide +kernel
theorem dX10_fact_69 : decode cX10_fact 69 = .ok (.iload_n 1, 1) := by decide +kernel
theorem dX10_fact_70 : decode cX10_fact 70 = .ok (.imul, 1) := by decide +kernel
theorem dX10_fact_71 : decode cX10_fact 71 = .ok (.iload_n 2, 1) := by decide +kernel
theorem dX10_fact_72 : decode cX10_fact 72 = .ok (.iadd, 1) := by decide +kernel
theorem dX10_fact_73 : decode cX10_fact 73 = .ok (.iload_n 3, 1) := by decide +kernel
theorem dX10_fact_74 : decode cX10_fact 74 = .ok (.iastore, 1) := by decide +kernel
theorem dX10_fact_75 : decode cX10_fact 75 = .ok (.iload 4, 2) := by decide +kernel
theorem dX10_fact_77 : decode cX10_fact 77 = .ok (.ireturn, 1) := by decide +kernel
theorem dX10_event_0 : decode cX10_event 0 = .ok (.aload_n 0, 1) := by decide +kernel
theorem dX10_event_1 : decode cX10_event 1 = .ok (.iconst 0, 1) := by decide +kernel
theorem dX10_event_2 : decode cX10_event 2 = .ok (.putfield 126, 3) := by decide +kernel
theorem dX10_event_5 : decode cX10_event 5 = .ok (.aload_n 0, 1) := by decide +kernel
theorem dX10_event_6 : decode cX10_event 6 = .ok (.iload_n 1, 1) := by decide +kernel
theorem dX10_event_7 : decode cX10_event 7 = .ok (.invokevirtual 281, 3) := by decide +kernel
theorem dX10_event_10 : decode cX10_event 10 = .ok (.ifCond .eq 12, 3) := by decide +kernel
theorem dX10_event_13 : decode cX10_event 13 = .ok (.iload_n 2, 1) := by decide +kernel
theorem dX10_event_14 : decode cX10_event 14 = .ok (.ifCond .lt 8, 3) := by decide +kernel
theorem dX10_event_17 : decode cX10_event 17 = .ok (.iload_n 2, 1) := by decide +kernel
theorem dX10_event_18 : decode cX10_event 18 = .ok (.iconst 3, 1) := by decide +kernel
theorem dX10_event_19 : decode cX10_event 19 = .ok (.if_icmp .le 9, 3) := by decide +kernel
theorem dX10_event_22 : decode cX10_event 22 = .ok (.aload_n 0, 1) := by decide +kernel
theorem dX10_event_23 : decode cX10_event 23 = .ok (.iconst 1, 1) := by decide +kernel
theorem dX10_event_24 : decode cX10_event 24 = .ok (.invokevirtual 152, 3) := by decide +kernel
theorem dX10_event_27 : decode cX10_event 27 = .ok (.ireturn, 1) := by decide +kernel
theorem dX10_event_28 : decode cX10_event 28 = .ok (.iload_n 3, 1) := by decide +kernel
theorem dX10_event_29 : decode cX10_event 29 = .ok (.iconst (-1), 1) := by decide +kernel
theorem dX10_event_30 : decode cX10_event 30 = .ok (.if_icmp .eq 16, 3) := by decide +kernel
theorem dX10_event_33 : decode cX10_event 33 = .ok (.iload_n 3, 1) := by decide +kernel
theorem dX10_event_34 : decode cX10_event 34 = .ok (.invokestatic 155, 3) := by decide +kernel
theorem dX10_event_37 : decode cX10_event 37 = .ok (.ifCond .ne 9, 3) := by decide +kernel
theorem dX10_event_40 : decode cX10_event 40 = .ok (.aload_n 0, 1) := by decide +kernel
theorem dX10_event_41 : decode cX10_event 41 = .ok (.iconst 2, 1) := by decide +kernel
theorem dX10_event_42 : decode cX10_event 42 = .ok (.invokevirtual 152, 3) := by decide +kernel
theorem dX10_event_45 : decode cX10_event 45 = .ok (.ireturn, 1) := by decide +kernel
theorem dX10_event_46 : decode cX10_event 46 = .ok (.aload_n 0, 1) := by decide +kernel
theorem dX10_event_47 : decode cX10_event 47 = .ok (.getfield 20, 3) := by decide +kernel
theorem dX10_event_50 : decode cX10_event 50 = .ok (.iconst 4, 1) := by decide +kernel
theorem dX10_event_51 : decode cX10_event 51 = .ok (.iload_n 1, 1) := by decide +kernel
theorem dX10_event_52 : decode cX10_event 52 = .ok (.imul, 1) := by decide +kernel
theorem dX10_event_53 : decode cX10_event 53 = .ok (.iload_n 2, 1) := by decide +kernel
theorem dX10_event_54 : decode cX10_event 54 = .ok (.iadd, 1) := by decide +kernel
theorem dX10_event_55 : decode cX10_event 55 = .ok (.iaload, 1) := by decide +kernel
theorem dX10_event_56 : decode cX10_event 56 = .ok (.istore 4, 2) := by decide +kernel
theorem dX10_event_58 : decode cX10_event 58 = .ok (.aload_n 0, 1) := by decide +kernel
theorem dX10_event_59 : decode cX10_event 59 = .ok (.getfield 111, 3) := by decide +kernel
theorem dX10_event_62 : decode cX10_event 62 = .ok (.iload_n 1, 1) := by decide +kernel
theorem dX10_event_63 : decode cX10_event 63 = .ok (.iconst 0, 1) := by decide +kernel
theorem dX10_event_64 : decode cX10_event 64 = .ok (.bastore, 1) := by decide +kernel
theorem dX10_event_65 : decode cX10_event 65 = .ok (.aload_n 0, 1) := by decide +kernel
theorem dX10_event_66 : decode cX10_event 66 = .ok (.getfield 20, 3) := by decide +kernel
theorem dX10_event_69 : decode cX10_event 69 = .ok (.iconst 4, 1) := by decide +kernel
theorem dX10_event_70 : decode cX10_event 70 = .ok (.iload_n 1, 1) := by decide +kernel
theorem dX10_event_71 : decode cX10_event 71 = .ok (.imul, 1) := by decide +kernel
theorem dX10_event_72 : decode cX10_event 72 = .ok (.iload_n 2, 1) := by decide +kernel
theorem dX10_event_73 : decode cX10_event 73 = .ok (.iadd, 1) := by decide +kernel
theorem dX10_event_74 : decode cX10_event 74 = .ok (.iload_n 3, 1) := by decide +kernel
theorem dX10_event_75 : decode cX10_event 75 = .ok (.iastore, 1) := by decide +kernel
theorem dX10_event_76 : decode cX10_event 76 = .ok (.iload 4, 2) := by decide +kernel
theorem dX10_event_78 : decode cX10_event 78 = .ok (.ireturn, 1) := by decide +kernel
theorem dX10_force_0 : decode cX10_force 0 = .ok (.iconst (-1), 1) := by decide +kernel
theorem dX10_force_1 : decode cX10_force 1 = .ok (.istore_n 2, 1) := by decide +kernel
theorem dX10_force_2 : decode cX10_force 2 = .ok (.iconst 0, 1) := by decide +kernel
theorem dX10_force_3 : decode cX10_force 3 = .ok (.istore_n 3, 1) := by decide +kernel
theorem dX10_force_4 : decode cX10_force 4 = .ok (.iload_n 3, 1) := by decide +kernel
theorem dX10_force_5 : decode cX10_force 5 = .ok (.aload_n 0, 1) := by decide +kernel
theorem dX10_force_6 : decode cX10_force 6 = .ok (.getfield 270, 3) := by decide +kernel
theorem dX10_force_9 : decode cX10_force 9 = .ok (.if_icmp .ge 41, 3) := by decide +kernel
theorem dX10_force_12 : decode cX10_force 12 = .ok (.aload_n 0, 1) := by decide +kernel
theorem dX10_force_13 : decode cX10_force 13 = .ok (.getfield 60, 3) := by decide +kernel
theorem dX10_force_16 : decode cX10_force 16 = .ok (.iload_n 3, 1) := by decide +kernel
theorem dX10_force_17 : decode cX10_force 17 = .ok (.iaload, 1) := by decide +kernel
theorem dX10_force_18 : decode cX10_force 18 = .ok (.iload_n 1, 1) := by decide +kernel
theorem dX10_force_19 : decode cX10_force 19 = .ok (.if_icmp .gt 25, 3) := by decide +kernel
theorem dX10_force_22 : decode cX10_force 22 = .ok (.iload_n 2, 1) := by decide +kernel
theorem dX10_force_23 : decode cX10_force 23 = .ok (.iconst (-1), 1) := by decide +kernel
theorem dX10_force_24 : decode cX10_force 24 = .ok (.if_icmp .eq 18, 3) := by decide +kernel
theorem dX10_force_27 : decode cX10_force 27 = .ok (.aload_n 0, 1) := by decide +kernel
theorem dX10_force_28 : decode cX10_force 28 = .ok (.getfield 60, 3) := by decide +kernel
theorem dX10_force_31 : decode cX10_force 31 = .ok (.iload_n 3, 1) := by decide +kernel
theorem dX10_force_32 : decode cX10_force 32 = .ok (.iaload, 1) := by decide +kernel
theorem dX10_force_33 : decode cX10_force 33 = .ok (.aload_n 0, 1) := by decide +kernel
theorem dX10_force_34 : decode cX10_force 34 = .ok (.getfield 60, 3) := by decide +kernel
theorem dX10_force_37 : decode cX10_force 37 = .ok (.iload_n 2, 1) := by decide +kernel
theorem dX10_force_38 : decode cX10_force 38 = .ok (.iaload, 1) := by decide +kernel
theorem dX10_force_39 : decode cX10_force 39 = .ok (.if_icmp .lt 5, 3) := by decide +kernel
theorem dX10_force_42 : decode cX10_force 42 = .ok (.iload_n 3, 1) := by decide +kernel
theorem dX10_force_43 : decode cX10_force 43 = .ok (.istore_n 2, 1) := by decide +kernel
theorem dX10_force_44 : decode cX10_force 44 = .ok (.iinc 3 1, 3) := by decide +kernel
theorem dX10_force_47 : decode cX10_force 47 = .ok (.goto (-43), 3) := by decide +kernel
theorem dX10_force_50 : decode cX10_force 50 = .ok (.iload_n 2, 1) := by decide +kernel
theorem dX10_force_51 : decode cX10_force 51 = .ok (.ireturn, 1) := by decide +kernel
theorem dX10_isFor_0 : decode cX10_isFor 0 = .ok (.aload_n 0, 1) := by decide +kernel
theorem dX10_isFor_1 : decode cX10_isFor 1 = .ok (.getfield 69, 3) := by decide +kernel
theorem dX10_isFor_4 : decode cX10_isFor 4 = .ok (.iload_n 1, 1) := by decide +kernel
theorem dX10_isFor_5 : decode cX10_isFor 5 = .ok (.iaload, 1) := by decide +kernel
theorem dX10_isFor_6 : decode cX10_isFor 6 = .ok (.iconst (-1), 1) := by decide +kernel
theorem dX10_isFor_7 : decode cX10_isFor 7 = .ok (.if_icmp .eq 18, 3) := by decide +kernel
theorem dX10_isFor_10 : decode cX10_isFor 10 = .ok (.aload_n 0, 1) := by decide +kernel
theorem dX10_isFor_11 : decode cX10_isFor 11 = .ok (.getfield 69, 3) := by decide +kernel
theorem dX10_isFor_14 : decode cX10_isFor 14 = .ok (.iload_n 1, 1) := by decide +kernel
theorem dX10_isFor_15 : decode cX10_isFor 15 = .ok (.iaload, 1) := by decide +kernel
theorem dX10_isFor_16 : decode cX10_isFor 16 = .ok (.aload_n 0, 1) := by decide +kernel
theorem dX10_isFor_17 : decode cX10_isFor 17 = .ok (.getfield 13, 3) := by decide +kernel
theorem dX10_isFor_20 : decode cX10_isFor 20 = .ok (.iload_n 2, 1) := by decide +kernel
theorem dX10_isFor_21 : decode cX10_isFor 21 = .ok (.iaload, 1) := by decide +kernel
theorem dX10_isFor_22 : decode cX10_isFor 22 = .ok (.if_icmp .ne 27, 3) := by decide +kernel
theorem dX10_isFor_25 : decode cX10_isFor 25 = .ok (.aload_n 0, 1) := by decide +kernel
theorem dX10_isFor_26 : decode cX10_isFor 26 = .ok (.getfield 72, 3) := by decide +kernel
theorem dX10_isFor_29 : decode cX10_isFor 29 = .ok (.iload_n 1, 1) := by decide +kernel
theorem dX10_isFor_30 : decode cX10_isFor 30 = .ok (.iaload, 1) := by decide +kernel
theorem dX10_isFor_31 : decode cX10_isFor 31 = .ok (.iconst (-1), 1) := by decide +kernel
theorem dX10_isFor_32 : decode cX10_isFor 32 = .ok (.if_icmp .eq 13, 3) := by decide +kernel
theorem dX10_isFor_35 : decode cX10_isFor 35 = .ok (.aload_n 0, 1) := by decide +kernel
theorem dX10_isFor_36 : decode cX10_isFor 36 = .ok (.getfield 72, 3) := by decide +kernel
theorem dX10_isFor_39 : decode cX10_isFor 39 = .ok (.iload_n 1, 1) := by decide +kernel
theorem dX10_isFor_40 : decode cX10_isFor 40 = .ok (.iaload, 1) := by decide +kernel
theorem dX10_isFor_41 : decode cX10_isFor 41 = .ok (.iload_n 3, 1) := by decide +kernel
theorem dX10_isFor_42 : decode cX10_isFor 42 = .ok (.if_icmp .ne 7, 3) := by decide +kernel
theorem dX10_isFor_45 : decode cX10_isFor 45 = .ok (.iconst 1, 1) := by decide +kernel
theorem dX10_isFor_46 : decode cX10_isFor 46 = .ok (.goto 4, 3) := by decide +kernel
theorem dX10_isFor_49 : decode cX10_isFor 49 = .ok (.iconst 0, 1) := by decide +kernel
theorem dX10_isFor_50 : decode cX10_isFor 50 = .ok (.istore 4, 2) := by decide +kernel
theorem dX10_isFor_52 : decode cX10_isFor 52 = .ok (.iconst 0, 1) := by decide +kernel
theorem dX10_isFor_53 : decode cX10_isFor 53 = .ok (.istore 5, 2) := by decide +kernel
theorem dX10_isFor_55 : decode cX10_isFor 55 = .ok (.iload 5, 2) := by decide +kernel
theorem dX10_isFor_57 : decode cX10_isFor 57 = .ok (.aload_n 0, 1) := by decide +kernel
theorem dX10_isFor_58 : decode cX10_isFor 58 = .ok (.getfield 90, 3) := by decide +kernel
theorem dX10_isFor_61 : decode cX10_isFor 61 = .ok (.iload_n 1, 1) := by decide +kernel
theorem dX10_isFor_62 : decode cX10_isFor 62 = .ok (.iaload, 1) := by decide +kernel
theorem dX10_isFor_63 : decode cX10_isFor 63 = .ok (.if_icmp .ge 92, 3) := by decide +kernel
theorem dX10_isFor_66 : decode cX10_isFor 66 = .ok (.iload 4, 2) := by decide +kernel
theorem dX10_isFor_68 : decode cX10_isFor 68 = .ok (.ifCond .eq 87, 3) := by decide +kernel
theorem dX10_isFor_71 : decode cX10_isFor 71 = .ok (.aload_n 0, 1) := by decide +kernel
theorem dX10_isFor_72 : decode cX10_isFor 72 = .ok (.getfield 17, 3) := by decide +kernel
theorem dX10_isFor_75 : decode cX10_isFor 75 = .ok (.iconst 4, 1) := by decide +kernel
theorem dX10_isFor_76 : decode cX10_isFor 76 = .ok (.iload_n 2, 1) := by decide +kernel
theorem dX10_isFor_77 : decode cX10_isFor 77 = .ok (.imul, 1) := by decide +kernel
theorem dX10_isFor_78 : decode cX10_isFor 78 = .ok (.aload_n 0, 1) := by decide +kernel
theorem dX10_isFor_79 : decode cX10_isFor 79 = .ok (.getfield 93, 3) := by decide +kernel
theorem dX10_isFor_82 : decode cX10_isFor 82 = .ok (.iconst 4, 1) := by decide +kernel
theorem dX10_isFor_83 : decode cX10_isFor 83 = .ok (.iload_n 1, 1) := by decide +kernel
theorem dX10_isFor_84 : decode cX10_isFor 84 = .ok (.imul, 1) := by decide +kernel
theorem dX10_isFor_85 : decode cX10_isFor 85 = .ok (.iload 5, 2) := by decide +kernel
theorem dX10_isFor_87 : decode cX10_isFor 87 = .ok (.iadd, 1) := by decide +kernel
theorem dX10_isFor_88 : decode cX10_isFor 88 = .ok (.iaload, 1) := by decide +kernel
theorem dX10_isFor_89 : decode cX10_isFor 89 = .ok (.iadd, 1) := by decide +kernel
theorem dX10_isFor_90 : decode cX10_isFor 90 = .ok (.iaload, 1) := by decide +kernel
theorem dX10_isFor_91 : decode cX10_isFor 91 = .ok (.istore 6, 2) := by decide +kernel
theorem dX10_isFor_93 : decode cX10_isFor 93 = .ok (.aload_n 0, 1) := by decide +kernel
theorem dX10_isFor_94 : decode cX10_isFor 94 = .ok (.getfield 96, 3) := by decide +kernel
theorem dX10_isFor_97 : decode cX10_isFor 97 = .ok (.iconst 4, 1) := by decide +kernel
theorem dX10_isFor_98 : decode cX10_isFor 98 = .ok (.iload_n 1, 1) := by decide +kernel
theorem dX10_isFor_99 : decode cX10_isFor 99 = .ok (.imul, 1) := by decide +kernel
theorem dX10_isFor_100 : decode cX10_isFor 100 = .ok (.iload 5, 2) := by decide +kernel
theorem dX10_isFor_102 : decode cX10_isFor 102 = .ok (.iadd, 1) := by decide +kernel
theorem dX10_isFor_103 : decode cX10_isFor 103 = .ok (.iaload, 1) := by decide +kernel
theorem dX10_isFor_104 : decode cX10_isFor 104 = .ok (.istore 7, 2) := by decide +kernel
theorem dX10_isFor_106 : decode cX10_isFor 106 = .ok (.aload_n 0, 1) := by decide +kernel
theorem dX10_isFor_107 : decode cX10_isFor 107 = .ok (.getfield 99, 3) := by decide +kernel
theorem dX10_isFor_110 : decode cX10_isFor 110 = .ok (.iconst 4, 1) := by decide +kernel
theorem dX10_isFor_111 : decode cX10_isFor 111 = .ok (.iload_n 1, 1) := by decide +kernel
theorem dX10_isFor_112 : decode cX10_isFor 112 = .ok (.imul, 1) := by decide +kernel
theorem dX10_isFor_113 : decode cX10_isFor 113 = .ok (.iload 5, 2) := by decide +kernel
theorem dX10_isFor_115 : decode cX10_isFor 115 = .ok (.iadd, 1) := by decide +kernel
theorem dX10_isFor_116 : decode cX10_isFor 116 = .ok (.baload, 1) := by decide +kernel
theorem dX10_isFor_117 : decode cX10_isFor 117 = .ok (.ifCond .eq 18, 3) := by decide +kernel
theorem dX10_isFor_120 : decode cX10_isFor 120 = .ok (.iload 6, 2) := by decide +kernel
theorem dX10_isFor_122 : decode cX10_isFor 122 = .ok (.iload 7, 2) := by decide +kernel
theorem dX10_isFor_124 : decode cX10_isFor 124 = .ok (.if_icmp .ge 7, 3) := by decide +kernel
theorem dX10_isFor_127 : decode cX10_isFor 127 = .ok (.iconst 1, 1) := by decide +kernel
theorem dX10_isFor_128 : decode cX10_isFor 128 = .ok (.goto 19, 3) := by decide +kernel
theorem dX10_isFor_131 : decode cX10_isFor 131 = .ok (.iconst 0, 1) := by decide +kernel
theorem dX10_isFor_132 : decode cX10_isFor 132 = .ok (.goto 15, 3) := by decide +kernel
theorem dX10_isFor_135 : decode cX10_isFor 135 = .ok (.iload 6, 2) := by decide +kernel
theorem dX10_isFor_137 : decode cX10_isFor 137 = .ok (.iload 7, 2) := by decide +kernel
theorem dX10_isFor_139 : decode cX10_isFor 139 = .ok (.if_icmp .ne 7, 3) := by decide +kernel
theorem dX10_isFor_142 : decode cX10_isFor 142 = .ok (.iconst 1, 1) := by decide +kernel
theorem dX10_isFor_143 : decode cX10_isFor 143 = .ok (.goto 4, 3) := by decide +kernel
theorem dX10_isFor_146 : decode cX10_isFor 146 = .ok (.iconst 0, 1) := by decide +kernel
theorem dX10_isFor_147 : decode cX10_isFor 147 = .ok (.istore 4, 2) := by decide +kernel
theorem dX10_isFor_149 : decode cX10_isFor 149 = .ok (.iinc 5 1, 3) := by decide +kernel
theorem dX10_isFor_152 : decode cX10_isFor 152 = .ok (.goto (-97), 3) := by decide +kernel
theorem dX10_isFor_155 : decode cX10_isFor 155 = .ok (.iload 4, 2) := by decide +kernel
theorem dX10_isFor_157 : decode cX10_isFor 157 = .ok (.ireturn, 1) := by decide +kernel
theorem dX10_until_0 : decode cX10_until 0 = .ok (.aload_n 0, 1) := by decide +kernel
theorem dX10_until_1 : decode cX10_until 1 = .ok (.getfield 78, 3) := by decide +kernel
theorem dX10_until_4 : decode cX10_until 4 = .ok (.iload_n 1, 1) := by decide +kernel
theorem dX10_until_5 : decode cX10_until 5 = .ok (.iaload, 1) := by decide +kernel
theorem dX10_until_6 : decode cX10_until 6 = .ok (.ifCond .ne 14, 3) := by decide +kernel
theorem dX10_until_9 : decode cX10_until 9 = .ok (.iload_n 2, 1) := by decide +kernel
theorem dX10_until_10 : decode cX10_until 10 = .ok (.aload_n 0, 1) := by decide +kernel
theorem dX10_until_11 : decode cX10_until 11 = .ok (.getfield 75, 3) := by decide +kernel
theorem dX10_until_14 : decode cX10_until 14 = .ok (.iload_n 1, 1) := by decide +kernel
theorem dX10_until_15 : decode cX10_until 15 = .ok (.iaload, 1) := by decide +kernel
theorem dX10_until_16 : decode cX10_until 16 = .ok (.iadd, 1) := by decide +kernel
theorem dX10_until_17 : decode cX10_until 17 = .ok (.goto 20, 3) := by decide +kernel
theorem dX10_until_20 : decode cX10_until 20 = .ok (.iload_n 2, 1) := by decide +kernel
theorem dX10_until_21 : decode cX10_until 21 = .ok (.aload_n 0, 1) := by decide +kernel
theorem dX10_until_22 : decode cX10_until 22 = .ok (.getfield 78, 3) := by decide +kernel
theorem dX10_until_25 : decode cX10_until 25 = .ok (.iload_n 1, 1) := by decide +kernel
theorem dX10_until_26 : decode cX10_until 26 = .ok (.iaload, 1) := by decide +kernel
theorem dX10_until_27 : decode cX10_until 27 = .ok (.aload_n 0, 1) := by decide +kernel
theorem dX10_until_28 : decode cX10_until 28 = .ok (.getfield 75, 3) := by decide +kernel
theorem dX10_until_31 : decode cX10_until 31 = .ok (.iload_n 1, 1) := by decide +kernel
theorem dX10_until_32 : decode cX10_until 32 = .ok (.iaload, 1) := by decide +kernel
theorem dX10_until_33 : decode cX10_until 33 = .ok (.imul, 1) := by decide +kernel
theorem dX10_until_34 : decode cX10_until 34 = .ok (.invokestatic 168, 3) := by decide +kernel
theorem dX10_until_37 : decode cX10_until 37 = .ok (.istore_n 3, 1) := by decide +kernel
theorem dX10_until_38 : decode cX10_until 38 = .ok (.iload_n 3, 1) := by decide +kernel
theorem dX10_until_39 : decode cX10_until 39 = .ok (.ldc 144, 2) := by decide +kernel
theorem dX10_until_41 : decode cX10_until 41 = .ok (.if_icmp .le 8, 3) := by decide +kernel
theorem dX10_until_44 : decode cX10_until 44 = .ok (.ldc 161, 2) := by decide +kernel
theorem dX10_until_46 : decode cX10_until 46 = .ok (.goto 4, 3) := by decide +kernel
theorem dX10_until_49 : decode cX10_until 49 = .ok (.iload_n 3, 1) := by decide +kernel
theorem dX10_until_50 : decode cX10_until 50 = .ok (.ireturn, 1) := by decide +kernel
theorem dX10_bid_0 : decode cX10_bid 0 = .ok (.bipush 24, 2) := by decide +kernel
theorem dX10_bid_2 : decode cX10_bid 2 = .ok (.iload_n 1, 1) := by decide +kernel
theorem dX10_bid_3 : decode cX10_bid 3 = .ok (.imul, 1) := by decide +kernel
theorem dX10_bid_4 : decode cX10_bid 4 = .ok (.iload_n 2, 1) := by decide +kernel
theorem dX10_bid_5 : decode cX10_bid 5 = .ok (.iadd, 1) := by decide +kernel
theorem dX10_bid_6 : decode cX10_bid 6 = .ok (.istore 4, 2) := by decide +kernel
theorem dX10_bid_8 : decode cX10_bid 8 = .ok (.aload_n 0, 1) := by decide +kernel
theorem dX10_bid_9 : decode cX10_bid 9 = .ok (.getfield 20, 3) := by decide +kernel
theorem dX10_bid_12 : decode cX10_bid 12 = .ok (.iconst 4, 1) := by decide +kernel
theorem dX10_bid_13 : decode cX10_bid 13 = .ok (.iload_n 3, 1) := by decide +kernel
theorem dX10_bid_14 : decode cX10_bid 14 = .ok (.imul, 1) := by decide +kernel
theorem dX10_bid_15 : decode cX10_bid 15 = .ok (.aload_n 0, 1) := by decide +kernel
theorem dX10_bid_16 : decode cX10_bid 16 = .ok (.getfield 81, 3) := by decide +kernel
theorem dX10_bid_19 : decode cX10_bid 19 = .ok (.iload 4, 2) := by decide +kernel
theorem dX10_bid_21 : decode cX10_bid 21 = .ok (.iaload, 1) := by decide +kernel
theorem dX10_bid_22 : decode cX10_bid 22 = .ok (.iadd, 1) := by decide +kernel
theorem dX10_bid_23 : decode cX10_bid 23 = .ok (.iaload, 1) := by decide +kernel
theorem dX10_bid_24 : decode cX10_bid 24 = .ok (.istore 5, 2) := by decide +kernel
theorem dX10_bid_26 : decode cX10_bid 26 = .ok (.aload_n 0, 1) := by decide +kernel
theorem dX10_bid_27 : decode cX10_bid 27 = .ok (.getfield 284, 3) := by decide +kernel
theorem dX10_bid_30 : decode cX10_bid 30 = .ok (.istore 6, 2) := by decide +kernel
theorem dX10_bid_32 : decode cX10_bid 32 = .ok (.aload_n 0, 1) := by decide +kernel
theorem dX10_bid_33 : decode cX10_bid 33 = .ok (.getfield 287, 3) := by decide +kernel
theorem dX10_bid_36 : decode cX10_bid 36 = .ok (.istore 7, 2) := by decide +kernel
theorem dX10_bid_38 : decode cX10_bid 38 = .ok (.aload_n 0, 1) := by decide +kernel
theorem dX10_bid_39 : decode cX10_bid 39 = .ok (.getfield 66, 3) := by decide +kernel
theorem dX10_bid_42 : decode cX10_bid 42 = .ok (.iload 4, 2) := by decide +kernel
theorem dX10_bid_44 : decode cX10_bid 44 = .ok (.iaload, 1) := by decide +kernel
theorem dX10_bid_45 : decode cX10_bid 45 = .ok (.ifCond .ne 32, 3) := by decide +kernel
theorem dX10_bid_48 : decode cX10_bid 48 = .ok (.iload 6, 2) := by decide +kernel
theorem dX10_bid_50 : decode cX10_bid 50 = .ok (.iload 5, 2) := by decide +kernel
theorem dX10_bid_52 : decode cX10_bid 52 = .ok (.iconst (-1), 1) := by decide +kernel
theorem dX10_bid_53 : decode cX10_bid 53 = .ok (.if_icmp .ne 8, 3) := by decide +kernel
theorem dX10_bid_56 : decode cX10_bid 56 = .ok (.ldc 161, 2) := by decide +kernel
theorem dX10_bid_58 : decode cX10_bid 58 = .ok (.goto 11, 3) := by decide +kernel
theorem dX10_bid_61 : decode cX10_bid 61 = .ok (.aload_n 0, 1) := by decide +kernel
theorem dX10_bid_62 : decode cX10_bid 62 = .ok (.iload 4, 2) := by decide +kernel
theorem dX10_bid_64 : decode cX10_bid 64 = .ok (.iload 5, 2) := by decide +kernel
theorem dX10_bid_66 : decode cX10_bid 66 = .ok (.invokevirtual 290, 3) := by decide +kernel
theorem dX10_bid_69 : decode cX10_bid 69 = .ok (.invokestatic 293, 3) := by decide +kernel
theorem dX10_bid_72 : decode cX10_bid 72 = .ok (.istore 6, 2) := by decide +kernel
theorem dX10_bid_74 : decode cX10_bid 74 = .ok (.goto 25, 3) := by decide +kernel
theorem dX10_bid_77 : decode cX10_bid 77 = .ok (.iload 5, 2) := by decide +kernel
theorem dX10_bid_79 : decode cX10_bid 79 = .ok (.iconst (-1), 1) := by decide +kernel
theorem dX10_bid_80 : decode cX10_bid 80 = .ok (.if_icmp .ne 4, 3) := by decide +kernel
theorem dX10_bid_83 : decode cX10_bid 83 = .ok (.return_, 1) := by decide +kernel
theorem dX10_bid_84 : decode cX10_bid 84 = .ok (.iload 7, 2) := by decide +kernel
theorem dX10_bid_86 : decode cX10_bid 86 = .ok (.aload_n 0, 1) := by decide +kernel
theorem dX10_bid_87 : decode cX10_bid 87 = .ok (.iload 4, 2) := by decide +kernel
theorem dX10_bid_89 : decode cX10_bid 89 = .ok (.iload 5, 2) := by decide +kernel
theorem dX10_bid_91 : decode cX10_bid 91 = .ok (.invokevirtual 290, 3) := by decide +kernel
theorem dX10_bid_94 : decode cX10_bid 94 = .ok (.invokestatic 162, 3) := by decide +kernel
theorem dX10_bid_97 : decode cX10_bid 97 = .ok (.istore 7, 2) := by decide +kernel
theorem dX10_bid_99 : decode cX10_bid 99 = .ok (.iload 6, 2) := by decide +kernel
theorem dX10_bid_101 : decode cX10_bid 101 = .ok (.iload 7, 2) := by decide +kernel
theorem dX10_bid_103 : decode cX10_bid 103 = .ok (.if_icmp .le 24, 3) := by decide +kernel
theorem dX10_bid_106 : decode cX10_bid 106 = .ok (.aload_n 0, 1) := by decide +kernel
theorem dX10_bid_107 : decode cX10_bid 107 = .ok (.getfield 105, 3) := by decide +kernel
theorem dX10_bid_110 : decode cX10_bid 110 = .ok (.aload_n 0, 1) := by decide +kernel
theorem dX10_bid_111 : decode cX10_bid 111 = .ok (.getfield 296, 3) := by decide +kernel
theorem dX10_bid_114 : decode cX10_bid 114 = .ok (.iload_n 2, 1) := by decide +kernel
theorem dX10_bid_115 : decode cX10_bid 115 = .ok (.iastore, 1) := by decide +kernel
theorem dX10_bid_116 : decode cX10_bid 116 = .ok (.aload_n 0, 1) := by decide +kernel
theorem dX10_bid_117 : decode cX10_bid 117 = .ok (.dup, 1) := by decide +kernel
theorem dX10_bid_118 : decode cX10_bid 118 = .ok (.getfield 296, 3) := by decide +kernel
theorem dX10_bid_121 : decode cX10_bid 121 = .ok (.iconst 1, 1) := by decide +kernel
theorem dX10_bid_122 : decode cX10_bid 122 = .ok (.iadd, 1) := by decide +kernel
theorem dX10_bid_123 : decode cX10_bid 123 = .ok (.putfield 296, 3) := by decide +kernel
theorem dX10_bid_126 : decode cX10_bid 126 = .ok (.return_, 1) := by decide +kernel
theorem dX10_bid_127 : decode cX10_bid 127 = .ok (.iload 6, 2) := by decide +kernel
theorem dX10_bid_129 : decode cX10_bid 129 = .ok (.aload_n 0, 1) := by decide +kernel
theorem dX10_bid_130 : decode cX10_bid 130 = .ok (.getfield 284, 3) := by decide +kernel
theorem dX10_bid_133 : decode cX10_bid 133 = .ok (.if_icmp .le 8, 3) := by decide +kernel
theorem dX10_bid_136 : decode cX10_bid 136 = .ok (.aload_n 0, 1) := by decide +kernel
theorem dX10_bid_137 : decode cX10_bid 137 = .ok (.iload_n 2, 1) := by decide +kernel
theorem dX10_bid_138 : decode cX10_bid 138 = .ok (.putfield 299, 3) := by decide +kernel
theorem dX10_bid_141 : decode cX10_bid 141 = .ok (.iload 7, 2) := by decide +kernel
theorem dX10_bid_143 : decode cX10_bid 143 = .ok (.aload_n 0, 1) := by decide +kernel
theorem dX10_bid_144 : decode cX10_bid 144 = .ok (.getfield 287, 3) := by decide +kernel
theorem dX10_bid_147 : decode cX10_bid 147 = .ok (.if_icmp .ge 8, 3) := by decide +kernel
theorem dX10_bid_150 : decode cX10_bid 150 = .ok (.aload_n 0, 1) := by decide +kernel
theorem dX10_bid_151 : decode cX10_bid 151 = .ok (.iload_n 2, 1) := by decide +kernel
theorem dX10_bid_152 : decode cX10_bid 152 = .ok (.putfield 302, 3) := by decide +kernel
theorem dX10_bid_155 : decode cX10_bid 155 = .ok (.aload_n 0, 1) := by decide +kernel
theorem dX10_bid_156 : decode cX10_bid 156 = .ok (.iload 6, 2) := by decide +kernel
theorem dX10_bid_158 : decode cX10_bid 158 = .ok (.putfield 284, 3) := by decide +kernel
theorem dX10_bid_161 : decode cX10_bid 161 = .ok (.aload_n 0, 1) := by decide +kernel
theorem dX10_bid_162 : decode cX10_bid 162 = .ok (.iload 7, 2) := by decide +kernel
theorem dX10_bid_164 : decode cX10_bid 164 = .ok (.putfield 287, 3) := by decide +kernel
theorem dX10_bid_167 : decode cX10_bid 167 = .ok (.return_, 1) := by decide +kernel
theorem dX10_tell_0 : decode cX10_tell 0 = .ok (.aload_n 0, 1) := by decide +kernel
theorem dX10_tell_1 : decode cX10_tell 1 = .ok (.iconst 0, 1) := by decide +kernel
theorem dX10_tell_2 : decode cX10_tell 2 = .ok (.putfield 284, 3) := by decide +kernel
theorem dX10_tell_5 : decode cX10_tell 5 = .ok (.aload_n 0, 1) := by decide +kernel
theorem dX10_tell_6 : decode cX10_tell 6 = .ok (.ldc 161, 2) := by decide +kernel
theorem dX10_tell_8 : decode cX10_tell 8 = .ok (.putfield 287, 3) := by decide +kernel
theorem dX10_tell_11 : decode cX10_tell 11 = .ok (.aload_n 0, 1) := by decide +kernel
theorem dX10_tell_12 : decode cX10_tell 12 = .ok (.iconst (-1), 1) := by decide +kernel
theorem dX10_tell_13 : decode cX10_tell 13 = .ok (.putfield 299, 3) := by decide +kernel
theorem dX10_tell_16 : decode cX10_tell 16 = .ok (.aload_n 0, 1) := by decide +kernel
theorem dX10_tell_17 : decode cX10_tell 17 = .ok (.iconst (-1), 1) := by decide +kernel
theorem dX10_tell_18 : decode cX10_tell 18 = .ok (.putfield 302, 3) := by decide +kernel
theorem dX10_tell_21 : decode cX10_tell 21 = .ok (.aload_n 0, 1) := by decide +kernel
theorem dX10_tell_22 : decode cX10_tell 22 = .ok (.iconst 0, 1) := by decide +kernel
theorem dX10_tell_23 : decode cX10_tell 23 = .ok (.putfield 296, 3) := by decide +kernel
theorem dX10_tell_26 : decode cX10_tell 26 = .ok (.iload_n 3, 1) := by decide +kernel
theorem dX10_tell_27 : decode cX10_tell 27 = .ok (.iconst (-1), 1) := by decide +kernel
theorem dX10_tell_28 : decode cX10_tell 28 = .ok (.if_icmp .ne 4, 3) := by decide +kernel
theorem dX10_tell_31 : decode cX10_tell 31 = .ok (.return_, 1) := by decide +kernel
theorem dX10_tell_32 : decode cX10_tell 32 = .ok (.sipush 10000, 3) := by decide +kernel
theorem dX10_tell_35 : decode cX10_tell 35 = .ok (.istore 4, 2) := by decide +kernel
theorem dX10_tell_37 : decode cX10_tell 37 = .ok (.iload 4, 2) := by decide +kernel
theorem dX10_tell_39 : decode cX10_tell 39 = .ok (.ifCond .le 147, 3) := by decide +kernel
theorem dX10_tell_42 : decode cX10_tell 42 = .ok (.iconst (-1), 1) := by decide +kernel
theorem dX10_tell_43 : decode cX10_tell 43 = .ok (.istore 5, 2) := by decide +kernel
theorem dX10_tell_45 : decode cX10_tell 45 = .ok (.iconst 0, 1) := by decide +kernel
theorem dX10_tell_46 : decode cX10_tell 46 = .ok (.istore 6, 2) := by decide +kernel
theorem dX10_tell_48 : decode cX10_tell 48 = .ok (.iload 6, 2) := by decide +kernel
theorem dX10_tell_50 : decode cX10_tell 50 = .ok (.aload_n 0, 1) := by decide +kernel
theorem dX10_tell_51 : decode cX10_tell 51 = .ok (.getfield 63, 3) := by decide +kernel
theorem dX10_tell_54 : decode cX10_tell 54 = .ok (.iload_n 3, 1) := by decide +kernel
theorem dX10_tell_55 : decode cX10_tell 55 = .ok (.iaload, 1) := by decide +kernel
theorem dX10_tell_56 : decode cX10_tell 56 = .ok (.if_icmp .ge 45, 3) := by decide +kernel
theorem dX10_tell_59 : decode cX10_tell 59 = .ok (.aload_n 0, 1) := by decide +kernel
theorem dX10_tell_60 : decode cX10_tell 60 = .ok (.getfield 87, 3) := by decide +kernel
theorem dX10_tell_63 : decode cX10_tell 63 = .ok (.bipush 24, 2) := by decide +kernel
theorem dX10_tell_65 : decode cX10_tell 65 = .ok (.iload_n 3, 1) := by decide +kernel
theorem dX10_tell_66 : decode cX10_tell 66 = .ok (.imul, 1) := by decide +kernel
theorem dX10_tell_67 : decode cX10_tell 67 = .ok (.iload 6, 2) := by decide +kernel
theorem dX10_tell_69 : decode cX10_tell 69 = .ok (.iadd, 1) := by decide +kernel
theorem dX10_tell_70 : decode cX10_tell 70 = .ok (.iaload, 1) := by decide +kernel
theorem dX10_tell_71 : decode cX10_tell 71 = .ok (.iload 4, 2) := by decide +kernel
theorem dX10_tell_73 : decode cX10_tell 73 = .ok (.if_icmp .ge 22, 3) := by decide +kernel
theorem dX10_tell_76 : decode cX10_tell 76 = .ok (.iload 5, 2) := by decide +kernel
theorem dX10_tell_78 : decode cX10_tell 78 = .ok (.aload_n 0, 1) := by decide +kernel
theorem dX10_tell_79 : decode cX10_tell 79 = .ok (.getfield 87, 3) := by decide +kernel
theorem dX10_tell_82 : decode cX10_tell 82 = .ok (.bipush 24, 2) := by decide +kernel
theorem dX10_tell_84 : decode cX10_tell 84 = .ok (.iload_n 3, 1) := by decide +kernel
theorem dX10_tell_85 : decode cX10_tell 85 = .ok (.imul, 1) := by decide +kernel
theorem dX10_tell_86 : decode cX10_tell 86 = .ok (.iload 6, 2) := by decide +kernel
theorem dX10_tell_88 : decode cX10_tell 88 = .ok (.iadd, 1) := by decide +kernel
theorem dX10_tell_89 : decode cX10_tell 89 = .ok (.iaload, 1) := by decide +kernel
theorem dX10_tell_90 : decode cX10_tell 90 = .ok (.invokestatic 293, 3) := by decide +kernel
theorem dX10_tell_93 : decode cX10_tell 93 = .ok (.istore 5, 2) := by decide +kernel
theorem dX10_tell_95 : decode cX10_tell 95 = .ok (.iinc 6 1, 3) := by decide +kernel
theorem dX10_tell_98 : decode cX10_tell 98 = .ok (.goto (-50), 3) := by decide +kernel
theorem dX10_tell_101 : decode cX10_tell 101 = .ok (.iload 5, 2) := by decide +kernel
theorem dX10_tell_103 : decode cX10_tell 103 = .ok (.iconst (-1), 1) := by decide +kernel
theorem dX10_tell_104 : decode cX10_tell 104 = .ok (.if_icmp .ne 4, 3) := by decide +kernel
theorem dX10_tell_107 : decode cX10_tell 107 = .ok (.return_, 1) := by decide +kernel
theorem dX10_tell_108 : decode cX10_tell 108 = .ok (.iconst 0, 1) := by decide +kernel
theorem dX10_tell_109 : decode cX10_tell 109 = .ok (.istore 6, 2) := by decide +kernel
theorem dX10_tell_111 : decode cX10_tell 111 = .ok (.iload 6, 2) := by decide +kernel
theorem dX10_tell_113 : decode cX10_tell 113 = .ok (.aload_n 0, 1) := by decide +kernel
theorem dX10_tell_114 : decode cX10_tell 114 = .ok (.getfield 63, 3) := by decide +kernel
theorem dX10_tell_117 : decode cX10_tell 117 = .ok (.iload_n 3, 1) := by decide +kernel
theorem dX10_tell_118 : decode cX10_tell 118 = .ok (.iaload, 1) := by decide +kernel
theorem dX10_tell_119 : decode cX10_tell 119 = .ok (.if_icmp .ge 60, 3) := by decide +kernel
theorem dX10_tell_122 : decode cX10_tell 122 = .ok (.bipush 24, 2) := by decide +kernel
theorem dX10_tell_124 : decode cX10_tell 124 = .ok (.iload_n 3, 1) := by decide +kernel
theorem dX10_tell_125 : decode cX10_tell 125 = .ok (.imul, 1) := by decide +kernel
theorem dX10_tell_126 : decode cX10_tell 126 = .ok (.iload 6, 2) := by decide +kernel
theorem dX10_tell_128 : decode cX10_tell 128 = .ok (.iadd, 1) := by decide +kernel
theorem dX10_tell_129 : decode cX10_tell 129 = .ok (.istore 7, 2) := by decide +kernel
theorem dX10_tell_131 : decode cX10_tell 131 = .ok (.aload_n 0, 1) := by decide +kernel
theorem dX10_tell_132 : decode cX10_tell 132 = .ok (.getfield 87, 3) := by decide +kernel
theorem dX10_tell_135 : decode cX10_tell 135 = .ok (.iload 7, 2) := by decide +kernel
theorem dX10_tell_137 : decode cX10_tell 137 = .ok (.iaload, 1) := by decide +kernel
theorem dX10_tell_138 : decode cX10_tell 138 = .ok (.iload 5, 2) := by decide +kernel
theorem dX10_tell_140 : decode cX10_tell 140 = .ok (.if_icmp .ne 33, 3) := by decide +kernel
theorem dX10_tell_143 : decode cX10_tell 143 = .ok (.aload_n 0, 1) := by decide +kernel
theorem dX10_tell_144 : decode cX10_tell 144 = .ok (.getfield 66, 3) := by decide +kernel
theorem dX10_tell_147 : decode cX10_tell 147 = .ok (.iload 7, 2) := by decide +kernel
theorem dX10_tell_149 : decode cX10_tell 149 = .ok (.iaload, 1) := by decide +kernel
theorem dX10_tell_150 : decode cX10_tell 150 = .ok (.iconst 2, 1) := by decide +kernel
theorem dX10_tell_151 : decode cX10_tell 151 = .ok (.if_icmp .eq 22, 3) := by decide +kernel
theorem dX10_tell_154 : decode cX10_tell 154 = .ok (.aload_n 0, 1) := by decide +kernel
theorem dX10_tell_155 : decode cX10_tell 155 = .ok (.iload 7, 2) := by decide +kernel
theorem dX10_tell_157 : decode cX10_tell 157 = .ok (.iload_n 1, 1) := by decide +kernel
theorem dX10_tell_158 : decode cX10_tell 158 = .ok (.iload_n 2, 1) := by decide +kernel
theorem dX10_tell_159 : decode cX10_tell 159 = .ok (.invokevirtual 305, 3) := by decide +kernel
theorem dX10_tell_162 : decode cX10_tell 162 = .ok (.ifCond .eq 11, 3) := by decide +kernel
theorem dX10_tell_165 : decode cX10_tell 165 = .ok (.aload_n 0, 1) := by decide +kernel
theorem dX10_tell_166 : decode cX10_tell 166 = .ok (.iload_n 3, 1) := by decide +kernel
theorem dX10_tell_167 : decode cX10_tell 167 = .ok (.iload 6, 2) := by decide +kernel
theorem dX10_tell_169 : decode cX10_tell 169 = .ok (.iload_n 1, 1) := by decide +kernel
theorem dX10_tell_170 : decode cX10_tell 170 = .ok (.invokevirtual 309, 3) := by decide +kernel
theorem dX10_tell_173 : decode cX10_tell 173 = .ok (.iinc 6 1, 3) := by decide +kernel
theorem dX10_tell_176 : decode cX10_tell 176 = .ok (.goto (-65), 3) := by decide +kernel
theorem dX10_tell_179 : decode cX10_tell 179 = .ok (.iload 5, 2) := by decide +kernel
theorem dX10_tell_181 : decode cX10_tell 181 = .ok (.istore 4, 2) := by decide +kernel
theorem dX10_tell_183 : decode cX10_tell 183 = .ok (.goto (-146), 3) := by decide +kernel
theorem dX10_tell_186 : decode cX10_tell 186 = .ok (.return_, 1) := by decide +kernel
theorem dX10_isHeld_0 : decode cX10_isHeld 0 = .ok (.aload_n 0, 1) := by decide +kernel
theorem dX10_isHeld_1 : decode cX10_isHeld 1 = .ok (.getfield 123, 3) := by decide +kernel
theorem dX10_isHeld_4 : decode cX10_isHeld 4 = .ok (.iload_n 1, 1) := by decide +kernel
theorem dX10_isHeld_5 : decode cX10_isHeld 5 = .ok (.iaload, 1) := by decide +kernel
theorem dX10_isHeld_6 : decode cX10_isHeld 6 = .ok (.iload_n 2, 1) := by decide +kernel
theorem dX10_isHeld_7 : decode cX10_isHeld 7 = .ok (.ishr, 1) := by decide +kernel
theorem dX10_isHeld_8 : decode cX10_isHeld 8 = .ok (.iconst 1, 1) := by decide +kernel
theorem dX10_isHeld_9 : decode cX10_isHeld 9 = .ok (.iand, 1) := by decide +kernel
theorem dX10_isHeld_10 : decode cX10_isHeld 10 = .ok (.iconst 1, 1) := by decide +kernel
theorem dX10_isHeld_11 : decode cX10_isHeld 11 = .ok (.if_icmp .ne 7, 3) := by decide +kernel
theorem dX10_isHeld_14 : decode cX10_isHeld 14 = .ok (.iconst 1, 1) := by decide +kernel
theorem dX10_isHeld_15 : decode cX10_isHeld 15 = .ok (.goto 4, 3) := by decide +kernel
theorem dX10_isHeld_18 : decode cX10_isHeld 18 = .ok (.iconst 0, 1) := by decide +kernel
theorem dX10_isHeld_19 : decode cX10_isHeld 19 = .ok (.ireturn, 1) := by decide +kernel
theorem dX10_know_0 : decode cX10_know 0 = .ok (.aload_n 0, 1) := by decide +kernel
theorem dX10_know_1 : decode cX10_know 1 = .ok (.aload_n 0, 1) := by decide +kernel
theorem dX10_know_2 : decode cX10_know 2 = .ok (.getfield 313, 3) := by decide +kernel
theorem dX10_know_5 : decode cX10_know 5 = .ok (.invokevirtual 316, 3) := by decide +kernel
theorem dX10_know_8 : decode cX10_know 8 = .ok (.istore_n 3, 1) := by decide +kernel
theorem dX10_know_9 : decode cX10_know 9 = .ok (.iload_n 3, 1) := by decide +kernel
theorem dX10_know_10 : decode cX10_know 10 = .ok (.aload_n 0, 1) := by decide +kernel
theorem dX10_know_11 : decode cX10_know 11 = .ok (.getfield 108, 3) := by decide +kernel
theorem dX10_know_14 : decode cX10_know 14 = .ok (.if_icmp .eq 27, 3) := by decide +kernel
theorem dX10_know_17 : decode cX10_know 17 = .ok (.iconst 0, 1) := by decide +kernel
theorem dX10_know_18 : decode cX10_know 18 = .ok (.istore 4, 2) := by decide +kernel
theorem dX10_know_20 : decode cX10_know 20 = .ok (.iload 4, 2) := by decide +kernel
theorem dX10_know_22 : decode cX10_know 22 = .ok (.bipush 30, 2) := by decide +kernel
theorem dX10_know_24 : decode cX10_know 24 = .ok (.if_icmp .ge 17, 3) := by decide +kernel
theorem dX10_know_27 : decode cX10_know 27 = .ok (.aload_n 0, 1) := by decide +kernel
theorem dX10_know_28 : decode cX10_know 28 = .ok (.getfield 111, 3) := by decide +kernel
theorem dX10_know_31 : decode cX10_know 31 = .ok (.iload 4, 2) := by decide +kernel
theorem dX10_know_33 : decode cX10_know 33 = .ok (.iconst 0, 1) := by decide +kernel
theorem dX10_know_34 : decode cX10_know 34 = .ok (.bastore, 1) := by decide +kernel
theorem dX10_know_35 : decode cX10_know 35 = .ok (.iinc 4 1, 3) := by decide +kernel
theorem dX10_know_38 : decode cX10_know 38 = .ok (.goto (-18), 3) := by decide +kernel
theorem dX10_know_41 : decode cX10_know 41 = .ok (.aload_n 0, 1) := by decide +kernel
theorem dX10_know_42 : decode cX10_know 42 = .ok (.iload_n 3, 1) := by decide +kernel
theorem dX10_know_43 : decode cX10_know 43 = .ok (.putfield 108, 3) := by decide +kernel
theorem dX10_know_46 : decode cX10_know 46 = .ok (.iconst 0, 1) := by decide +kernel
theorem dX10_know_47 : decode cX10_know 47 = .ok (.istore 4, 2) := by decide +kernel
theorem dX10_know_49 : decode cX10_know 49 = .ok (.iload 4, 2) := by decide +kernel
theorem dX10_know_51 : decode cX10_know 51 = .ok (.bipush 8, 2) := by decide +kernel
theorem dX10_know_53 : decode cX10_know 53 = .ok (.if_icmp .ge 74, 3) := by decide +kernel
theorem dX10_know_56 : decode cX10_know 56 = .ok (.aload_n 0, 1) := by decide +kernel
theorem dX10_know_57 : decode cX10_know 57 = .ok (.getfield 111, 3) := by decide +kernel
theorem dX10_know_60 : decode cX10_know 60 = .ok (.iload_n 1, 1) := by decide +kernel
theorem dX10_know_61 : decode cX10_know 61 = .ok (.baload, 1) := by decide +kernel
theorem dX10_know_62 : decode cX10_know 62 = .ok (.ifCond .ne 65, 3) := by decide +kernel
theorem dX10_know_65 : decode cX10_know 65 = .ok (.aload_n 0, 1) := by decide +kernel
theorem dX10_know_66 : decode cX10_know 66 = .ok (.iload_n 1, 1) := by decide +kernel
theorem dX10_know_67 : decode cX10_know 67 = .ok (.iload 4, 2) := by decide +kernel
theorem dX10_know_69 : decode cX10_know 69 = .ok (.iload_n 3, 1) := by decide +kernel
theorem dX10_know_70 : decode cX10_know 70 = .ok (.invokevirtual 319, 3) := by decide +kernel
theorem dX10_know_73 : decode cX10_know 73 = .ok (.aload_n 0, 1) := by decide +kernel
theorem dX10_know_74 : decode cX10_know 74 = .ok (.getfield 114, 3) := by decide +kernel
theorem dX10_know_77 : decode cX10_know 77 = .ok (.bipush 8, 2) := by decide +kernel
theorem dX10_know_79 : decode cX10_know 79 = .ok (.iload_n 1, 1) := by decide +kernel
theorem dX10_know_80 : decode cX10_know 80 = .ok (.imul, 1) := by decide +kernel
theorem dX10_know_81 : decode cX10_know 81 = .ok (.iload 4, 2) := by decide +kernel
theorem dX10_know_83 : decode cX10_know 83 = .ok (.iadd, 1) := by decide +kernel
theorem dX10_know_84 : decode cX10_know 84 = .ok (.aload_n 0, 1) := by decide +kernel
theorem dX10_know_85 : decode cX10_know 85 = .ok (.getfield 284, 3) := by decide +kernel
theorem dX10_know_88 : decode cX10_know 88 = .ok (.iastore, 1) := by decide +kernel
theorem dX10_know_89 : decode cX10_know 89 = .ok (.aload_n 0, 1) := by decide +kernel
theorem dX10_know_90 : decode cX10_know 90 = .ok (.getfield 117, 3) := by decide +kernel
theorem dX10_know_93 : decode cX10_know 93 = .ok (.bipush 8, 2) := by decide +kernel
theorem dX10_know_95 : decode cX10_know 95 = .ok (.iload_n 1, 1) := by decide +kernel
theorem dX10_know_96 : decode cX10_know 96 = .ok (.imul, 1) := by decide +kernel
theorem dX10_know_97 : decode cX10_know 97 = .ok (.iload 4, 2) := by decide +kernel
theorem dX10_know_99 : decode cX10_know 99 = .ok (.iadd, 1) := by decide +kernel
theorem dX10_know_100 : decode cX10_know 100 = .ok (.aload_n 0, 1) := by decide +kernel
theorem dX10_know_101 : decode cX10_know 101 = .ok (.getfield 287, 3) := by decide +kernel
theorem dX10_know_104 : decode cX10_know 104 = .ok (.iastore, 1) := by decide +kernel
theorem dX10_know_105 : decode cX10_know 105 = .ok (.aload_n 0, 1) := by decide +kernel
theorem dX10_know_106 : decode cX10_know 106 = .ok (.getfield 120, 3) := by decide +kernel
theorem dX10_know_109 : decode cX10_know 109 = .ok (.bipush 8, 2) := by decide +kernel
theorem dX10_know_111 : decode cX10_know 111 = .ok (.iload_n 1, 1) := by decide +kernel
theorem dX10_know_112 : decode cX10_know 112 = .ok (.imul, 1) := by decide +kernel
theorem dX10_know_113 : decode cX10_know 113 = .ok (.iload 4, 2) := by decide +kernel
theorem dX10_know_115 : decode cX10_know 115 = .ok (.iadd, 1) := by decide +kernel
theorem dX10_know_116 : decode cX10_know 116 = .ok (.aload_n 0, 1) := by decide +kernel
theorem dX10_know_117 : decode cX10_know 117 = .ok (.getfield 302, 3) := by decide +kernel
theorem dX10_know_120 : decode cX10_know 120 = .ok (.iastore, 1) := by decide +kernel
theorem dX10_know_121 : decode cX10_know 121 = .ok (.iinc 4 1, 3) := by decide +kernel
theorem dX10_know_124 : decode cX10_know 124 = .ok (.goto (-75), 3) := by decide +kernel
theorem dX10_know_127 : decode cX10_know 127 = .ok (.aload_n 0, 1) := by decide +kernel
theorem dX10_know_128 : decode cX10_know 128 = .ok (.getfield 111, 3) := by decide +kernel
theorem dX10_know_131 : decode cX10_know 131 = .ok (.iload_n 1, 1) := by decide +kernel
theorem dX10_know_132 : decode cX10_know 132 = .ok (.iconst 1, 1) := by decide +kernel
theorem dX10_know_133 : decode cX10_know 133 = .ok (.bastore, 1) := by decide +kernel
theorem dX10_know_134 : decode cX10_know 134 = .ok (.aload_n 0, 1) := by decide +kernel
theorem dX10_know_135 : decode cX10_know 135 = .ok (.aload_n 0, 1) := by decide +kernel
theorem dX10_know_136 : decode cX10_know 136 = .ok (.getfield 114, 3) := by decide +kernel
theorem dX10_know_139 : decode cX10_know 139 = .ok (.bipush 8, 2) := by decide +kernel
theorem dX10_know_141 : decode cX10_know 141 = .ok (.iload_n 1, 1) := by decide +kernel
theorem dX10_know_142 : decode cX10_know 142 = .ok (.imul, 1) := by decide +kernel
theorem dX10_know_143 : decode cX10_know 143 = .ok (.iload_n 2, 1) := by decide +kernel
theorem dX10_know_144 : decode cX10_know 144 = .ok (.iadd, 1) := by decide +kernel
theorem dX10_know_145 : decode cX10_know 145 = .ok (.iaload, 1) := by decide +kernel
theorem dX10_know_146 : decode cX10_know 146 = .ok (.putfield 284, 3) := by decide +kernel
theorem dX10_know_149 : decode cX10_know 149 = .ok (.aload_n 0, 1) := by decide +kernel
theorem dX10_know_150 : decode cX10_know 150 = .ok (.aload_n 0, 1) := by decide +kernel
theorem dX10_know_151 : decode cX10_know 151 = .ok (.getfield 117, 3) := by decide +kernel
theorem dX10_know_154 : decode cX10_know 154 = .ok (.bipush 8, 2) := by decide +kernel
theorem dX10_know_156 : decode cX10_know 156 = .ok (.iload_n 1, 1) := by decide +kernel
theorem dX10_know_157 : decode cX10_know 157 = .ok (.imul, 1) := by decide +kernel
theorem dX10_know_158 : decode cX10_know 158 = .ok (.iload_n 2, 1) := by decide +kernel
theorem dX10_know_159 : decode cX10_know 159 = .ok (.iadd, 1) := by decide +kernel
theorem dX10_know_160 : decode cX10_know 160 = .ok (.iaload, 1) := by decide +kernel
theorem dX10_know_161 : decode cX10_know 161 = .ok (.putfield 287, 3) := by decide +kernel
theorem dX10_know_164 : decode cX10_know 164 = .ok (.aload_n 0, 1) := by decide +kernel
theorem dX10_know_165 : decode cX10_know 165 = .ok (.aload_n 0, 1) := by decide +kernel
theorem dX10_know_166 : decode cX10_know 166 = .ok (.getfield 120, 3) := by decide +kernel
theorem dX10_know_169 : decode cX10_know 169 = .ok (.bipush 8, 2) := by decide +kernel
theorem dX10_know_171 : decode cX10_know 171 = .ok (.iload_n 1, 1) := by decide +kernel
theorem dX10_know_172 : decode cX10_know 172 = .ok (.imul, 1) := by decide +kernel
theorem dX10_know_173 : decode cX10_know 173 = .ok (.iload_n 2, 1) := by decide +kernel
theorem dX10_know_174 : decode cX10_know 174 = .ok (.iadd, 1) := by decide +kernel
theorem dX10_know_175 : decode cX10_know 175 = .ok (.iaload, 1) := by decide +kernel
theorem dX10_know_176 : decode cX10_know 176 = .ok (.putfield 302, 3) := by decide +kernel
theorem dX10_know_179 : decode cX10_know 179 = .ok (.return_, 1) := by decide +kernel
theorem dX10_isDue_0 : decode cX10_isDue 0 = .ok (.aload_n 0, 1) := by decide +kernel
theorem dX10_isDue_1 : decode cX10_isDue 1 = .ok (.iload_n 1, 1) := by decide +kernel
theorem dX10_isDue_2 : decode cX10_isDue 2 = .ok (.iload_n 2, 1) := by decide +kernel
theorem dX10_isDue_3 : decode cX10_isDue 3 = .ok (.invokevirtual 322, 3) := by decide +kernel
theorem dX10_isDue_6 : decode cX10_isDue 6 = .ok (.aload_n 0, 1) := by decide +kernel
theorem dX10_isDue_7 : decode cX10_isDue 7 = .ok (.iload_n 1, 1) := by decide +kernel
theorem dX10_isDue_8 : decode cX10_isDue 8 = .ok (.iload_n 2, 1) := by decide +kernel
theorem dX10_isDue_9 : decode cX10_isDue 9 = .ok (.invokevirtual 326, 3) := by decide +kernel
theorem dX10_isDue_12 : decode cX10_isDue 12 = .ok (.ifCond .ne 33, 3) := by decide +kernel
theorem dX10_isDue_15 : decode cX10_isDue 15 = .ok (.aload_n 0, 1) := by decide +kernel
theorem dX10_isDue_16 : decode cX10_isDue 16 = .ok (.getfield 284, 3) := by decide +kernel
theorem dX10_isDue_19 : decode cX10_isDue 19 = .ok (.iload_n 3, 1) := by decide +kernel
theorem dX10_isDue_20 : decode cX10_isDue 20 = .ok (.if_icmp .gt 25, 3) := by decide +kernel
theorem dX10_isDue_23 : decode cX10_isDue 23 = .ok (.aload_n 0, 1) := by decide +kernel
theorem dX10_isDue_24 : decode cX10_isDue 24 = .ok (.getfield 287, 3) := by decide +kernel
theorem dX10_isDue_27 : decode cX10_isDue 27 = .ok (.ldc 161, 2) := by decide +kernel
theorem dX10_isDue_29 : decode cX10_isDue 29 = .ok (.if_icmp .ne 12, 3) := by decide +kernel
theorem dX10_isDue_32 : decode cX10_isDue 32 = .ok (.aload_n 0, 1) := by decide +kernel
theorem dX10_isDue_33 : decode cX10_isDue 33 = .ok (.getfield 26, 3) := by decide +kernel
theorem dX10_isDue_36 : decode cX10_isDue 36 = .ok (.iload_n 1, 1) := by decide +kernel
theorem dX10_isDue_37 : decode cX10_isDue 37 = .ok (.baload, 1) := by decide +kernel
theorem dX10_isDue_38 : decode cX10_isDue 38 = .ok (.ifCond .eq 7, 3) := by decide +kernel
theorem dX10_isDue_41 : decode cX10_isDue 41 = .ok (.iconst 1, 1) := by decide +kernel
theorem dX10_isDue_42 : decode cX10_isDue 42 = .ok (.goto 4, 3) := by decide +kernel
theorem dX10_isDue_45 : decode cX10_isDue 45 = .ok (.iconst 0, 1) := by decide +kernel
theorem dX10_isDue_46 : decode cX10_isDue 46 = .ok (.ireturn, 1) := by decide +kernel
theorem dX10_placesOf_0 : decode cX10_placesOf 0 = .ok (.aload_n 0, 1) := by decide +kernel
theorem dX10_placesOf_1 : decode cX10_placesOf 1 = .ok (.aload_n 0, 1) := by decide +kernel
theorem dX10_placesOf_2 : decode cX10_placesOf 2 = .ok (.getfield 313, 3) := by decide +kernel
theorem dX10_placesOf_5 : decode cX10_placesOf 5 = .ok (.invokevirtual 316, 3) := by decide +kernel
theorem dX10_placesOf_8 : decode cX10_placesOf 8 = .ok (.istore_n 3, 1) := by decide +kernel
theorem dX10_placesOf_9 : decode cX10_placesOf 9 = .ok (.bipush 15, 2) := by decide +kernel
theorem dX10_placesOf_11 : decode cX10_placesOf 11 = .ok (.istore 4, 2) := by decide +kernel
theorem dX10_placesOf_13 : decode cX10_placesOf 13 = .ok (.iconst 0, 1) := by decide +kernel
theorem dX10_placesOf_14 : decode cX10_placesOf 14 = .ok (.istore 5, 2) := by decide +kernel
theorem dX10_placesOf_16 : decode cX10_placesOf 16 = .ok (.iload_n 3, 1) := by decide +kernel
theorem dX10_placesOf_17 : decode cX10_placesOf 17 = .ok (.iconst (-1), 1) := by decide +kernel
theorem dX10_placesOf_18 : decode cX10_placesOf 18 = .ok (.if_icmp .eq 69, 3) := by decide +kernel
theorem dX10_placesOf_21 : decode cX10_placesOf 21 = .ok (.iload 5, 2) := by decide +kernel
theorem dX10_placesOf_23 : decode cX10_placesOf 23 = .ok (.aload_n 0, 1) := by decide +kernel
theorem dX10_placesOf_24 : decode cX10_placesOf 24 = .ok (.getfield 63, 3) := by decide +kernel
theorem dX10_placesOf_27 : decode cX10_placesOf 27 = .ok (.iload_n 3, 1) := by decide +kernel
theorem dX10_placesOf_28 : decode cX10_placesOf 28 = .ok (.iaload, 1) := by decide +kernel
theorem dX10_placesOf_29 : decode cX10_placesOf 29 = .ok (.if_icmp .ge 58, 3) := by decide +kernel
theorem dX10_placesOf_32 : decode cX10_placesOf 32 = .ok (.aload_n 0, 1) := by decide +kernel
theorem dX10_placesOf_33 : decode cX10_placesOf 33 = .ok (.getfield 66, 3) := by decide +kernel
theorem dX10_placesOf_36 : decode cX10_placesOf 36 = .ok (.bipush 24, 2) := by decide +kernel
theorem dX10_placesOf_38 : decode cX10_placesOf 38 = .ok (.iload_n 3, 1) := by decide +kernel
theorem dX10_placesOf_39 : decode cX10_placesOf 39 = .ok (.imul, 1) := by decide +kernel
theorem dX10_placesOf_40 : decode cX10_placesOf 40 = .ok (.iload 5, 2) := by decide +kernel
theorem dX10_placesOf_42 : decode cX10_placesOf 42 = .ok (.iadd, 1) := by decide +kernel
theorem dX10_placesOf_43 : decode cX10_placesOf 43 = .ok (.iaload, 1) := by decide +kernel
theorem dX10_placesOf_44 : decode cX10_placesOf 44 = .ok (.iconst 2, 1) := by decide +kernel
theorem dX10_placesOf_45 : decode cX10_placesOf 45 = .ok (.if_icmp .ne 36, 3) := by decide +kernel
theorem dX10_placesOf_48 : decode cX10_placesOf 48 = .ok (.aload_n 0, 1) := by decide +kernel
theorem dX10_placesOf_49 : decode cX10_placesOf 49 = .ok (.bipush 24, 2) := by decide +kernel
theorem dX10_placesOf_51 : decode cX10_placesOf 51 = .ok (.iload_n 3, 1) := by decide +kernel
theorem dX10_placesOf_52 : decode cX10_placesOf 52 = .ok (.imul, 1) := by decide +kernel
theorem dX10_placesOf_53 : decode cX10_placesOf 53 = .ok (.iload 5, 2) := by decide +kernel
theorem dX10_placesOf_55 : decode cX10_placesOf 55 = .ok (.iadd, 1) := by decide +kernel
theorem dX10_placesOf_56 : decode cX10_placesOf 56 = .ok (.iload_n 1, 1) := by decide +kernel
theorem dX10_placesOf_57 : decode cX10_placesOf 57 = .ok (.iload_n 2, 1) := by decide +kernel
theorem dX10_placesOf_58 : decode cX10_placesOf 58 = .ok (.invokevirtual 305, 3) := by decide +kernel
theorem dX10_placesOf_61 : decode cX10_placesOf 61 = .ok (.ifCond .eq 20, 3) := by decide +kernel
theorem dX10_placesOf_64 : decode cX10_placesOf 64 = .ok (.iload 4, 2) := by decide +kernel
theorem dX10_placesOf_66 : decode cX10_placesOf 66 = .ok (.aload_n 0, 1) := by decide +kernel
theorem dX10_placesOf_67 : decode cX10_placesOf 67 = .ok (.getfield 84, 3) := by decide +kernel
theorem dX10_placesOf_70 : decode cX10_placesOf 70 = .ok (.bipush 24, 2) := by decide +kernel
theorem dX10_placesOf_72 : decode cX10_placesOf 72 = .ok (.iload_n 3, 1) := by decide +kernel
theorem dX10_placesOf_73 : decode cX10_placesOf 73 = .ok (.imul, 1) := by decide +kernel
theorem dX10_placesOf_74 : decode cX10_placesOf 74 = .ok (.iload 5, 2) := by decide +kernel
theorem dX10_placesOf_76 : decode cX10_placesOf 76 = .ok (.iadd, 1) := by decide +kernel
theorem dX10_placesOf_77 : decode cX10_placesOf 77 = .ok (.iaload, 1) := by decide +kernel
theorem dX10_placesOf_78 : decode cX10_placesOf 78 = .ok (.iand, 1) := by decide +kernel
theorem dX10_placesOf_79 : decode cX10_placesOf 79 = .ok (.istore 4, 2) := by decide +kernel
theorem dX10_placesOf_81 : decode cX10_placesOf 81 = .ok (.iinc 5 1, 3) := by decide +kernel
theorem dX10_placesOf_84 : decode cX10_placesOf 84 = .ok (.goto (-68), 3) := by decide +kernel
theorem dX10_placesOf_87 : decode cX10_placesOf 87 = .ok (.iload 4, 2) := by decide +kernel
theorem dX10_placesOf_89 : decode cX10_placesOf 89 = .ok (.ireturn, 1) := by decide +kernel
theorem dX10_copy_0 : decode cX10_copy 0 = .ok (.aload_n 0, 1) := by decide +kernel
theorem dX10_copy_1 : decode cX10_copy 1 = .ok (.iconst 0, 1) := by decide +kernel
theorem dX10_copy_2 : decode cX10_copy 2 = .ok (.putfield 126, 3) := by decide +kernel
theorem dX10_copy_5 : decode cX10_copy 5 = .ok (.aload_n 0, 1) := by decide +kernel
theorem dX10_copy_6 : decode cX10_copy 6 = .ok (.iload_n 1, 1) := by decide +kernel
theorem dX10_copy_7 : decode cX10_copy 7 = .ok (.invokevirtual 281, 3) := by decide +kernel
theorem dX10_copy_10 : decode cX10_copy 10 = .ok (.ifCond .eq 17, 3) := by decide +kernel
theorem dX10_copy_13 : decode cX10_copy 13 = .ok (.iload_n 2, 1) := by decide +kernel
theorem dX10_copy_14 : decode cX10_copy 14 = .ok (.invokestatic 330, 3) := by decide +kernel
theorem dX10_copy_17 : decode cX10_copy 17 = .ok (.ifCond .eq 10, 3) := by decide +kernel
theorem dX10_copy_20 : decode cX10_copy 20 = .ok (.iload_n 3, 1) := by decide +kernel
theorem dX10_copy_21 : decode cX10_copy 21 = .ok (.invokestatic 333, 3) := by decide +kernel
theorem dX10_copy_24 : decode cX10_copy 24 = .ok (.ifCond .ne 11, 3) := by decide +kernel
theorem dX10_copy_27 : decode cX10_copy 27 = .ok (.aload_n 0, 1) := by decide +kernel
theorem dX10_copy_28 : decode cX10_copy 28 = .ok (.iconst 1, 1) := by decide +kernel
theorem dX10_copy_29 : decode cX10_copy 29 = .ok (.invokevirtual 152, 3) := by decide +kernel
theorem dX10_copy_32 : decode cX10_copy 32 = .ok (.pop, 1) := by decide +kernel
theorem dX10_copy_33 : decode cX10_copy 33 = .ok (.iconst 0, 1) := by decide +kernel
theorem dX10_copy_34 : decode cX10_copy 34 = .ok (.ireturn, 1) := by decide +kernel
theorem dX10_copy_35 : decode cX10_copy 35 = .ok (.bipush 8, 2) := by decide +kernel
theorem dX10_copy_37 : decode cX10_copy 37 = .ok (.iload_n 1, 1) := by decide +kernel
theorem dX10_copy_38 : decode cX10_copy 38 = .ok (.imul, 1) := by decide +kernel
theorem dX10_copy_39 : decode cX10_copy 39 = .ok (.iload_n 2, 1) := by decide +kernel
theorem dX10_copy_40 : decode cX10_copy 40 = .ok (.iadd, 1) := by decide +kernel
theorem dX10_copy_41 : decode cX10_copy 41 = .ok (.istore 4, 2) := by decide +kernel
theorem dX10_copy_43 : decode cX10_copy 43 = .ok (.aload_n 0, 1) := by decide +kernel
theorem dX10_copy_44 : decode cX10_copy 44 = .ok (.getfield 23, 3) := by decide +kernel
theorem dX10_copy_47 : decode cX10_copy 47 = .ok (.iload 4, 2) := by decide +kernel
theorem dX10_copy_49 : decode cX10_copy 49 = .ok (.iaload, 1) := by decide +kernel
theorem dX10_copy_50 : decode cX10_copy 50 = .ok (.iload_n 3, 1) := by decide +kernel
theorem dX10_copy_51 : decode cX10_copy 51 = .ok (.ishr, 1) := by decide +kernel
theorem dX10_copy_52 : decode cX10_copy 52 = .ok (.iconst 1, 1) := by decide +kernel
theorem dX10_copy_53 : decode cX10_copy 53 = .ok (.iand, 1) := by decide +kernel
theorem dX10_copy_54 : decode cX10_copy 54 = .ok (.iconst 1, 1) := by decide +kernel
theorem dX10_copy_55 : decode cX10_copy 55 = .ok (.if_icmp .eq 16, 3) := by decide +kernel
theorem dX10_copy_58 : decode cX10_copy 58 = .ok (.aload_n 0, 1) := by decide +kernel
theorem dX10_copy_59 : decode cX10_copy 59 = .ok (.iload_n 1, 1) := by decide +kernel
theorem dX10_copy_60 : decode cX10_copy 60 = .ok (.iload_n 2, 1) := by decide +kernel
theorem dX10_copy_61 : decode cX10_copy 61 = .ok (.invokevirtual 336, 3) := by decide +kernel
theorem dX10_copy_64 : decode cX10_copy 64 = .ok (.iload_n 3, 1) := by decide +kernel
theorem dX10_copy_65 : decode cX10_copy 65 = .ok (.ishr, 1) := by decide +kernel
theorem dX10_copy_66 : decode cX10_copy 66 = .ok (.iconst 1, 1) := by decide +kernel
theorem dX10_copy_67 : decode cX10_copy 67 = .ok (.iand, 1) := by decide +kernel
theorem dX10_copy_68 : decode cX10_copy 68 = .ok (.ifCond .ne 5, 3) := by decide +kernel
theorem dX10_copy_71 : decode cX10_copy 71 = .ok (.iconst 0, 1) := by decide +kernel
theorem dX10_copy_72 : decode cX10_copy 72 = .ok (.ireturn, 1) := by decide +kernel
theorem dX10_copy_73 : decode cX10_copy 73 = .ok (.aload_n 0, 1) := by decide +kernel
theorem dX10_copy_74 : decode cX10_copy 74 = .ok (.getfield 23, 3) := by decide +kernel
theorem dX10_copy_77 : decode cX10_copy 77 = .ok (.iload 4, 2) := by decide +kernel
theorem dX10_copy_79 : decode cX10_copy 79 = .ok (.dup2, 1) := by decide +kernel
theorem dX10_copy_80 : decode cX10_copy 80 = .ok (.iaload, 1) := by decide +kernel
theorem dX10_copy_81 : decode cX10_copy 81 = .ok (.iconst 1, 1) := by decide +kernel
theorem dX10_copy_82 : decode cX10_copy 82 = .ok (.iload_n 3, 1) := by decide +kernel
theorem dX10_copy_83 : decode cX10_copy 83 = .ok (.ishl, 1) := by decide +kernel
theorem dX10_copy_84 : decode cX10_copy 84 = .ok (.ior, 1) := by decide +kernel
theorem dX10_copy_85 : decode cX10_copy 85 = .ok (.iastore, 1) := by decide +kernel
theorem dX10_copy_86 : decode cX10_copy 86 = .ok (.iconst 1, 1) := by decide +kernel
theorem dX10_copy_87 : decode cX10_copy 87 = .ok (.ireturn, 1) := by decide +kernel
theorem dX10_copies_0 : decode cX10_copies 0 = .ok (.aload_n 0, 1) := by decide +kernel
theorem dX10_copies_1 : decode cX10_copies 1 = .ok (.iconst 0, 1) := by decide +kernel
theorem dX10_copies_2 : decode cX10_copies 2 = .ok (.putfield 126, 3) := by decide +kernel
theorem dX10_copies_5 : decode cX10_copies 5 = .ok (.aload_n 0, 1) := by decide +kernel
theorem dX10_copies_6 : decode cX10_copies 6 = .ok (.iload_n 1, 1) := by decide +kernel
theorem dX10_copies_7 : decode cX10_copies 7 = .ok (.invokevirtual 281, 3) := by decide +kernel
theorem dX10_copies_10 : decode cX10_copies 10 = .ok (.ifCond .eq 24, 3) := by decide +kernel
theorem dX10_copies_13 : decode cX10_copies 13 = .ok (.iload_n 2, 1) := by decide +kernel
theorem dX10_copies_14 : decode cX10_copies 14 = .ok (.invokestatic 330, 3) := by decide +kernel
theorem dX10_copies_17 : decode cX10_copies 17 = .ok (.ifCond .eq 17, 3) := by decide +kernel
theorem dX10_copies_20 : decode cX10_copies 20 = .ok (.aload_n 0, 1) := by decide +kernel
theorem dX10_copies_21 : decode cX10_copies 21 = .ok (.getfield 23, 3) := by decide +kernel
theorem dX10_copies_24 : decode cX10_copies 24 = .ok (.bipush 8, 2) := by decide +kernel
theorem dX10_copies_26 : decode cX10_copies 26 = .ok (.iload_n 1, 1) := by decide +kernel
theorem dX10_copies_27 : decode cX10_copies 27 = .ok (.imul, 1) := by decide +kernel
theorem dX10_copies_28 : decode cX10_copies 28 = .ok (.iload_n 2, 1) := by decide +kernel
theorem dX10_copies_29 : decode cX10_copies 29 = .ok (.iadd, 1) := by decide +kernel
theorem dX10_copies_30 : decode cX10_copies 30 = .ok (.iaload, 1) := by decide +kernel
theorem dX10_copies_31 : decode cX10_copies 31 = .ok (.goto 8, 3) := by decide +kernel
theorem dX10_copies_34 : decode cX10_copies 34 = .ok (.aload_n 0, 1) := by decide +kernel
theorem dX10_copies_35 : decode cX10_copies 35 = .ok (.iconst 1, 1) := by decide +kernel
theorem dX10_copies_36 : decode cX10_copies 36 = .ok (.invokevirtual 152, 3) := by decide +kernel
theorem dX10_copies_39 : decode cX10_copies 39 = .ok (.ireturn, 1) := by decide +kernel
theorem dX10_store_0 : decode cX10_store 0 = .ok (.aload_n 0, 1) := by decide +kernel
theorem dX10_store_1 : decode cX10_store 1 = .ok (.iconst 0, 1) := by decide +kernel
theorem dX10_store_2 : decode cX10_store 2 = .ok (.putfield 126, 3) := by decide +kernel
theorem dX10_store_5 : decode cX10_store 5 = .ok (.iload_n 1, 1) := by decide +kernel
theorem dX10_store_6 : decode cX10_store 6 = .ok (.invokestatic 333, 3) := by decide +kernel
theorem dX10_store_9 : decode cX10_store 9 = .ok (.ifCond .ne 9, 3) := by decide +kernel
theorem dX10_store_12 : decode cX10_store 12 = .ok (.aload_n 0, 1) := by decide +kernel
theorem dX10_store_13 : decode cX10_store 13 = .ok (.iconst 1, 1) := by decide +kernel
theorem dX10_store_14 : decode cX10_store 14 = .ok (.putfield 126, 3) := by decide +kernel
theorem dX10_store_17 : decode cX10_store 17 = .ok (.return_, 1) := by decide +kernel
theorem dX10_store_18 : decode cX10_store 18 = .ok (.iload_n 2, 1) := by decide +kernel
theorem dX10_store_19 : decode cX10_store 19 = .ok (.iconst 1, 1) := by decide +kernel
theorem dX10_store_20 : decode cX10_store 20 = .ok (.if_icmp .lt 21, 3) := by decide +kernel
theorem dX10_store_23 : decode cX10_store 23 = .ok (.iload_n 2, 1) := by decide +kernel
theorem dX10_store_24 : decode cX10_store 24 = .ok (.sipush 400, 3) := by decide +kernel
theorem dX10_store_27 : decode cX10_store 27 = .ok (.if_icmp .gt 14, 3) := by decide +kernel
theorem dX10_store_30 : decode cX10_store 30 = .ok (.iload_n 3, 1) := by decide +kernel
theorem dX10_store_31 : decode cX10_store 31 = .ok (.ifCond .lt 10, 3) := by decide +kernel
theorem dX10_store_34 : decode cX10_store 34 = .ok (.iload_n 3, 1) := by decide +kernel
theorem dX10_store_35 : decode cX10_store 35 = .ok (.sipush 399, 3) := by decide +kernel
theorem dX10_store_38 : decode cX10_store 38 = .ok (.if_icmp .le 9, 3) := by decide +kernel
theorem dX10_store_41 : decode cX10_store 41 = .ok (.aload_n 0, 1) := by decide +kernel
theorem dX10_store_42 : decode cX10_store 42 = .ok (.iconst 2, 1) := by decide +kernel
theorem dX10_store_43 : decode cX10_store 43 = .ok (.putfield 126, 3) := by decide +kernel
theorem dX10_store_46 : decode cX10_store 46 = .ok (.return_, 1) := by decide +kernel
theorem dX10_store_47 : decode cX10_store 47 = .ok (.aload_n 0, 1) := by decide +kernel
theorem dX10_store_48 : decode cX10_store 48 = .ok (.getfield 30, 3) := by decide +kernel
theorem dX10_store_51 : decode cX10_store 51 = .ok (.iload_n 1, 1) := by decide +kernel
theorem dX10_store_52 : decode cX10_store 52 = .ok (.iload_n 2, 1) := by decide +kernel
theorem dX10_store_53 : decode cX10_store 53 = .ok (.iastore, 1) := by decide +kernel
theorem dX10_store_54 : decode cX10_store 54 = .ok (.aload_n 0, 1) := by decide +kernel
theorem dX10_store_55 : decode cX10_store 55 = .ok (.getfield 33, 3) := by decide +kernel
theorem dX10_store_58 : decode cX10_store 58 = .ok (.iload_n 1, 1) := by decide +kernel
theorem dX10_store_59 : decode cX10_store 59 = .ok (.iload_n 3, 1) := by decide +kernel
theorem dX10_store_60 : decode cX10_store 60 = .ok (.iastore, 1) := by decide +kernel
theorem dX10_store_61 : decode cX10_store 61 = .ok (.return_, 1) := by decide +kernel
theorem dX10_hold_0 : decode cX10_hold 0 = .ok (.aload_n 0, 1) := by decide +kernel
theorem dX10_hold_1 : decode cX10_hold 1 = .ok (.iconst 0, 1) := by decide +kernel
theorem dX10_hold_2 : decode cX10_hold 2 = .ok (.putfield 126, 3) := by decide +kernel
theorem dX10_hold_5 : decode cX10_hold 5 = .ok (.aload_n 0, 1) := by decide +kernel
theorem dX10_hold_6 : decode cX10_hold 6 = .ok (.iload_n 1, 1) := by decide +kernel
theorem dX10_hold_7 : decode cX10_hold 7 = .ok (.invokevirtual 281, 3) := by decide +kernel
theorem dX10_hold_10 : decode cX10_hold 10 = .ok (.ifCond .ne 9, 3) := by decide +kernel
theorem dX10_hold_13 : decode cX10_hold 13 = .ok (.aload_n 0, 1) := by decide +kernel
theorem dX10_hold_14 : decode cX10_hold 14 = .ok (.iconst 1, 1) := by decide +kernel
theorem dX10_hold_15 : decode cX10_hold 15 = .ok (.invokevirtual 152, 3) := by decide +kernel
theorem dX10_hold_18 : decode cX10_hold 18 = .ok (.ireturn, 1) := by decide +kernel
theorem dX10_hold_19 : decode cX10_hold 19 = .ok (.aload_n 0, 1) := by decide +kernel
theorem dX10_hold_20 : decode cX10_hold 20 = .ok (.getfield 339, 3) := by decide +kernel
theorem dX10_hold_23 : decode cX10_hold 23 = .ok (.bipush 40, 2) := by decide +kernel
theorem dX10_hold_25 : decode cX10_hold 25 = .ok (.if_icmp .eq 15, 3) := by decide +kernel
theorem dX10_hold_28 : decode cX10_hold 28 = .ok (.iload_n 2, 1) := by decide +kernel
theorem dX10_hold_29 : decode cX10_hold 29 = .ok (.iconst 1, 1) := by decide +kernel
theorem dX10_hold_30 : decode cX10_hold 30 = .ok (.if_icmp .lt 10, 3) := by decide +kernel
theorem dX10_hold_33 : decode cX10_hold 33 = .ok (.iload_n 2, 1) := by decide +kernel
theorem dX10_hold_34 : decode cX10_hold 34 = .ok (.sipush 255, 3) := by decide +kernel
theorem dX10_hold_37 : decode cX10_hold 37 = .ok (.if_icmp .le 5, 3) := by decide +kernel
theorem dX10_hold_40 : decode cX10_hold 40 = .ok (.iconst (-1), 1) := by decide +kernel
theorem dX10_hold_41 : decode cX10_hold 41 = .ok (.ireturn, 1) := by decide +kernel
theorem dX10_hold_42 : decode cX10_hold 42 = .ok (.aload_n 0, 1) := by decide +kernel
theorem dX10_hold_43 : decode cX10_hold 43 = .ok (.getfield 36, 3) := by decide +kernel
theorem dX10_hold_46 : decode cX10_hold 46 = .ok (.aload_n 0, 1) := by decide +kernel
theorem dX10_hold_47 : decode cX10_hold 47 = .ok (.getfield 339, 3) := by decide +kernel
theorem dX10_hold_50 : decode cX10_hold 50 = .ok (.iload_n 1, 1) := by decide +kernel
theorem dX10_hold_51 : decode cX10_hold 51 = .ok (.iastore, 1) := by decide +kernel
theorem dX10_hold_52 : decode cX10_hold 52 = .ok (.aload_n 0, 1) := by decide +kernel
theorem dX10_hold_53 : decode cX10_hold 53 = .ok (.getfield 39, 3) := by decide +kernel
theorem dX10_hold_56 : decode cX10_hold 56 = .ok (.aload_n 0, 1) := by decide +kernel
theorem dX10_hold_57 : decode cX10_hold 57 = .ok (.getfield 339, 3) := by decide +kernel
theorem dX10_hold_60 : decode cX10_hold 60 = .ok (.iload_n 2, 1) := by decide +kernel
theorem dX10_hold_61 : decode cX10_hold 61 = .ok (.iastore, 1) := by decide +kernel
theorem dX10_hold_62 : decode cX10_hold 62 = .ok (.aload_n 0, 1) := by decide +kernel
theorem dX10_hold_63 : decode cX10_hold 63 = .ok (.getfield 123, 3) := by decide +kernel
theorem dX10_hold_66 : decode cX10_hold 66 = .ok (.iload_n 1, 1) := by decide +kernel
theorem dX10_hold_67 : decode cX10_hold 67 = .ok (.dup2, 1) := by decide +kernel
theorem dX10_hold_68 : decode cX10_hold 68 = .ok (.iaload, 1) := by decide +kernel
theorem dX10_hold_69 : decode cX10_hold 69 = .ok (.iload_n 2, 1) := by decide +kernel
theorem dX10_hold_70 : decode cX10_hold 70 = .ok (.ior, 1) := by decide +kernel
theorem dX10_hold_71 : decode cX10_hold 71 = .ok (.iastore, 1) := by decide +kernel
theorem dX10_hold_72 : decode cX10_hold 72 = .ok (.aload_n 0, 1) := by decide +kernel
theorem dX10_hold_73 : decode cX10_hold 73 = .ok (.dup, 1) := by decide +kernel
theorem dX10_hold_74 : decode cX10_hold 74 = .ok (.getfield 339, 3) := by decide +kernel
theorem dX10_hold_77 : decode cX10_hold 77 = .ok (.iconst 1, 1) := by decide +kernel
theorem dX10_hold_78 : decode cX10_hold 78 = .ok (.iadd, 1) := by decide +kernel
theorem dX10_hold_79 : decode cX10_hold 79 = .ok (.putfield 339, 3) := by decide +kernel
theorem dX10_hold_82 : decode cX10_hold 82 = .ok (.aload_n 0, 1) := by decide +kernel
theorem dX10_hold_83 : decode cX10_hold 83 = .ok (.getfield 339, 3) := by decide +kernel
theorem dX10_hold_86 : decode cX10_hold 86 = .ok (.iconst 1, 1) := by decide +kernel
theorem dX10_hold_87 : decode cX10_hold 87 = .ok (.isub, 1) := by decide +kernel
theorem dX10_hold_88 : decode cX10_hold 88 = .ok (.ireturn, 1) := by decide +kernel
theorem dX10_lift_0 : decode cX10_lift 0 = .ok (.aload_n 0, 1) := by decide +kernel
theorem dX10_lift_1 : decode cX10_lift 1 = .ok (.iconst 0, 1) := by decide +kernel
theorem dX10_lift_2 : decode cX10_lift 2 = .ok (.putfield 126, 3) := by decide +kernel
theorem dX10_lift_5 : decode cX10_lift 5 = .ok (.iload_n 1, 1) := by decide +kernel
theorem dX10_lift_6 : decode cX10_lift 6 = .ok (.ifCond .lt 11, 3) := by decide +kernel
theorem dX10_lift_9 : decode cX10_lift 9 = .ok (.iload_n 1, 1) := by decide +kernel
theorem dX10_lift_10 : decode cX10_lift 10 = .ok (.aload_n 0, 1) := by decide +kernel
theorem dX10_lift_11 : decode cX10_lift 11 = .ok (.getfield 339, 3) := by decide +kernel
theorem dX10_lift_14 : decode cX10_lift 14 = .ok (.if_icmp .lt 11, 3) := by decide +kernel
theorem dX10_lift_17 : decode cX10_lift 17 = .ok (.aload_n 0, 1) := by decide +kernel
theorem dX10_lift_18 : decode cX10_lift 18 = .ok (.iconst 1, 1) := by decide +kernel
theorem dX10_lift_19 : decode cX10_lift 19 = .ok (.invokevirtual 152, 3) := by decide +kernel
theorem dX10_lift_22 : decode cX10_lift 22 = .ok (.pop, 1) := by decide +kernel
theorem dX10_lift_23 : decode cX10_lift 23 = .ok (.iconst 0, 1) := by decide +kernel
theorem dX10_lift_24 : decode cX10_lift 24 = .ok (.ireturn, 1) := by decide +kernel
theorem dX10_lift_25 : decode cX10_lift 25 = .ok (.aload_n 0, 1) := by decide +kernel
theorem dX10_lift_26 : decode cX10_lift 26 = .ok (.getfield 42, 3) := by decide +kernel
theorem dX10_lift_29 : decode cX10_lift 29 = .ok (.iload_n 1, 1) := by decide +kernel
theorem dX10_lift_30 : decode cX10_lift 30 = .ok (.baload, 1) := by decide +kernel
theorem dX10_lift_31 : decode cX10_lift 31 = .ok (.ifCond .eq 5, 3) := by decide +kernel
theorem dX10_lift_34 : decode cX10_lift 34 = .ok (.iconst 0, 1) := by decide +kernel
theorem dX10_lift_35 : decode cX10_lift 35 = .ok (.ireturn, 1) := by decide +kernel
theorem dX10_lift_36 : decode cX10_lift 36 = .ok (.aload_n 0, 1) := by decide +kernel
theorem dX10_lift_37 : decode cX10_lift 37 = .ok (.getfield 42, 3) := by decide +kernel
theorem dX10_lift_40 : decode cX10_lift 40 = .ok (.iload_n 1, 1) := by decide +kernel
theorem dX10_lift_41 : decode cX10_lift 41 = .ok (.iconst 1, 1) := by decide +kernel
theorem dX10_lift_42 : decode cX10_lift 42 = .ok (.bastore, 1) := by decide +kernel
theorem dX10_lift_43 : decode cX10_lift 43 = .ok (.aload_n 0, 1) := by decide +kernel
theorem dX10_lift_44 : decode cX10_lift 44 = .ok (.getfield 36, 3) := by decide +kernel
theorem dX10_lift_47 : decode cX10_lift 47 = .ok (.iload_n 1, 1) := by decide +kernel
theorem dX10_lift_48 : decode cX10_lift 48 = .ok (.iaload, 1) := by decide +kernel
theorem dX10_lift_49 : decode cX10_lift 49 = .ok (.istore_n 2, 1) := by decide +kernel
theorem dX10_lift_50 : decode cX10_lift 50 = .ok (.aload_n 0, 1) := by decide +kernel
theorem dX10_lift_51 : decode cX10_lift 51 = .ok (.getfield 123, 3) := by decide +kernel
theorem dX10_lift_54 : decode cX10_lift 54 = .ok (.iload_n 2, 1) := by decide +kernel
theorem dX10_lift_55 : decode cX10_lift 55 = .ok (.iconst 0, 1) := by decide +kernel
theorem dX10_lift_56 : decode cX10_lift 56 = .ok (.iastore, 1) := by decide +kernel
theorem dX10_lift_57 : decode cX10_lift 57 = .ok (.iconst 0, 1) := by decide +kernel
theorem dX10_lift_58 : decode cX10_lift 58 = .ok (.istore_n 3, 1) := by decide +kernel
theorem dX10_lift_59 : decode cX10_lift 59 = .ok (.iload_n 3, 1) := by decide +kernel
theorem dX10_lift_60 : decode cX10_lift 60 = .ok (.aload_n 0, 1) := by decide +kernel
theorem dX10_lift_61 : decode cX10_lift 61 = .ok (.getfield 339, 3) := by decide +kernel
theorem dX10_lift_64 : decode cX10_lift 64 = .ok (.if_icmp .ge 43, 3) := by decide +kernel
theorem dX10_lift_67 : decode cX10_lift 67 = .ok (.aload_n 0, 1) := by decide +kernel
theorem dX10_lift_68 : decode cX10_lift 68 = .ok (.getfield 42, 3) := by decide +kernel
theorem dX10_lift_71 : decode cX10_lift 71 = .ok (.iload_n 3, 1) := by decide +kernel
theorem dX10_lift_72 : decode cX10_lift 72 = .ok (.baload, 1) := by decide +kernel
theorem dX10_lift_73 : decode cX10_lift 73 = .ok (.ifCond .ne 28, 3) := by decide +kernel
theorem dX10_lift_76 : decode cX10_lift 76 = .ok (.aload_n 0, 1) := by decide +kernel
theorem dX10_lift_77 : decode cX10_lift 77 = .ok (.getfield 36, 3) := by decide +kernel
theorem dX10_lift_80 : decode cX10_lift 80 = .ok (.iload_n 3, 1) := by decide +kernel
theorem dX10_lift_81 : decode cX10_lift 81 = .ok (.iaload, 1) := by decide +kernel
theorem dX10_lift_82 : decode cX10_lift 82 = .ok (.iload_n 2, 1) := by decide +kernel
theorem dX10_lift_83 : decode cX10_lift 83 = .ok (.if_icmp .ne 18, 3) := by decide +kernel
theorem dX10_lift_86 : decode cX10_lift 86 = .ok (.aload_n 0, 1) := by decide +kernel
theorem dX10_lift_87 : decode cX10_lift 87 = .ok (.getfield 123, 3) := by decide +kernel
theorem dX10_lift_90 : decode cX10_lift 90 = .ok (.iload_n 2, 1) := by decide +kernel
theorem dX10_lift_91 : decode cX10_lift 91 = .ok (.dup2, 1) := by decide +kernel
theorem dX10_lift_92 : decode cX10_lift 92 = .ok (.iaload, 1) := by decide +kernel
theorem dX10_lift_93 : decode cX10_lift 93 = .ok (.aload_n 0, 1) := by decide +kernel
theorem dX10_lift_94 : decode cX10_lift 94 = .ok (.getfield 39, 3) := by decide +kernel
theorem dX10_lift_97 : decode cX10_lift 97 = .ok (.iload_n 3, 1) := by decide +kernel
theorem dX10_lift_98 : decode cX10_lift 98 = .ok (.iaload, 1) := by decide +kernel
theorem dX10_lift_99 : decode cX10_lift 99 = .ok (.ior, 1) := by decide +kernel
theorem dX10_lift_100 : decode cX10_lift 100 = .ok (.iastore, 1) := by decide +kernel
theorem dX10_lift_101 : decode cX10_lift 101 = .ok (.iinc 3 1, 3) := by decide +kernel
theorem dX10_lift_104 : decode cX10_lift 104 = .ok (.goto (-45), 3) := by decide +kernel
theorem dX10_lift_107 : decode cX10_lift 107 = .ok (.iconst 1, 1) := by decide +kernel
theorem dX10_lift_108 : decode cX10_lift 108 = .ok (.ireturn, 1) := by decide +kernel
theorem dX10_wish_0 : decode cX10_wish 0 = .ok (.aload_n 0, 1) := by decide +kernel
theorem dX10_wish_1 : decode cX10_wish 1 = .ok (.iconst 0, 1) := by decide +kernel
theorem dX10_wish_2 : decode cX10_wish 2 = .ok (.putfield 126, 3) := by decide +kernel
theorem dX10_wish_5 : decode cX10_wish 5 = .ok (.aload_n 0, 1) := by decide +kernel
theorem dX10_wish_6 : decode cX10_wish 6 = .ok (.iload_n 1, 1) := by decide +kernel
theorem dX10_wish_7 : decode cX10_wish 7 = .ok (.invokevirtual 281, 3) := by decide +kernel
theorem dX10_wish_10 : decode cX10_wish 10 = .ok (.ifCond .ne 9, 3) := by decide +kernel
theorem dX10_wish_13 : decode cX10_wish 13 = .ok (.aload_n 0, 1) := by decide +kernel
theorem dX10_wish_14 : decode cX10_wish 14 = .ok (.iconst 1, 1) := by decide +kernel
theorem dX10_wish_15 : decode cX10_wish 15 = .ok (.invokevirtual 152, 3) := by decide +kernel
theorem dX10_wish_18 : decode cX10_wish 18 = .ok (.ireturn, 1) := by decide +kernel
theorem dX10_wish_19 : decode cX10_wish 19 = .ok (.aload_n 0, 1) := by decide +kernel
theorem dX10_wish_20 : decode cX10_wish 20 = .ok (.getfield 26, 3) := by decide +kernel
theorem dX10_wish_23 : decode cX10_wish 23 = .ok (.iload_n 1, 1) := by decide +kernel
theorem dX10_wish_24 : decode cX10_wish 24 = .ok (.iconst 1, 1) := by decide +kernel
theorem dX10_wish_25 : decode cX10_wish 25 = .ok (.bastore, 1) := by decide +kernel
theorem dX10_wish_26 : decode cX10_wish 26 = .ok (.iconst 0, 1) := by decide +kernel
theorem dX10_wish_27 : decode cX10_wish 27 = .ok (.istore_n 2, 1) := by decide +kernel
theorem dX10_wish_28 : decode cX10_wish 28 = .ok (.iconst 0, 1) := by decide +kernel
theorem dX10_wish_29 : decode cX10_wish 29 = .ok (.istore_n 3, 1) := by decide +kernel
theorem dX10_wish_30 : decode cX10_wish 30 = .ok (.iload_n 3, 1) := by decide +kernel
theorem dX10_wish_31 : decode cX10_wish 31 = .ok (.bipush 8, 2) := by decide +kernel
theorem dX10_wish_33 : decode cX10_wish 33 = .ok (.if_icmp .ge 42, 3) := by decide +kernel
theorem dX10_wish_36 : decode cX10_wish 36 = .ok (.aload_n 0, 1) := by decide +kernel
theorem dX10_wish_37 : decode cX10_wish 37 = .ok (.getfield 23, 3) := by decide +kernel
theorem dX10_wish_40 : decode cX10_wish 40 = .ok (.bipush 8, 2) := by decide +kernel
theorem dX10_wish_42 : decode cX10_wish 42 = .ok (.iload_n 1, 1) := by decide +kernel
theorem dX10_wish_43 : decode cX10_wish 43 = .ok (.imul, 1) := by decide +kernel
theorem dX10_wish_44 : decode cX10_wish 44 = .ok (.iload_n 3, 1) := by decide +kernel
theorem dX10_wish_45 : decode cX10_wish 45 = .ok (.iadd, 1) := by decide +kernel
theorem dX10_wish_46 : decode cX10_wish 46 = .ok (.iaload, 1) := by decide +kernel
theorem dX10_wish_47 : decode cX10_wish 47 = .ok (.ifCond .eq 22, 3) := by decide +kernel
theorem dX10_wish_50 : decode cX10_wish 50 = .ok (.aload_n 0, 1) := by decide +kernel
theorem dX10_wish_51 : decode cX10_wish 51 = .ok (.iload_n 1, 1) := by decide +kernel
theorem dX10_wish_52 : decode cX10_wish 52 = .ok (.iload_n 3, 1) := by decide +kernel
theorem dX10_wish_53 : decode cX10_wish 53 = .ok (.aload_n 0, 1) := by decide +kernel
theorem dX10_wish_54 : decode cX10_wish 54 = .ok (.getfield 313, 3) := by decide +kernel
theorem dX10_wish_57 : decode cX10_wish 57 = .ok (.invokevirtual 342, 3) := by decide +kernel
theorem dX10_wish_60 : decode cX10_wish 60 = .ok (.ifCond .eq 9, 3) := by decide +kernel
theorem dX10_wish_63 : decode cX10_wish 63 = .ok (.iload_n 2, 1) := by decide +kernel
theorem dX10_wish_64 : decode cX10_wish 64 = .ok (.iconst 1, 1) := by decide +kernel
theorem dX10_wish_65 : decode cX10_wish 65 = .ok (.iload_n 3, 1) := by decide +kernel
theorem dX10_wish_66 : decode cX10_wish 66 = .ok (.ishl, 1) := by decide +kernel
theorem dX10_wish_67 : decode cX10_wish 67 = .ok (.ior, 1) := by decide +kernel
theorem dX10_wish_68 : decode cX10_wish 68 = .ok (.istore_n 2, 1) := by decide +kernel
theorem dX10_wish_69 : decode cX10_wish 69 = .ok (.iinc 3 1, 3) := by decide +kernel
theorem dX10_wish_72 : decode cX10_wish 72 = .ok (.goto (-42), 3) := by decide +kernel
theorem dX10_wish_75 : decode cX10_wish 75 = .ok (.iload_n 2, 1) := by decide +kernel
theorem dX10_wish_76 : decode cX10_wish 76 = .ok (.ireturn, 1) := by decide +kernel
theorem dX10_isSet_0 : decode cX10_isSet 0 = .ok (.iload_n 1, 1) := by decide +kernel
theorem dX10_isSet_1 : decode cX10_isSet 1 = .ok (.ifCond .lt 15, 3) := by decide +kernel
theorem dX10_isSet_4 : decode cX10_isSet 4 = .ok (.iload_n 1, 1) := by decide +kernel
theorem dX10_isSet_5 : decode cX10_isSet 5 = .ok (.aload_n 0, 1) := by decide +kernel
theorem dX10_isSet_6 : decode cX10_isSet 6 = .ok (.getfield 270, 3) := by decide +kernel
theorem dX10_isSet_9 : decode cX10_isSet 9 = .ok (.if_icmp .ge 7, 3) := by decide +kernel
theorem dX10_isSet_12 : decode cX10_isSet 12 = .ok (.iconst 1, 1) := by decide +kernel
theorem dX10_isSet_13 : decode cX10_isSet 13 = .ok (.goto 4, 3) := by decide +kernel
theorem dX10_isSet_16 : decode cX10_isSet 16 = .ok (.iconst 0, 1) := by decide +kernel
theorem dX10_isSet_17 : decode cX10_isSet 17 = .ok (.ireturn, 1) := by decide +kernel
theorem dX10_span_0 : decode cX10_span 0 = .ok (.aload_n 0, 1) := by decide +kernel
theorem dX10_span_1 : decode cX10_span 1 = .ok (.iconst 0, 1) := by decide +kernel
theorem dX10_span_2 : decode cX10_span 2 = .ok (.putfield 126, 3) := by decide +kernel
theorem dX10_span_5 : decode cX10_span 5 = .ok (.aload_n 0, 1) := by decide +kernel
theorem dX10_span_6 : decode cX10_span 6 = .ok (.iload_n 1, 1) := by decide +kernel
theorem dX10_span_7 : decode cX10_span 7 = .ok (.invokevirtual 281, 3) := by decide +kernel
theorem dX10_span_10 : decode cX10_span 10 = .ok (.ifCond .eq 34, 3) := by decide +kernel
theorem dX10_span_13 : decode cX10_span 13 = .ok (.iload_n 2, 1) := by decide +kernel
theorem dX10_span_14 : decode cX10_span 14 = .ok (.invokestatic 330, 3) := by decide +kernel
theorem dX10_span_17 : decode cX10_span 17 = .ok (.ifCond .eq 27, 3) := by decide +kernel
theorem dX10_span_20 : decode cX10_span 20 = .ok (.iload_n 3, 1) := by decide +kernel
theorem dX10_span_21 : decode cX10_span 21 = .ok (.iconst (-1), 1) := by decide +kernel
theorem dX10_span_22 : decode cX10_span 22 = .ok (.if_icmp .eq 11, 3) := by decide +kernel
theorem dX10_span_25 : decode cX10_span 25 = .ok (.aload_n 0, 1) := by decide +kernel
theorem dX10_span_26 : decode cX10_span 26 = .ok (.iload_n 3, 1) := by decide +kernel
theorem dX10_span_27 : decode cX10_span 27 = .ok (.invokevirtual 345, 3) := by decide +kernel
theorem dX10_span_30 : decode cX10_span 30 = .ok (.ifCond .eq 14, 3) := by decide +kernel
theorem dX10_span_33 : decode cX10_span 33 = .ok (.iload 4, 2) := by decide +kernel
theorem dX10_span_35 : decode cX10_span 35 = .ok (.ifCond .lt 9, 3) := by decide +kernel
theorem dX10_span_38 : decode cX10_span 38 = .ok (.iload 4, 2) := by decide +kernel
theorem dX10_span_40 : decode cX10_span 40 = .ok (.iconst 4, 1) := by decide +kernel
theorem dX10_span_41 : decode cX10_span 41 = .ok (.if_icmp .le 9, 3) := by decide +kernel
theorem dX10_span_44 : decode cX10_span 44 = .ok (.aload_n 0, 1) := by decide +kernel
theorem dX10_span_45 : decode cX10_span 45 = .ok (.iconst 1, 1) := by decide +kernel
theorem dX10_span_46 : decode cX10_span 46 = .ok (.invokevirtual 152, 3) := by decide +kernel
theorem dX10_span_49 : decode cX10_span 49 = .ok (.ireturn, 1) := by decide +kernel
theorem dX10_span_50 : decode cX10_span 50 = .ok (.aload_n 0, 1) := by decide +kernel
theorem dX10_span_51 : decode cX10_span 51 = .ok (.iload_n 1, 1) := by decide +kernel
theorem dX10_span_52 : decode cX10_span 52 = .ok (.iload_n 2, 1) := by decide +kernel
theorem dX10_span_53 : decode cX10_span 53 = .ok (.iload_n 3, 1) := by decide +kernel
theorem dX10_span_54 : decode cX10_span 54 = .ok (.iconst (-1), 1) := by decide +kernel
theorem dX10_span_55 : decode cX10_span 55 = .ok (.if_icmp .ne 14, 3) := by decide +kernel
theorem dX10_span_58 : decode cX10_span 58 = .ok (.aload_n 0, 1) := by decide +kernel
theorem dX10_span_59 : decode cX10_span 59 = .ok (.aload_n 0, 1) := by decide +kernel
theorem dX10_span_60 : decode cX10_span 60 = .ok (.getfield 313, 3) := by decide +kernel
theorem dX10_span_63 : decode cX10_span 63 = .ok (.invokevirtual 316, 3) := by decide +kernel
theorem dX10_span_66 : decode cX10_span 66 = .ok (.goto 4, 3) := by decide +kernel
theorem dX10_span_69 : decode cX10_span 69 = .ok (.iload_n 3, 1) := by decide +kernel
theorem dX10_span_70 : decode cX10_span 70 = .ok (.invokevirtual 319, 3) := by decide +kernel
theorem dX10_span_73 : decode cX10_span 73 = .ok (.iload 4, 2) := by decide +kernel
theorem dX10_span_75 : decode cX10_span 75 = .ok (.ifCond .ne 10, 3) := by decide +kernel
theorem dX10_span_78 : decode cX10_span 78 = .ok (.aload_n 0, 1) := by decide +kernel
theorem dX10_span_79 : decode cX10_span 79 = .ok (.getfield 284, 3) := by decide +kernel
theorem dX10_span_82 : decode cX10_span 82 = .ok (.goto 46, 3) := by decide +kernel
theorem dX10_span_85 : decode cX10_span 85 = .ok (.iload 4, 2) := by decide +kernel
theorem dX10_span_87 : decode cX10_span 87 = .ok (.iconst 1, 1) := by decide +kernel
theorem dX10_span_88 : decode cX10_span 88 = .ok (.if_icmp .ne 10, 3) := by decide +kernel
theorem dX10_span_91 : decode cX10_span 91 = .ok (.aload_n 0, 1) := by decide +kernel
theorem dX10_span_92 : decode cX10_span 92 = .ok (.getfield 287, 3) := by decide +kernel
theorem dX10_span_95 : decode cX10_span 95 = .ok (.goto 33, 3) := by decide +kernel
theorem dX10_span_98 : decode cX10_span 98 = .ok (.iload 4, 2) := by decide +kernel
theorem dX10_span_100 : decode cX10_span 100 = .ok (.iconst 2, 1) := by decide +kernel
theorem dX10_span_101 : decode cX10_span 101 = .ok (.if_icmp .ne 10, 3) := by decide +kernel
theorem dX10_span_104 : decode cX10_span 104 = .ok (.aload_n 0, 1) := by decide +kernel
theorem dX10_span_105 : decode cX10_span 105 = .ok (.getfield 299, 3) := by decide +kernel
theorem dX10_span_108 : decode cX10_span 108 = .ok (.goto 20, 3) := by decide +kernel
theorem dX10_span_111 : decode cX10_span 111 = .ok (.iload 4, 2) := by decide +kernel
theorem dX10_span_113 : decode cX10_span 113 = .ok (.iconst 3, 1) := by decide +kernel
theorem dX10_span_114 : decode cX10_span 114 = .ok (.if_icmp .ne 10, 3) := by decide +kernel
theorem dX10_span_117 : decode cX10_span 117 = .ok (.aload_n 0, 1) := by decide +kernel
theorem dX10_span_118 : decode cX10_span 118 = .ok (.getfield 302, 3) := by decide +kernel
theorem dX10_span_121 : decode cX10_span 121 = .ok (.goto 7, 3) := by decide +kernel
theorem dX10_span_124 : decode cX10_span 124 = .ok (.aload_n 0, 1) := by decide +kernel
theorem dX10_span_125 : decode cX10_span 125 = .ok (.getfield 296, 3) := by decide +kernel
theorem dX10_span_128 : decode cX10_span 128 = .ok (.ireturn, 1) := by decide +kernel
theorem dX10_lost_0 : decode cX10_lost 0 = .ok (.aload_n 0, 1) := by decide +kernel
theorem dX10_lost_1 : decode cX10_lost 1 = .ok (.iconst 0, 1) := by decide +kernel
theorem dX10_lost_2 : decode cX10_lost 2 = .ok (.putfield 126, 3) := by decide +kernel
theorem dX10_lost_5 : decode cX10_lost 5 = .ok (.aload_n 0, 1) := by decide +kernel
theorem dX10_lost_6 : decode cX10_lost 6 = .ok (.iload_n 1, 1) := by decide +kernel
theorem dX10_lost_7 : decode cX10_lost 7 = .ok (.invokevirtual 281, 3) := by decide +kernel
theorem dX10_lost_10 : decode cX10_lost 10 = .ok (.ifCond .eq 23, 3) := by decide +kernel
theorem dX10_lost_13 : decode cX10_lost 13 = .ok (.iload_n 2, 1) := by decide +kernel
theorem dX10_lost_14 : decode cX10_lost 14 = .ok (.invokestatic 330, 3) := by decide +kernel
theorem dX10_lost_17 : decode cX10_lost 17 = .ok (.ifCond .eq 16, 3) := by decide +kernel
theorem dX10_lost_20 : decode cX10_lost 20 = .ok (.iload_n 3, 1) := by decide +kernel
theorem dX10_lost_21 : decode cX10_lost 21 = .ok (.iconst (-1), 1) := by decide +kernel
theorem dX10_lost_22 : decode cX10_lost 22 = .ok (.if_icmp .eq 17, 3) := by decide +kernel
theorem dX10_lost_25 : decode cX10_lost 25 = .ok (.aload_n 0, 1) := by decide +kernel
theorem dX10_lost_26 : decode cX10_lost 26 = .ok (.iload_n 3, 1) := by decide +kernel
theorem dX10_lost_27 : decode cX10_lost 27 = .ok (.invokevirtual 345, 3) := by decide +kernel
theorem dX10_lost_30 : decode cX10_lost 30 = .ok (.ifCond .ne 9, 3) := by decide +kernel
theorem dX10_lost_33 : decode cX10_lost 33 = .ok (.aload_n 0, 1) := by decide +kernel
theorem dX10_lost_34 : decode cX10_lost 34 = .ok (.iconst 1, 1) := by decide +kernel
theorem dX10_lost_35 : decode cX10_lost 35 = .ok (.invokevirtual 152, 3) := by decide +kernel
theorem dX10_lost_38 : decode cX10_lost 38 = .ok (.ireturn, 1) := by decide +kernel
theorem dX10_lost_39 : decode cX10_lost 39 = .ok (.aload_n 0, 1) := by decide +kernel
theorem dX10_lost_40 : decode cX10_lost 40 = .ok (.iload_n 1, 1) := by decide +kernel
theorem dX10_lost_41 : decode cX10_lost 41 = .ok (.iload_n 2, 1) := by decide +kernel
theorem dX10_lost_42 : decode cX10_lost 42 = .ok (.iload_n 3, 1) := by decide +kernel
theorem dX10_lost_43 : decode cX10_lost 43 = .ok (.iconst (-1), 1) := by decide +kernel
theorem dX10_lost_44 : decode cX10_lost 44 = .ok (.if_icmp .ne 14, 3) := by decide +kernel
theorem dX10_lost_47 : decode cX10_lost 47 = .ok (.aload_n 0, 1) := by decide +kernel
theorem dX10_lost_48 : decode cX10_lost 48 = .ok (.aload_n 0, 1) := by decide +kernel
theorem dX10_lost_49 : decode cX10_lost 49 = .ok (.getfield 313, 3) := by decide +kernel
theorem dX10_lost_52 : decode cX10_lost 52 = .ok (.invokevirtual 316, 3) := by decide +kernel
theorem dX10_lost_55 : decode cX10_lost 55 = .ok (.goto 4, 3) := by decide +kernel
theorem dX10_lost_58 : decode cX10_lost 58 = .ok (.iload_n 3, 1) := by decide +kernel
theorem dX10_lost_59 : decode cX10_lost 59 = .ok (.invokevirtual 319, 3) := by decide +kernel
theorem dX10_lost_62 : decode cX10_lost 62 = .ok (.iload 4, 2) := by decide +kernel
theorem dX10_lost_64 : decode cX10_lost 64 = .ok (.ifCond .lt 12, 3) := by decide +kernel
theorem dX10_lost_67 : decode cX10_lost 67 = .ok (.iload 4, 2) := by decide +kernel
theorem dX10_lost_69 : decode cX10_lost 69 = .ok (.aload_n 0, 1) := by decide +kernel
theorem dX10_lost_70 : decode cX10_lost 70 = .ok (.getfield 296, 3) := by decide +kernel
theorem dX10_lost_73 : decode cX10_lost 73 = .ok (.if_icmp .lt 11, 3) := by decide +kernel
theorem dX10_lost_76 : decode cX10_lost 76 = .ok (.aload_n 0, 1) := by decide +kernel
theorem dX10_lost_77 : decode cX10_lost 77 = .ok (.iconst 1, 1) := by decide +kernel
theorem dX10_lost_78 : decode cX10_lost 78 = .ok (.invokevirtual 152, 3) := by decide +kernel
theorem dX10_lost_81 : decode cX10_lost 81 = .ok (.goto 10, 3) := by decide +kernel
theorem dX10_lost_84 : decode cX10_lost 84 = .ok (.aload_n 0, 1) := by decide +kernel
theorem dX10_lost_85 : decode cX10_lost 85 = .ok (.getfield 105, 3) := by decide +kernel
theorem dX10_lost_88 : decode cX10_lost 88 = .ok (.iload 4, 2) := by decide +kernel
theorem dX10_lost_90 : decode cX10_lost 90 = .ok (.iaload, 1) := by decide +kernel
theorem dX10_lost_91 : decode cX10_lost 91 = .ok (.ireturn, 1) := by decide +kernel
theorem dX10_why_0 : decode cX10_why 0 = .ok (.aload_n 0, 1) := by decide +kernel
theorem dX10_why_1 : decode cX10_why 1 = .ok (.iconst 0, 1) := by decide +kernel
theorem dX10_why_2 : decode cX10_why 2 = .ok (.putfield 126, 3) := by decide +kernel
theorem dX10_why_5 : decode cX10_why 5 = .ok (.aload_n 0, 1) := by decide +kernel
theorem dX10_why_6 : decode cX10_why 6 = .ok (.iload_n 1, 1) := by decide +kernel
theorem dX10_why_7 : decode cX10_why 7 = .ok (.invokevirtual 281, 3) := by decide +kernel
theorem dX10_why_10 : decode cX10_why 10 = .ok (.ifCond .eq 10, 3) := by decide +kernel
theorem dX10_why_13 : decode cX10_why 13 = .ok (.iload_n 2, 1) := by decide +kernel
theorem dX10_why_14 : decode cX10_why 14 = .ok (.invokestatic 330, 3) := by decide +kernel
theorem dX10_why_17 : decode cX10_why 17 = .ok (.ifCond .ne 9, 3) := by decide +kernel
theorem dX10_why_20 : decode cX10_why 20 = .ok (.aload_n 0, 1) := by decide +kernel
theorem dX10_why_21 : decode cX10_why 21 = .ok (.iconst 1, 1) := by decide +kernel
theorem dX10_why_22 : decode cX10_why 22 = .ok (.invokevirtual 152, 3) := by decide +kernel
theorem dX10_why_25 : decode cX10_why 25 = .ok (.ireturn, 1) := by decide +kernel
theorem dX10_why_26 : decode cX10_why 26 = .ok (.aload_n 0, 1) := by decide +kernel
theorem dX10_why_27 : decode cX10_why 27 = .ok (.iload_n 1, 1) := by decide +kernel
theorem dX10_why_28 : decode cX10_why 28 = .ok (.iload_n 2, 1) := by decide +kernel
theorem dX10_why_29 : decode cX10_why 29 = .ok (.aload_n 0, 1) := by decide +kernel
theorem dX10_why_30 : decode cX10_why 30 = .ok (.getfield 313, 3) := by decide +kernel
theorem dX10_why_33 : decode cX10_why 33 = .ok (.invokevirtual 342, 3) := by decide +kernel
theorem dX10_why_36 : decode cX10_why 36 = .ok (.ifCond .eq 5, 3) := by decide +kernel
theorem dX10_why_39 : decode cX10_why 39 = .ok (.iconst 0, 1) := by decide +kernel
theorem dX10_why_40 : decode cX10_why 40 = .ok (.ireturn, 1) := by decide +kernel
theorem dX10_why_41 : decode cX10_why 41 = .ok (.aload_n 0, 1) := by decide +kernel
theorem dX10_why_42 : decode cX10_why 42 = .ok (.iload_n 1, 1) := by decide +kernel
theorem dX10_why_43 : decode cX10_why 43 = .ok (.iload_n 2, 1) := by decide +kernel
theorem dX10_why_44 : decode cX10_why 44 = .ok (.invokevirtual 326, 3) := by decide +kernel
theorem dX10_why_47 : decode cX10_why 47 = .ok (.ifCond .eq 7, 3) := by decide +kernel
theorem dX10_why_50 : decode cX10_why 50 = .ok (.iconst 1, 1) := by decide +kernel
theorem dX10_why_51 : decode cX10_why 51 = .ok (.goto 19, 3) := by decide +kernel
theorem dX10_why_54 : decode cX10_why 54 = .ok (.aload_n 0, 1) := by decide +kernel
theorem dX10_why_55 : decode cX10_why 55 = .ok (.getfield 284, 3) := by decide +kernel
theorem dX10_why_58 : decode cX10_why 58 = .ok (.aload_n 0, 1) := by decide +kernel
theorem dX10_why_59 : decode cX10_why 59 = .ok (.getfield 313, 3) := by decide +kernel
theorem dX10_why_62 : decode cX10_why 62 = .ok (.if_icmp .le 7, 3) := by decide +kernel
theorem dX10_why_65 : decode cX10_why 65 = .ok (.iconst 2, 1) := by decide +kernel
theorem dX10_why_66 : decode cX10_why 66 = .ok (.goto 4, 3) := by decide +kernel
theorem dX10_why_69 : decode cX10_why 69 = .ok (.iconst 3, 1) := by decide +kernel
theorem dX10_why_70 : decode cX10_why 70 = .ok (.ireturn, 1) := by decide +kernel
theorem dX10_places_0 : decode cX10_places 0 = .ok (.aload_n 0, 1) := by decide +kernel
theorem dX10_places_1 : decode cX10_places 1 = .ok (.iconst 0, 1) := by decide +kernel
theorem dX10_places_2 : decode cX10_places 2 = .ok (.putfield 126, 3) := by decide +kernel
theorem dX10_places_5 : decode cX10_places 5 = .ok (.aload_n 0, 1) := by decide +kernel
theorem dX10_places_6 : decode cX10_places 6 = .ok (.iload_n 1, 1) := by decide +kernel
theorem dX10_places_7 : decode cX10_places 7 = .ok (.invokevirtual 281, 3) := by decide +kernel
theorem dX10_places_10 : decode cX10_places 10 = .ok (.ifCond .eq 19, 3) := by decide +kernel
theorem dX10_places_13 : decode cX10_places 13 = .ok (.iload_n 2, 1) := by decide +kernel
theorem dX10_places_14 : decode cX10_places 14 = .ok (.invokestatic 330, 3) := by decide +kernel
theorem dX10_places_17 : decode cX10_places 17 = .ok (.ifCond .eq 12, 3) := by decide +kernel
theorem dX10_places_20 : decode cX10_places 20 = .ok (.aload_n 0, 1) := by decide +kernel
theorem dX10_places_21 : decode cX10_places 21 = .ok (.iload_n 1, 1) := by decide +kernel
theorem dX10_places_22 : decode cX10_places 22 = .ok (.iload_n 2, 1) := by decide +kernel
theorem dX10_places_23 : decode cX10_places 23 = .ok (.invokevirtual 336, 3) := by decide +kernel
theorem dX10_places_26 : decode cX10_places 26 = .ok (.goto 8, 3) := by decide +kernel
theorem dX10_places_29 : decode cX10_places 29 = .ok (.aload_n 0, 1) := by decide +kernel
theorem dX10_places_30 : decode cX10_places 30 = .ok (.iconst 1, 1) := by decide +kernel
theorem dX10_places_31 : decode cX10_places 31 = .ok (.invokevirtual 152, 3) := by decide +kernel
theorem dX10_places_34 : decode cX10_places 34 = .ok (.ireturn, 1) := by decide +kernel
theorem dX10_ones_0 : decode cX10_ones 0 = .ok (.iconst 0, 1) := by decide +kernel
theorem dX10_ones_1 : decode cX10_ones 1 = .ok (.istore_n 1, 1) := by decide +kernel
theorem dX10_ones_2 : decode cX10_ones 2 = .ok (.iload_n 0, 1) := by decide +kernel
theorem dX10_ones_3 : decode cX10_ones 3 = .ok (.istore_n 2, 1) := by decide +kernel
theorem dX10_ones_4 : decode cX10_ones 4 = .ok (.iload_n 2, 1) := by decide +kernel
theorem dX10_ones_5 : decode cX10_ones 5 = .ok (.ifCond .eq 15, 3) := by decide +kernel
theorem dX10_ones_8 : decode cX10_ones 8 = .ok (.iinc 1 1, 3) := by decide +kernel
theorem dX10_ones_11 : decode cX10_ones 11 = .ok (.iload_n 2, 1) := by decide +kernel
theorem dX10_ones_12 : decode cX10_ones 12 = .ok (.iload_n 2, 1) := by decide +kernel
theorem dX10_ones_13 : decode cX10_ones 13 = .ok (.iconst 1, 1) := by decide +kernel
theorem dX10_ones_14 : decode cX10_ones 14 = .ok (.isub, 1) := by decide +kernel
theorem dX10_ones_15 : decode cX10_ones 15 = .ok (.iand, 1) := by decide +kernel
theorem dX10_ones_16 : decode cX10_ones 16 = .ok (.istore_n 2, 1) := by decide +kernel
theorem dX10_ones_17 : decode cX10_ones 17 = .ok (.goto (-13), 3) := by decide +kernel
theorem dX10_ones_20 : decode cX10_ones 20 = .ok (.iload_n 1, 1) := by decide +kernel
theorem dX10_ones_21 : decode cX10_ones 21 = .ok (.ireturn, 1) := by decide +kernel
theorem dX10_misplaced_0 : decode cX10_misplaced 0 = .ok (.aload_n 0, 1) := by decide +kernel
theorem dX10_misplaced_1 : decode cX10_misplaced 1 = .ok (.iconst 0, 1) := by decide +kernel
theorem dX10_misplaced_2 : decode cX10_misplaced 2 = .ok (.putfield 126, 3) := by decide +kernel
theorem dX10_misplaced_5 : decode cX10_misplaced 5 = .ok (.iconst 0, 1) := by decide +kernel
theorem dX10_misplaced_6 : decode cX10_misplaced 6 = .ok (.istore_n 1, 1) := by decide +kernel
theorem dX10_misplaced_7 : decode cX10_misplaced 7 = .ok (.iconst 0, 1) := by decide +kernel
theorem dX10_misplaced_8 : decode cX10_misplaced 8 = .ok (.istore_n 2, 1) := by decide +kernel
theorem dX10_misplaced_9 : decode cX10_misplaced 9 = .ok (.iload_n 2, 1) := by decide +kernel
theorem dX10_misplaced_10 : decode cX10_misplaced 10 = .ok (.aload_n 0, 1) := by decide +kernel
theorem dX10_misplaced_11 : decode cX10_misplaced 11 = .ok (.getfield 278, 3) := by decide +kernel
theorem dX10_misplaced_14 : decode cX10_misplaced 14 = .ok (.if_icmp .ge 49, 3) := by decide +kernel
theorem dX10_misplaced_17 : decode cX10_misplaced 17 = .ok (.iconst 0, 1) := by decide +kernel
theorem dX10_misplaced_18 : decode cX10_misplaced 18 = .ok (.istore_n 3, 1) := by decide +kernel
theorem dX10_misplaced_19 : decode cX10_misplaced 19 = .ok (.iload_n 3, 1) := by decide +kernel
theorem dX10_misplaced_20 : decode cX10_misplaced 20 = .ok (.bipush 8, 2) := by decide +kernel
theorem dX10_misplaced_22 : decode cX10_misplaced 22 = .ok (.if_icmp .ge 35, 3) := by decide +kernel
theorem dX10_misplaced_25 : decode cX10_misplaced 25 = .ok (.iload_n 1, 1) := by decide +kernel
theorem dX10_misplaced_26 : decode cX10_misplaced 26 = .ok (.aload_n 0, 1) := by decide +kernel
theorem dX10_misplaced_27 : decode cX10_misplaced 27 = .ok (.getfield 23, 3) := by decide +kernel
theorem dX10_misplaced_30 : decode cX10_misplaced 30 = .ok (.bipush 8, 2) := by decide +kernel
theorem dX10_misplaced_32 : decode cX10_misplaced 32 = .ok (.iload_n 2, 1) := by decide +kernel
theorem dX10_misplaced_33 : decode cX10_misplaced 33 = .ok (.imul, 1) := by decide +kernel
theorem dX10_misplaced_34 : decode cX10_misplaced 34 = .ok (.iload_n 3, 1) := by decide +kernel
theorem dX10_misplaced_35 : decode cX10_misplaced 35 = .ok (.iadd, 1) := by decide +kernel
theorem dX10_misplaced_36 : decode cX10_misplaced 36 = .ok (.iaload, 1) := by decide +kernel
theorem dX10_misplaced_37 : decode cX10_misplaced 37 = .ok (.aload_n 0, 1) := by decide +kernel
theorem dX10_misplaced_38 : decode cX10_misplaced 38 = .ok (.iload_n 2, 1) := by decide +kernel
theorem dX10_misplaced_39 : decode cX10_misplaced 39 = .ok (.iload_n 3, 1) := by decide +kernel
theorem dX10_misplaced_40 : decode cX10_misplaced 40 = .ok (.invokevirtual 336, 3) := by decide +kernel
theorem dX10_misplaced_43 : decode cX10_misplaced 43 = .ok (.iconst (-1), 1) := by decide +kernel
theorem dX10_misplaced_44 : decode cX10_misplaced 44 = .ok (.ixor, 1) := by decide +kernel
theorem dX10_misplaced_45 : decode cX10_misplaced 45 = .ok (.iand, 1) := by decide +kernel
theorem dX10_misplaced_46 : decode cX10_misplaced 46 = .ok (.invokestatic 348, 3) := by decide +kernel
theorem dX10_misplaced_49 : decode cX10_misplaced 49 = .ok (.iadd, 1) := by decide +kernel
theorem dX10_misplaced_50 : decode cX10_misplaced 50 = .ok (.istore_n 1, 1) := by decide +kernel
theorem dX10_misplaced_51 : decode cX10_misplaced 51 = .ok (.iinc 3 1, 3) := by decide +kernel
theorem dX10_misplaced_54 : decode cX10_misplaced 54 = .ok (.goto (-35), 3) := by decide +kernel
theorem dX10_misplaced_57 : decode cX10_misplaced 57 = .ok (.iinc 2 1, 3) := by decide +kernel
theorem dX10_misplaced_60 : decode cX10_misplaced 60 = .ok (.goto (-51), 3) := by decide +kernel
theorem dX10_misplaced_63 : decode cX10_misplaced 63 = .ok (.iload_n 1, 1) := by decide +kernel
theorem dX10_misplaced_64 : decode cX10_misplaced 64 = .ok (.ireturn, 1) := by decide +kernel
theorem dX10_planned_0 : decode cX10_planned 0 = .ok (.aload_n 0, 1) := by decide +kernel
theorem dX10_planned_1 : decode cX10_planned 1 = .ok (.iconst 0, 1) := by decide +kernel
theorem dX10_planned_2 : decode cX10_planned 2 = .ok (.putfield 126, 3) := by decide +kernel
theorem dX10_planned_5 : decode cX10_planned 5 = .ok (.aload_n 0, 1) := by decide +kernel
theorem dX10_planned_6 : decode cX10_planned 6 = .ok (.iload_n 1, 1) := by decide +kernel
theorem dX10_planned_7 : decode cX10_planned 7 = .ok (.invokevirtual 281, 3) := by decide +kernel
theorem dX10_planned_10 : decode cX10_planned 10 = .ok (.ifCond .eq 17, 3) := by decide +kernel
theorem dX10_planned_13 : decode cX10_planned 13 = .ok (.iload_n 2, 1) := by decide +kernel
theorem dX10_planned_14 : decode cX10_planned 14 = .ok (.invokestatic 330, 3) := by decide +kernel
theorem dX10_planned_17 : decode cX10_planned 17 = .ok (.ifCond .eq 10, 3) := by decide +kernel
theorem dX10_planned_20 : decode cX10_planned 20 = .ok (.iload_n 3, 1) := by decide +kernel
theorem dX10_planned_21 : decode cX10_planned 21 = .ok (.invokestatic 333, 3) := by decide +kernel
theorem dX10_planned_24 : decode cX10_planned 24 = .ok (.ifCond .ne 9, 3) := by decide +kernel
theorem dX10_planned_27 : decode cX10_planned 27 = .ok (.aload_n 0, 1) := by decide +kernel
theorem dX10_planned_28 : decode cX10_planned 28 = .ok (.iconst 1, 1) := by decide +kernel
theorem dX10_planned_29 : decode cX10_planned 29 = .ok (.invokevirtual 152, 3) := by decide +kernel
theorem dX10_planned_32 : decode cX10_planned 32 = .ok (.ireturn, 1) := by decide +kernel
theorem dX10_planned_33 : decode cX10_planned 33 = .ok (.aload_n 0, 1) := by decide +kernel
theorem dX10_planned_34 : decode cX10_planned 34 = .ok (.getfield 23, 3) := by decide +kernel
theorem dX10_planned_37 : decode cX10_planned 37 = .ok (.bipush 8, 2) := by decide +kernel
theorem dX10_planned_39 : decode cX10_planned 39 = .ok (.iload_n 1, 1) := by decide +kernel
theorem dX10_planned_40 : decode cX10_planned 40 = .ok (.imul, 1) := by decide +kernel
theorem dX10_planned_41 : decode cX10_planned 41 = .ok (.iload_n 2, 1) := by decide +kernel
theorem dX10_planned_42 : decode cX10_planned 42 = .ok (.iadd, 1) := by decide +kernel
theorem dX10_planned_43 : decode cX10_planned 43 = .ok (.iaload, 1) := by decide +kernel
theorem dX10_planned_44 : decode cX10_planned 44 = .ok (.iload_n 3, 1) := by decide +kernel
theorem dX10_planned_45 : decode cX10_planned 45 = .ok (.ishr, 1) := by decide +kernel
theorem dX10_planned_46 : decode cX10_planned 46 = .ok (.iconst 1, 1) := by decide +kernel
theorem dX10_planned_47 : decode cX10_planned 47 = .ok (.iand, 1) := by decide +kernel
theorem dX10_planned_48 : decode cX10_planned 48 = .ok (.ifCond .ne 5, 3) := by decide +kernel
theorem dX10_planned_51 : decode cX10_planned 51 = .ok (.iconst (-1), 1) := by decide +kernel
theorem dX10_planned_52 : decode cX10_planned 52 = .ok (.ireturn, 1) := by decide +kernel
theorem dX10_planned_53 : decode cX10_planned 53 = .ok (.aload_n 0, 1) := by decide +kernel
theorem dX10_planned_54 : decode cX10_planned 54 = .ok (.iload_n 1, 1) := by decide +kernel
theorem dX10_planned_55 : decode cX10_planned 55 = .ok (.iload_n 2, 1) := by decide +kernel
theorem dX10_planned_56 : decode cX10_planned 56 = .ok (.ldc 161, 2) := by decide +kernel
theorem dX10_planned_58 : decode cX10_planned 58 = .ok (.invokevirtual 342, 3) := by decide +kernel
theorem dX10_planned_61 : decode cX10_planned 61 = .ok (.ifCond .ne 6, 3) := by decide +kernel
theorem dX10_planned_64 : decode cX10_planned 64 = .ok (.ldc 161, 2) := by decide +kernel
theorem dX10_planned_66 : decode cX10_planned 66 = .ok (.ireturn, 1) := by decide +kernel
theorem dX10_planned_67 : decode cX10_planned 67 = .ok (.aload_n 0, 1) := by decide +kernel
theorem dX10_planned_68 : decode cX10_planned 68 = .ok (.getfield 313, 3) := by decide +kernel
theorem dX10_planned_71 : decode cX10_planned 71 = .ok (.iconst 1, 1) := by decide +kernel
theorem dX10_planned_72 : decode cX10_planned 72 = .ok (.iadd, 1) := by decide +kernel
theorem dX10_planned_73 : decode cX10_planned 73 = .ok (.aload_n 0, 1) := by decide +kernel
theorem dX10_planned_74 : decode cX10_planned 74 = .ok (.getfield 284, 3) := by decide +kernel
theorem dX10_planned_77 : decode cX10_planned 77 = .ok (.aload_n 0, 1) := by decide +kernel
theorem dX10_planned_78 : decode cX10_planned 78 = .ok (.getfield 33, 3) := by decide +kernel
theorem dX10_planned_81 : decode cX10_planned 81 = .ok (.iload_n 3, 1) := by decide +kernel
theorem dX10_planned_82 : decode cX10_planned 82 = .ok (.iaload, 1) := by decide +kernel
theorem dX10_planned_83 : decode cX10_planned 83 = .ok (.invokestatic 293, 3) := by decide +kernel
theorem dX10_planned_86 : decode cX10_planned 86 = .ok (.invokestatic 293, 3) := by decide +kernel
theorem dX10_planned_89 : decode cX10_planned 89 = .ok (.istore 4, 2) := by decide +kernel
theorem dX10_planned_91 : decode cX10_planned 91 = .ok (.iload 4, 2) := by decide +kernel
theorem dX10_planned_93 : decode cX10_planned 93 = .ok (.ldc 144, 2) := by decide +kernel
theorem dX10_planned_95 : decode cX10_planned 95 = .ok (.if_icmp .le 6, 3) := by decide +kernel
theorem dX10_planned_98 : decode cX10_planned 98 = .ok (.ldc 161, 2) := by decide +kernel
theorem dX10_planned_100 : decode cX10_planned 100 = .ok (.ireturn, 1) := by decide +kernel
theorem dX10_planned_101 : decode cX10_planned 101 = .ok (.iload 4, 2) := by decide +kernel
theorem dX10_planned_103 : decode cX10_planned 103 = .ok (.aload_n 0, 1) := by decide +kernel
theorem dX10_planned_104 : decode cX10_planned 104 = .ok (.getfield 33, 3) := by decide +kernel
theorem dX10_planned_107 : decode cX10_planned 107 = .ok (.iload_n 3, 1) := by decide +kernel
theorem dX10_planned_108 : decode cX10_planned 108 = .ok (.iaload, 1) := by decide +kernel
theorem dX10_planned_109 : decode cX10_planned 109 = .ok (.isub, 1) := by decide +kernel
theorem dX10_planned_110 : decode cX10_planned 110 = .ok (.aload_n 0, 1) := by decide +kernel
theorem dX10_planned_111 : decode cX10_planned 111 = .ok (.getfield 30, 3) := by decide +kernel
theorem dX10_planned_114 : decode cX10_planned 114 = .ok (.iload_n 3, 1) := by decide +kernel
theorem dX10_planned_115 : decode cX10_planned 115 = .ok (.iaload, 1) := by decide +kernel
theorem dX10_planned_116 : decode cX10_planned 116 = .ok (.irem, 1) := by decide +kernel
theorem dX10_planned_117 : decode cX10_planned 117 = .ok (.ifCond .eq 9, 3) := by decide +kernel
theorem dX10_planned_120 : decode cX10_planned 120 = .ok (.iinc 4 1, 3) := by decide +kernel
theorem dX10_planned_123 : decode cX10_planned 123 = .ok (.goto (-22), 3) := by decide +kernel
theorem dX10_planned_126 : decode cX10_planned 126 = .ok (.iload 4, 2) := by decide +kernel
theorem dX10_planned_128 : decode cX10_planned 128 = .ok (.ldc 144, 2) := by decide +kernel
theorem dX10_planned_130 : decode cX10_planned 130 = .ok (.if_icmp .le 8, 3) := by decide +kernel
theorem dX10_planned_133 : decode cX10_planned 133 = .ok (.ldc 161, 2) := by decide +kernel
theorem dX10_planned_135 : decode cX10_planned 135 = .ok (.goto 5, 3) := by decide +kernel
theorem dX10_planned_138 : decode cX10_planned 138 = .ok (.iload 4, 2) := by decide +kernel
theorem dX10_planned_140 : decode cX10_planned 140 = .ok (.ireturn, 1) := by decide +kernel
theorem dX10_differ_0 : decode cX10_differ 0 = .ok (.aload_n 0, 1) := by decide +kernel
theorem dX10_differ_1 : decode cX10_differ 1 = .ok (.iconst 0, 1) := by decide +kernel
theorem dX10_differ_2 : decode cX10_differ 2 = .ok (.putfield 126, 3) := by decide +kernel
theorem dX10_differ_5 : decode cX10_differ 5 = .ok (.aload_n 0, 1) := by decide +kernel
theorem dX10_differ_6 : decode cX10_differ 6 = .ok (.iload_n 1, 1) := by decide +kernel
theorem dX10_differ_7 : decode cX10_differ 7 = .ok (.invokevirtual 345, 3) := by decide +kernel
theorem dX10_differ_10 : decode cX10_differ 10 = .ok (.ifCond .eq 11, 3) := by decide +kernel
theorem dX10_differ_13 : decode cX10_differ 13 = .ok (.aload_n 0, 1) := by decide +kernel
theorem dX10_differ_14 : decode cX10_differ 14 = .ok (.iload_n 2, 1) := by decide +kernel
theorem dX10_differ_15 : decode cX10_differ 15 = .ok (.invokevirtual 345, 3) := by decide +kernel
theorem dX10_differ_18 : decode cX10_differ 18 = .ok (.ifCond .ne 9, 3) := by decide +kernel
theorem dX10_differ_21 : decode cX10_differ 21 = .ok (.aload_n 0, 1) := by decide +kernel
theorem dX10_differ_22 : decode cX10_differ 22 = .ok (.iconst 1, 1) := by decide +kernel
theorem dX10_differ_23 : decode cX10_differ 23 = .ok (.invokevirtual 152, 3) := by decide +kernel
theorem dX10_differ_26 : decode cX10_differ 26 = .ok (.ireturn, 1) := by decide +kernel
theorem dX10_differ_27 : decode cX10_differ 27 = .ok (.iconst 0, 1) := by decide +kernel
theorem dX10_differ_28 : decode cX10_differ 28 = .ok (.istore_n 3, 1) := by decide +kernel
theorem dX10_differ_29 : decode cX10_differ 29 = .ok (.iconst 0, 1) := by decide +kernel
theorem dX10_differ_30 : decode cX10_differ 30 = .ok (.istore 4, 2) := by decide +kernel
theorem dX10_differ_32 : decode cX10_differ 32 = .ok (.iload 4, 2) := by decide +kernel
theorem dX10_differ_34 : decode cX10_differ 34 = .ok (.aload_n 0, 1) := by decide +kernel
theorem dX10_differ_35 : decode cX10_differ 35 = .ok (.getfield 278, 3) := by decide +kernel
theorem dX10_differ_38 : decode cX10_differ 38 = .ok (.if_icmp .ge 81, 3) := by decide +kernel
theorem dX10_differ_41 : decode cX10_differ 41 = .ok (.iconst 0, 1) := by decide +kernel
theorem dX10_differ_42 : decode cX10_differ 42 = .ok (.istore 5, 2) := by decide +kernel
theorem dX10_differ_44 : decode cX10_differ 44 = .ok (.iload 5, 2) := by decide +kernel
theorem dX10_differ_46 : decode cX10_differ 46 = .ok (.bipush 8, 2) := by decide +kernel
theorem dX10_differ_48 : decode cX10_differ 48 = .ok (.if_icmp .ge 65, 3) := by decide +kernel
theorem dX10_differ_51 : decode cX10_differ 51 = .ok (.aload_n 0, 1) := by decide +kernel
theorem dX10_differ_52 : decode cX10_differ 52 = .ok (.iload 4, 2) := by decide +kernel
theorem dX10_differ_54 : decode cX10_differ 54 = .ok (.iload 5, 2) := by decide +kernel
theorem dX10_differ_56 : decode cX10_differ 56 = .ok (.iload_n 1, 1) := by decide +kernel
theorem dX10_differ_57 : decode cX10_differ 57 = .ok (.invokevirtual 319, 3) := by decide +kernel
theorem dX10_differ_60 : decode cX10_differ 60 = .ok (.aload_n 0, 1) := by decide +kernel
theorem dX10_differ_61 : decode cX10_differ 61 = .ok (.getfield 284, 3) := by decide +kernel
theorem dX10_differ_64 : decode cX10_differ 64 = .ok (.istore 6, 2) := by decide +kernel
theorem dX10_differ_66 : decode cX10_differ 66 = .ok (.aload_n 0, 1) := by decide +kernel
theorem dX10_differ_67 : decode cX10_differ 67 = .ok (.getfield 287, 3) := by decide +kernel
theorem dX10_differ_70 : decode cX10_differ 70 = .ok (.istore 7, 2) := by decide +kernel
theorem dX10_differ_72 : decode cX10_differ 72 = .ok (.aload_n 0, 1) := by decide +kernel
theorem dX10_differ_73 : decode cX10_differ 73 = .ok (.iload 4, 2) := by decide +kernel
theorem dX10_differ_75 : decode cX10_differ 75 = .ok (.iload 5, 2) := by decide +kernel
theorem dX10_differ_77 : decode cX10_differ 77 = .ok (.iload_n 2, 1) := by decide +kernel
theorem dX10_differ_78 : decode cX10_differ 78 = .ok (.invokevirtual 319, 3) := by decide +kernel
theorem dX10_differ_81 : decode cX10_differ 81 = .ok (.iload_n 3, 1) := by decide +kernel
theorem dX10_differ_82 : decode cX10_differ 82 = .ok (.iload 6, 2) := by decide +kernel
theorem dX10_differ_84 : decode cX10_differ 84 = .ok (.aload_n 0, 1) := by decide +kernel
theorem dX10_differ_85 : decode cX10_differ 85 = .ok (.getfield 284, 3) := by decide +kernel
theorem dX10_differ_88 : decode cX10_differ 88 = .ok (.if_icmp .ne 12, 3) := by decide +kernel
theorem dX10_differ_91 : decode cX10_differ 91 = .ok (.iload 7, 2) := by decide +kernel
theorem dX10_differ_93 : decode cX10_differ 93 = .ok (.aload_n 0, 1) := by decide +kernel
theorem dX10_differ_94 : decode cX10_differ 94 = .ok (.getfield 287, 3) := by decide +kernel
theorem dX10_differ_97 : decode cX10_differ 97 = .ok (.if_icmp .eq 7, 3) := by decide +kernel
theorem dX10_differ_100 : decode cX10_differ 100 = .ok (.iconst 1, 1) := by decide +kernel
theorem dX10_differ_101 : decode cX10_differ 101 = .ok (.goto 4, 3) := by decide +kernel
theorem dX10_differ_104 : decode cX10_differ 104 = .ok (.iconst 0, 1) := by decide +kernel
theorem dX10_differ_105 : decode cX10_differ 105 = .ok (.iadd, 1) := by decide +kernel
theorem dX10_differ_106 : decode cX10_differ 106 = .ok (.istore_n 3, 1) := by decide +kernel
theorem dX10_differ_107 : decode cX10_differ 107 = .ok (.iinc 5 1, 3) := by decide +kernel
theorem dX10_differ_110 : decode cX10_differ 110 = .ok (.goto (-66), 3) := by decide +kernel
theorem dX10_differ_113 : decode cX10_differ 113 = .ok (.iinc 4 1, 3) := by decide +kernel
theorem dX10_differ_116 : decode cX10_differ 116 = .ok (.goto (-84), 3) := by decide +kernel
theorem dX10_differ_119 : decode cX10_differ 119 = .ok (.iload_n 3, 1) := by decide +kernel
theorem dX10_differ_120 : decode cX10_differ 120 = .ok (.ireturn, 1) := by decide +kernel
theorem dX10_bites_0 : decode cX10_bites 0 = .ok (.aload_n 0, 1) := by decide +kernel
theorem dX10_bites_1 : decode cX10_bites 1 = .ok (.iconst 0, 1) := by decide +kernel
theorem dX10_bites_2 : decode cX10_bites 2 = .ok (.putfield 126, 3) := by decide +kernel
theorem dX10_bites_5 : decode cX10_bites 5 = .ok (.aload_n 0, 1) := by decide +kernel
theorem dX10_bites_6 : decode cX10_bites 6 = .ok (.iload_n 1, 1) := by decide +kernel
theorem dX10_bites_7 : decode cX10_bites 7 = .ok (.invokevirtual 345, 3) := by decide +kernel
theorem dX10_bites_10 : decode cX10_bites 10 = .ok (.ifCond .eq 17, 3) := by decide +kernel
theorem dX10_bites_13 : decode cX10_bites 13 = .ok (.iload_n 2, 1) := by decide +kernel
theorem dX10_bites_14 : decode cX10_bites 14 = .ok (.ifCond .lt 13, 3) := by decide +kernel
theorem dX10_bites_17 : decode cX10_bites 17 = .ok (.iload_n 2, 1) := by decide +kernel
theorem dX10_bites_18 : decode cX10_bites 18 = .ok (.aload_n 0, 1) := by decide +kernel
theorem dX10_bites_19 : decode cX10_bites 19 = .ok (.getfield 63, 3) := by decide +kernel
theorem dX10_bites_22 : decode cX10_bites 22 = .ok (.iload_n 1, 1) := by decide +kernel
theorem dX10_bites_23 : decode cX10_bites 23 = .ok (.iaload, 1) := by decide +kernel
theorem dX10_bites_24 : decode cX10_bites 24 = .ok (.if_icmp .lt 11, 3) := by decide +kernel
theorem dX10_bites_27 : decode cX10_bites 27 = .ok (.aload_n 0, 1) := by decide +kernel
theorem dX10_bites_28 : decode cX10_bites 28 = .ok (.iconst 1, 1) := by decide +kernel
theorem dX10_bites_29 : decode cX10_bites 29 = .ok (.invokevirtual 152, 3) := by decide +kernel
theorem dX10_bites_32 : decode cX10_bites 32 = .ok (.pop, 1) := by decide +kernel
theorem dX10_bites_33 : decode cX10_bites 33 = .ok (.iconst 0, 1) := by decide +kernel
theorem dX10_bites_34 : decode cX10_bites 34 = .ok (.ireturn, 1) := by decide +kernel
theorem dX10_bites_35 : decode cX10_bites 35 = .ok (.iconst 0, 1) := by decide +kernel
theorem dX10_bites_36 : decode cX10_bites 36 = .ok (.istore_n 3, 1) := by decide +kernel
theorem dX10_bites_37 : decode cX10_bites 37 = .ok (.iconst 0, 1) := by decide +kernel
theorem dX10_bites_38 : decode cX10_bites 38 = .ok (.istore 4, 2) := by decide +kernel
theorem dX10_bites_40 : decode cX10_bites 40 = .ok (.iload 4, 2) := by decide +kernel
theorem dX10_bites_42 : decode cX10_bites 42 = .ok (.aload_n 0, 1) := by decide +kernel
theorem dX10_bites_43 : decode cX10_bites 43 = .ok (.getfield 278, 3) := by decide +kernel
theorem dX10_bites_46 : decode cX10_bites 46 = .ok (.if_icmp .ge 60, 3) := by decide +kernel
theorem dX10_bites_49 : decode cX10_bites 49 = .ok (.iconst 0, 1) := by decide +kernel
theorem dX10_bites_50 : decode cX10_bites 50 = .ok (.istore 5, 2) := by decide +kernel
theorem dX10_bites_52 : decode cX10_bites 52 = .ok (.iload 5, 2) := by decide +kernel
theorem dX10_bites_54 : decode cX10_bites 54 = .ok (.bipush 8, 2) := by decide +kernel
theorem dX10_bites_56 : decode cX10_bites 56 = .ok (.if_icmp .ge 44, 3) := by decide +kernel
theorem dX10_bites_59 : decode cX10_bites 59 = .ok (.aload_n 0, 1) := by decide +kernel
theorem dX10_bites_60 : decode cX10_bites 60 = .ok (.getfield 23, 3) := by decide +kernel
theorem dX10_bites_63 : decode cX10_bites 63 = .ok (.bipush 8, 2) := by decide +kernel
theorem dX10_bites_65 : decode cX10_bites 65 = .ok (.iload 4, 2) := by decide +kernel
theorem dX10_bites_67 : decode cX10_bites 67 = .ok (.imul, 1) := by decide +kernel
theorem dX10_bites_68 : decode cX10_bites 68 = .ok (.iload 5, 2) := by decide +kernel
theorem dX10_bites_70 : decode cX10_bites 70 = .ok (.iadd, 1) := by decide +kernel
theorem dX10_bites_71 : decode cX10_bites 71 = .ok (.iaload, 1) := by decide +kernel
theorem dX10_bites_72 : decode cX10_bites 72 = .ok (.ifCond .eq 22, 3) := by decide +kernel
theorem dX10_bites_75 : decode cX10_bites 75 = .ok (.aload_n 0, 1) := by decide +kernel
theorem dX10_bites_76 : decode cX10_bites 76 = .ok (.bipush 24, 2) := by decide +kernel
theorem dX10_bites_78 : decode cX10_bites 78 = .ok (.iload_n 1, 1) := by decide +kernel
theorem dX10_bites_79 : decode cX10_bites 79 = .ok (.imul, 1) := by decide +kernel
theorem dX10_bites_80 : decode cX10_bites 80 = .ok (.iload_n 2, 1) := by decide +kernel
theorem dX10_bites_81 : decode cX10_bites 81 = .ok (.iadd, 1) := by decide +kernel
theorem dX10_bites_82 : decode cX10_bites 82 = .ok (.iload 4, 2) := by decide +kernel
theorem dX10_bites_84 : decode cX10_bites 84 = .ok (.iload 5, 2) := by decide +kernel
theorem dX10_bites_86 : decode cX10_bites 86 = .ok (.invokevirtual 305, 3) := by decide +kernel
theorem dX10_bites_89 : decode cX10_bites 89 = .ok (.ifCond .eq 5, 3) := by decide +kernel
theorem dX10_bites_92 : decode cX10_bites 92 = .ok (.iconst 1, 1) := by decide +kernel
theorem dX10_bites_93 : decode cX10_bites 93 = .ok (.istore_n 3, 1) := by decide +kernel
theorem dX10_bites_94 : decode cX10_bites 94 = .ok (.iinc 5 1, 3) := by decide +kernel
theorem dX10_bites_97 : decode cX10_bites 97 = .ok (.goto (-45), 3) := by decide +kernel
theorem dX10_bites_100 : decode cX10_bites 100 = .ok (.iinc 4 1, 3) := by decide +kernel
theorem dX10_bites_103 : decode cX10_bites 103 = .ok (.goto (-63), 3) := by decide +kernel
theorem dX10_bites_106 : decode cX10_bites 106 = .ok (.iload_n 3, 1) := by decide +kernel
theorem dX10_bites_107 : decode cX10_bites 107 = .ok (.ireturn, 1) := by decide +kernel
theorem dX10_sweep_0 : decode cX10_sweep 0 = .ok (.iconst 0, 1) := by decide +kernel
theorem dX10_sweep_1 : decode cX10_sweep 1 = .ok (.istore_n 2, 1) := by decide +kernel
theorem dX10_sweep_2 : decode cX10_sweep 2 = .ok (.iload_n 2, 1) := by decide +kernel
theorem dX10_sweep_3 : decode cX10_sweep 3 = .ok (.aload_n 0, 1) := by decide +kernel
theorem dX10_sweep_4 : decode cX10_sweep 4 = .ok (.getfield 278, 3) := by decide +kernel
theorem dX10_sweep_7 : decode cX10_sweep 7 = .ok (.if_icmp .ge 173, 3) := by decide +kernel
theorem dX10_sweep_10 : decode cX10_sweep 10 = .ok (.iconst 0, 1) := by decide +kernel
theorem dX10_sweep_11 : decode cX10_sweep 11 = .ok (.istore_n 3, 1) := by decide +kernel
theorem dX10_sweep_12 : decode cX10_sweep 12 = .ok (.iload_n 3, 1) := by decide +kernel
theorem dX10_sweep_13 : decode cX10_sweep 13 = .ok (.bipush 8, 2) := by decide +kernel
theorem dX10_sweep_15 : decode cX10_sweep 15 = .ok (.if_icmp .ge 159, 3) := by decide +kernel
theorem dX10_sweep_18 : decode cX10_sweep 18 = .ok (.aload_n 0, 1) := by decide +kernel
theorem dX10_sweep_19 : decode cX10_sweep 19 = .ok (.getfield 23, 3) := by decide +kernel
theorem dX10_sweep_22 : decode cX10_sweep 22 = .ok (.bipush 8, 2) := by decide +kernel
theorem dX10_sweep_24 : decode cX10_sweep 24 = .ok (.iload_n 2, 1) := by decide +kernel
theorem dX10_sweep_25 : decode cX10_sweep 25 = .ok (.imul, 1) := by decide +kernel
theorem dX10_sweep_26 : decode cX10_sweep 26 = .ok (.iload_n 3, 1) := by decide +kernel
theorem dX10_sweep_27 : decode cX10_sweep 27 = .ok (.iadd, 1) := by decide +kernel
theorem dX10_sweep_28 : decode cX10_sweep 28 = .ok (.iaload, 1) := by decide +kernel
theorem dX10_sweep_29 : decode cX10_sweep 29 = .ok (.iload_n 1, 1) := by decide +kernel
theorem dX10_sweep_30 : decode cX10_sweep 30 = .ok (.ishr, 1) := by decide +kernel
theorem dX10_sweep_31 : decode cX10_sweep 31 = .ok (.iconst 1, 1) := by decide +kernel
theorem dX10_sweep_32 : decode cX10_sweep 32 = .ok (.iand, 1) := by decide +kernel
theorem dX10_sweep_33 : decode cX10_sweep 33 = .ok (.ifCond .eq 135, 3) := by decide +kernel
theorem dX10_sweep_36 : decode cX10_sweep 36 = .ok (.aload_n 0, 1) := by decide +kernel
theorem dX10_sweep_37 : decode cX10_sweep 37 = .ok (.iload_n 2, 1) := by decide +kernel
theorem dX10_sweep_38 : decode cX10_sweep 38 = .ok (.iload_n 3, 1) := by decide +kernel
theorem dX10_sweep_39 : decode cX10_sweep 39 = .ok (.aload_n 0, 1) := by decide +kernel
theorem dX10_sweep_40 : decode cX10_sweep 40 = .ok (.getfield 313, 3) := by decide +kernel
theorem dX10_sweep_43 : decode cX10_sweep 43 = .ok (.invokevirtual 342, 3) := by decide +kernel
theorem dX10_sweep_46 : decode cX10_sweep 46 = .ok (.ifCond .ne 6, 3) := by decide +kernel
theorem dX10_sweep_49 : decode cX10_sweep 49 = .ok (.goto 119, 3) := by decide +kernel
theorem dX10_sweep_52 : decode cX10_sweep 52 = .ok (.aload_n 0, 1) := by decide +kernel
theorem dX10_sweep_53 : decode cX10_sweep 53 = .ok (.getfield 23, 3) := by decide +kernel
theorem dX10_sweep_56 : decode cX10_sweep 56 = .ok (.bipush 8, 2) := by decide +kernel
theorem dX10_sweep_58 : decode cX10_sweep 58 = .ok (.iload_n 2, 1) := by decide +kernel
theorem dX10_sweep_59 : decode cX10_sweep 59 = .ok (.imul, 1) := by decide +kernel
theorem dX10_sweep_60 : decode cX10_sweep 60 = .ok (.iload_n 3, 1) := by decide +kernel
theorem dX10_sweep_61 : decode cX10_sweep 61 = .ok (.iadd, 1) := by decide +kernel
theorem dX10_sweep_62 : decode cX10_sweep 62 = .ok (.dup2, 1) := by decide +kernel
theorem dX10_sweep_63 : decode cX10_sweep 63 = .ok (.iaload, 1) := by decide +kernel
theorem dX10_sweep_64 : decode cX10_sweep 64 = .ok (.iconst 1, 1) := by decide +kernel
theorem dX10_sweep_65 : decode cX10_sweep 65 = .ok (.iload_n 1, 1) := by decide +kernel
theorem dX10_sweep_66 : decode cX10_sweep 66 = .ok (.ishl, 1) := by decide +kernel
theorem dX10_sweep_67 : decode cX10_sweep 67 = .ok (.iconst (-1), 1) := by decide +kernel
theorem dX10_sweep_68 : decode cX10_sweep 68 = .ok (.ixor, 1) := by decide +kernel
theorem dX10_sweep_69 : decode cX10_sweep 69 = .ok (.iand, 1) := by decide +kernel
theorem dX10_sweep_70 : decode cX10_sweep 70 = .ok (.iastore, 1) := by decide +kernel
theorem dX10_sweep_71 : decode cX10_sweep 71 = .ok (.aload_n 0, 1) := by decide +kernel
theorem dX10_sweep_72 : decode cX10_sweep 72 = .ok (.getfield 313, 3) := by decide +kernel
theorem dX10_sweep_75 : decode cX10_sweep 75 = .ok (.aload_n 0, 1) := by decide +kernel
theorem dX10_sweep_76 : decode cX10_sweep 76 = .ok (.getfield 287, 3) := by decide +kernel
theorem dX10_sweep_79 : decode cX10_sweep 79 = .ok (.if_icmp .le 13, 3) := by decide +kernel
theorem dX10_sweep_82 : decode cX10_sweep 82 = .ok (.aload_n 0, 1) := by decide +kernel
theorem dX10_sweep_83 : decode cX10_sweep 83 = .ok (.dup, 1) := by decide +kernel
theorem dX10_sweep_84 : decode cX10_sweep 84 = .ok (.getfield 351, 3) := by decide +kernel
theorem dX10_sweep_87 : decode cX10_sweep 87 = .ok (.iconst 1, 1) := by decide +kernel
theorem dX10_sweep_88 : decode cX10_sweep 88 = .ok (.iadd, 1) := by decide +kernel
theorem dX10_sweep_89 : decode cX10_sweep 89 = .ok (.putfield 351, 3) := by decide +kernel
theorem dX10_sweep_92 : decode cX10_sweep 92 = .ok (.aload_n 0, 1) := by decide +kernel
theorem dX10_sweep_93 : decode cX10_sweep 93 = .ok (.getfield 354, 3) := by decide +kernel
theorem dX10_sweep_96 : decode cX10_sweep 96 = .ok (.sipush 400, 3) := by decide +kernel
theorem dX10_sweep_99 : decode cX10_sweep 99 = .ok (.if_icmp .ge 59, 3) := by decide +kernel
theorem dX10_sweep_102 : decode cX10_sweep 102 = .ok (.aload_n 0, 1) := by decide +kernel
theorem dX10_sweep_103 : decode cX10_sweep 103 = .ok (.getfield 45, 3) := by decide +kernel
theorem dX10_sweep_106 : decode cX10_sweep 106 = .ok (.aload_n 0, 1) := by decide +kernel
theorem dX10_sweep_107 : decode cX10_sweep 107 = .ok (.getfield 354, 3) := by decide +kernel
theorem dX10_sweep_110 : decode cX10_sweep 110 = .ok (.iload_n 2, 1) := by decide +kernel
theorem dX10_sweep_111 : decode cX10_sweep 111 = .ok (.iastore, 1) := by decide +kernel
theorem dX10_sweep_112 : decode cX10_sweep 112 = .ok (.aload_n 0, 1) := by decide +kernel
theorem dX10_sweep_113 : decode cX10_sweep 113 = .ok (.getfield 48, 3) := by decide +kernel
theorem dX10_sweep_116 : decode cX10_sweep 116 = .ok (.aload_n 0, 1) := by decide +kernel
theorem dX10_sweep_117 : decode cX10_sweep 117 = .ok (.getfield 354, 3) := by decide +kernel
theorem dX10_sweep_120 : decode cX10_sweep 120 = .ok (.iload_n 3, 1) := by decide +kernel
theorem dX10_sweep_121 : decode cX10_sweep 121 = .ok (.iastore, 1) := by decide +kernel
theorem dX10_sweep_122 : decode cX10_sweep 122 = .ok (.aload_n 0, 1) := by decide +kernel
theorem dX10_sweep_123 : decode cX10_sweep 123 = .ok (.getfield 51, 3) := by decide +kernel
theorem dX10_sweep_126 : decode cX10_sweep 126 = .ok (.aload_n 0, 1) := by decide +kernel
theorem dX10_sweep_127 : decode cX10_sweep 127 = .ok (.getfield 354, 3) := by decide +kernel
theorem dX10_sweep_130 : decode cX10_sweep 130 = .ok (.iload_n 1, 1) := by decide +kernel
theorem dX10_sweep_131 : decode cX10_sweep 131 = .ok (.iastore, 1) := by decide +kernel
theorem dX10_sweep_132 : decode cX10_sweep 132 = .ok (.aload_n 0, 1) := by decide +kernel
theorem dX10_sweep_133 : decode cX10_sweep 133 = .ok (.getfield 54, 3) := by decide +kernel
theorem dX10_sweep_136 : decode cX10_sweep 136 = .ok (.aload_n 0, 1) := by decide +kernel
theorem dX10_sweep_137 : decode cX10_sweep 137 = .ok (.getfield 354, 3) := by decide +kernel
theorem dX10_sweep_140 : decode cX10_sweep 140 = .ok (.aload_n 0, 1) := by decide +kernel
theorem dX10_sweep_141 : decode cX10_sweep 141 = .ok (.getfield 313, 3) := by decide +kernel
theorem dX10_sweep_144 : decode cX10_sweep 144 = .ok (.iastore, 1) := by decide +kernel
theorem dX10_sweep_145 : decode cX10_sweep 145 = .ok (.aload_n 0, 1) := by decide +kernel
theorem dX10_sweep_146 : decode cX10_sweep 146 = .ok (.getfield 57, 3) := by decide +kernel
theorem dX10_sweep_149 : decode cX10_sweep 149 = .ok (.aload_n 0, 1) := by decide +kernel
theorem dX10_sweep_150 : decode cX10_sweep 150 = .ok (.getfield 354, 3) := by decide +kernel
theorem dX10_sweep_153 : decode cX10_sweep 153 = .ok (.aload_n 0, 1) := by decide +kernel
theorem dX10_sweep_154 : decode cX10_sweep 154 = .ok (.getfield 302, 3) := by decide +kernel
theorem dX10_sweep_157 : decode cX10_sweep 157 = .ok (.iastore, 1) := by decide +kernel
theorem dX10_sweep_158 : decode cX10_sweep 158 = .ok (.aload_n 0, 1) := by decide +kernel
theorem dX10_sweep_159 : decode cX10_sweep 159 = .ok (.dup, 1) := by decide +kernel
theorem dX10_sweep_160 : decode cX10_sweep 160 = .ok (.getfield 354, 3) := by decide +kernel
theorem dX10_sweep_163 : decode cX10_sweep 163 = .ok (.iconst 1, 1) := by decide +kernel
theorem dX10_sweep_164 : decode cX10_sweep 164 = .ok (.iadd, 1) := by decide +kernel
theorem dX10_sweep_165 : decode cX10_sweep 165 = .ok (.putfield 354, 3) := by decide +kernel
theorem dX10_sweep_168 : decode cX10_sweep 168 = .ok (.iinc 3 1, 3) := by decide +kernel
theorem dX10_sweep_171 : decode cX10_sweep 171 = .ok (.goto (-159), 3) := by decide +kernel
theorem dX10_sweep_174 : decode cX10_sweep 174 = .ok (.iinc 2 1, 3) := by decide +kernel
theorem dX10_sweep_177 : decode cX10_sweep 177 = .ok (.goto (-175), 3) := by decide +kernel
theorem dX10_sweep_180 : decode cX10_sweep 180 = .ok (.return_, 1) := by decide +kernel
theorem dX10_days_0 : decode cX10_days 0 = .ok (.aload_n 0, 1) := by decide +kernel
theorem dX10_days_1 : decode cX10_days 1 = .ok (.iconst 0, 1) := by decide +kernel
theorem dX10_days_2 : decode cX10_days 2 = .ok (.putfield 126, 3) := by decide +kernel
theorem dX10_days_5 : decode cX10_days 5 = .ok (.iload_n 1, 1) := by decide +kernel
theorem dX10_days_6 : decode cX10_days 6 = .ok (.ifCond .lt 21, 3) := by decide +kernel
theorem dX10_days_9 : decode cX10_days 9 = .ok (.iload_n 1, 1) := by decide +kernel
theorem dX10_days_10 : decode cX10_days 10 = .ok (.sipush 1000, 3) := by decide +kernel
theorem dX10_days_13 : decode cX10_days 13 = .ok (.if_icmp .gt 14, 3) := by decide +kernel
theorem dX10_days_16 : decode cX10_days 16 = .ok (.aload_n 0, 1) := by decide +kernel
theorem dX10_days_17 : decode cX10_days 17 = .ok (.getfield 313, 3) := by decide +kernel
theorem dX10_days_20 : decode cX10_days 20 = .ok (.iload_n 1, 1) := by decide +kernel
theorem dX10_days_21 : decode cX10_days 21 = .ok (.iadd, 1) := by decide +kernel
theorem dX10_days_22 : decode cX10_days 22 = .ok (.ldc 144, 2) := by decide +kernel
theorem dX10_days_24 : decode cX10_days 24 = .ok (.if_icmp .le 9, 3) := by decide +kernel
theorem dX10_days_27 : decode cX10_days 27 = .ok (.aload_n 0, 1) := by decide +kernel
theorem dX10_days_28 : decode cX10_days 28 = .ok (.iconst 1, 1) := by decide +kernel
theorem dX10_days_29 : decode cX10_days 29 = .ok (.invokevirtual 152, 3) := by decide +kernel
theorem dX10_days_32 : decode cX10_days 32 = .ok (.ireturn, 1) := by decide +kernel
theorem dX10_days_33 : decode cX10_days 33 = .ok (.iconst 0, 1) := by decide +kernel
theorem dX10_days_34 : decode cX10_days 34 = .ok (.istore_n 2, 1) := by decide +kernel
theorem dX10_days_35 : decode cX10_days 35 = .ok (.iload_n 2, 1) := by decide +kernel
theorem dX10_days_36 : decode cX10_days 36 = .ok (.iload_n 1, 1) := by decide +kernel
theorem dX10_days_37 : decode cX10_days 37 = .ok (.if_icmp .ge 71, 3) := by decide +kernel
theorem dX10_days_40 : decode cX10_days 40 = .ok (.aload_n 0, 1) := by decide +kernel
theorem dX10_days_41 : decode cX10_days 41 = .ok (.dup, 1) := by decide +kernel
theorem dX10_days_42 : decode cX10_days 42 = .ok (.getfield 313, 3) := by decide +kernel
theorem dX10_days_45 : decode cX10_days 45 = .ok (.iconst 1, 1) := by decide +kernel
theorem dX10_days_46 : decode cX10_days 46 = .ok (.iadd, 1) := by decide +kernel
theorem dX10_days_47 : decode cX10_days 47 = .ok (.putfield 313, 3) := by decide +kernel
theorem dX10_days_50 : decode cX10_days 50 = .ok (.iconst 0, 1) := by decide +kernel
theorem dX10_days_51 : decode cX10_days 51 = .ok (.istore_n 3, 1) := by decide +kernel
theorem dX10_days_52 : decode cX10_days 52 = .ok (.iload_n 3, 1) := by decide +kernel
theorem dX10_days_53 : decode cX10_days 53 = .ok (.iconst 4, 1) := by decide +kernel
theorem dX10_days_54 : decode cX10_days 54 = .ok (.if_icmp .ge 48, 3) := by decide +kernel
theorem dX10_days_57 : decode cX10_days 57 = .ok (.aload_n 0, 1) := by decide +kernel
theorem dX10_days_58 : decode cX10_days 58 = .ok (.getfield 313, 3) := by decide +kernel
theorem dX10_days_61 : decode cX10_days 61 = .ok (.aload_n 0, 1) := by decide +kernel
theorem dX10_days_62 : decode cX10_days 62 = .ok (.getfield 33, 3) := by decide +kernel
theorem dX10_days_65 : decode cX10_days 65 = .ok (.iload_n 3, 1) := by decide +kernel
theorem dX10_days_66 : decode cX10_days 66 = .ok (.iaload, 1) := by decide +kernel
theorem dX10_days_67 : decode cX10_days 67 = .ok (.if_icmp .lt 29, 3) := by decide +kernel
theorem dX10_days_70 : decode cX10_days 70 = .ok (.aload_n 0, 1) := by decide +kernel
theorem dX10_days_71 : decode cX10_days 71 = .ok (.getfield 313, 3) := by decide +kernel
theorem dX10_days_74 : decode cX10_days 74 = .ok (.aload_n 0, 1) := by decide +kernel
theorem dX10_days_75 : decode cX10_days 75 = .ok (.getfield 33, 3) := by decide +kernel
theorem dX10_days_78 : decode cX10_days 78 = .ok (.iload_n 3, 1) := by decide +kernel
theorem dX10_days_79 : decode cX10_days 79 = .ok (.iaload, 1) := by decide +kernel
theorem dX10_days_80 : decode cX10_days 80 = .ok (.isub, 1) := by decide +kernel
theorem dX10_days_81 : decode cX10_days 81 = .ok (.aload_n 0, 1) := by decide +kernel
theorem dX10_days_82 : decode cX10_days 82 = .ok (.getfield 30, 3) := by decide +kernel
theorem dX10_days_85 : decode cX10_days 85 = .ok (.iload_n 3, 1) := by decide +kernel
theorem dX10_days_86 : decode cX10_days 86 = .ok (.iaload, 1) := by decide +kernel
theorem dX10_days_87 : decode cX10_days 87 = .ok (.irem, 1) := by decide +kernel
theorem dX10_days_88 : decode cX10_days 88 = .ok (.ifCond .ne 8, 3) := by decide +kernel
theorem dX10_days_91 : decode cX10_days 91 = .ok (.aload_n 0, 1) := by decide +kernel
theorem dX10_days_92 : decode cX10_days 92 = .ok (.iload_n 3, 1) := by decide +kernel
theorem dX10_days_93 : decode cX10_days 93 = .ok (.invokevirtual 357, 3) := by decide +kernel
theorem dX10_days_96 : decode cX10_days 96 = .ok (.iinc 3 1, 3) := by decide +kernel
theorem dX10_days_99 : decode cX10_days 99 = .ok (.goto (-47), 3) := by decide +kernel
theorem dX10_days_102 : decode cX10_days 102 = .ok (.iinc 2 1, 3) := by decide +kernel
theorem dX10_days_105 : decode cX10_days 105 = .ok (.goto (-70), 3) := by decide +kernel
theorem dX10_days_108 : decode cX10_days 108 = .ok (.aload_n 0, 1) := by decide +kernel
theorem dX10_days_109 : decode cX10_days 109 = .ok (.getfield 313, 3) := by decide +kernel
theorem dX10_days_112 : decode cX10_days 112 = .ok (.ireturn, 1) := by decide +kernel
theorem dX10_entry_0 : decode cX10_entry 0 = .ok (.aload_n 0, 1) := by decide +kernel
theorem dX10_entry_1 : decode cX10_entry 1 = .ok (.iconst 0, 1) := by decide +kernel
theorem dX10_entry_2 : decode cX10_entry 2 = .ok (.putfield 126, 3) := by decide +kernel
theorem dX10_entry_5 : decode cX10_entry 5 = .ok (.iload_n 1, 1) := by decide +kernel
theorem dX10_entry_6 : decode cX10_entry 6 = .ok (.ifCond .lt 17, 3) := by decide +kernel
theorem dX10_entry_9 : decode cX10_entry 9 = .ok (.iload_n 1, 1) := by decide +kernel
theorem dX10_entry_10 : decode cX10_entry 10 = .ok (.aload_n 0, 1) := by decide +kernel
theorem dX10_entry_11 : decode cX10_entry 11 = .ok (.getfield 354, 3) := by decide +kernel
theorem dX10_entry_14 : decode cX10_entry 14 = .ok (.sipush 400, 3) := by decide +kernel
theorem dX10_entry_17 : decode cX10_entry 17 = .ok (.invokestatic 162, 3) := by decide +kernel
theorem dX10_entry_20 : decode cX10_entry 20 = .ok (.if_icmp .lt 9, 3) := by decide +kernel
theorem dX10_entry_23 : decode cX10_entry 23 = .ok (.aload_n 0, 1) := by decide +kernel
theorem dX10_entry_24 : decode cX10_entry 24 = .ok (.iconst 1, 1) := by decide +kernel
theorem dX10_entry_25 : decode cX10_entry 25 = .ok (.invokevirtual 152, 3) := by decide +kernel
theorem dX10_entry_28 : decode cX10_entry 28 = .ok (.ireturn, 1) := by decide +kernel
theorem dX10_entry_29 : decode cX10_entry 29 = .ok (.iload_n 2, 1) := by decide +kernel
theorem dX10_entry_30 : decode cX10_entry 30 = .ok (.tableswitch 69 0 4 #[34, 41, 48, 55, 62], 34) := by decide +kernel
theorem dX10_entry_64 : decode cX10_entry 64 = .ok (.aload_n 0, 1) := by decide +kernel
theorem dX10_entry_65 : decode cX10_entry 65 = .ok (.getfield 45, 3) := by decide +kernel
theorem dX10_entry_68 : decode cX10_entry 68 = .ok (.iload_n 1, 1) := by decide +kernel
theorem dX10_entry_69 : decode cX10_entry 69 = .ok (.iaload, 1) := by decide +kernel
theorem dX10_entry_70 : decode cX10_entry 70 = .ok (.ireturn, 1) := by decide +kernel
theorem dX10_entry_71 : decode cX10_entry 71 = .ok (.aload_n 0, 1) := by decide +kernel
theorem dX10_entry_72 : decode cX10_entry 72 = .ok (.getfield 48, 3) := by decide +kernel
theorem dX10_entry_75 : decode cX10_entry 75 = .ok (.iload_n 1, 1) := by decide +kernel
theorem dX10_entry_76 : decode cX10_entry 76 = .ok (.iaload, 1) := by decide +kernel
theorem dX10_entry_77 : decode cX10_entry 77 = .ok (.ireturn, 1) := by decide +kernel
theorem dX10_entry_78 : decode cX10_entry 78 = .ok (.aload_n 0, 1) := by decide +kernel
theorem dX10_entry_79 : decode cX10_entry 79 = .ok (.getfield 51, 3) := by decide +kernel
theorem dX10_entry_82 : decode cX10_entry 82 = .ok (.iload_n 1, 1) := by decide +kernel
theorem dX10_entry_83 : decode cX10_entry 83 = .ok (.iaload, 1) := by decide +kernel
theorem dX10_entry_84 : decode cX10_entry 84 = .ok (.ireturn, 1) := by decide +kernel
theorem dX10_entry_85 : decode cX10_entry 85 = .ok (.aload_n 0, 1) := by decide +kernel
theorem dX10_entry_86 : decode cX10_entry 86 = .ok (.getfield 54, 3) := by decide +kernel
theorem dX10_entry_89 : decode cX10_entry 89 = .ok (.iload_n 1, 1) := by decide +kernel
theorem dX10_entry_90 : decode cX10_entry 90 = .ok (.iaload, 1) := by decide +kernel
theorem dX10_entry_91 : decode cX10_entry 91 = .ok (.ireturn, 1) := by decide +kernel
theorem dX10_entry_92 : decode cX10_entry 92 = .ok (.aload_n 0, 1) := by decide +kernel
theorem dX10_entry_93 : decode cX10_entry 93 = .ok (.getfield 57, 3) := by decide +kernel
theorem dX10_entry_96 : decode cX10_entry 96 = .ok (.iload_n 1, 1) := by decide +kernel
theorem dX10_entry_97 : decode cX10_entry 97 = .ok (.iaload, 1) := by decide +kernel
theorem dX10_entry_98 : decode cX10_entry 98 = .ok (.ireturn, 1) := by decide +kernel
theorem dX10_entry_99 : decode cX10_entry 99 = .ok (.aload_n 0, 1) := by decide +kernel
theorem dX10_entry_100 : decode cX10_entry 100 = .ok (.iconst 1, 1) := by decide +kernel
theorem dX10_entry_101 : decode cX10_entry 101 = .ok (.invokevirtual 152, 3) := by decide +kernel
theorem dX10_entry_104 : decode cX10_entry 104 = .ok (.ireturn, 1) := by decide +kernel
theorem dX10_count_0 : decode cX10_count 0 = .ok (.aload_n 0, 1) := by decide +kernel
theorem dX10_count_1 : decode cX10_count 1 = .ok (.iconst 0, 1) := by decide +kernel
theorem dX10_count_2 : decode cX10_count 2 = .ok (.putfield 126, 3) := by decide +kernel
theorem dX10_count_5 : decode cX10_count 5 = .ok (.iconst 0, 1) := by decide +kernel
theorem dX10_count_6 : decode cX10_count 6 = .ok (.istore_n 2, 1) := by decide +kernel
theorem dX10_count_7 : decode cX10_count 7 = .ok (.iconst 0, 1) := by decide +kernel
theorem dX10_count_8 : decode cX10_count 8 = .ok (.istore_n 3, 1) := by decide +kernel
theorem dX10_count_9 : decode cX10_count 9 = .ok (.iload_n 3, 1) := by decide +kernel
theorem dX10_count_10 : decode cX10_count 10 = .ok (.sipush 240, 3) := by decide +kernel
theorem dX10_count_13 : decode cX10_count 13 = .ok (.if_icmp .ge 21, 3) := by decide +kernel
theorem dX10_count_16 : decode cX10_count 16 = .ok (.iload_n 2, 1) := by decide +kernel
theorem dX10_count_17 : decode cX10_count 17 = .ok (.aload_n 0, 1) := by decide +kernel
theorem dX10_count_18 : decode cX10_count 18 = .ok (.getfield 23, 3) := by decide +kernel
theorem dX10_count_21 : decode cX10_count 21 = .ok (.iload_n 3, 1) := by decide +kernel
theorem dX10_count_22 : decode cX10_count 22 = .ok (.iaload, 1) := by decide +kernel
theorem dX10_count_23 : decode cX10_count 23 = .ok (.invokestatic 348, 3) := by decide +kernel
theorem dX10_count_26 : decode cX10_count 26 = .ok (.iadd, 1) := by decide +kernel
theorem dX10_count_27 : decode cX10_count 27 = .ok (.istore_n 2, 1) := by decide +kernel
theorem dX10_count_28 : decode cX10_count 28 = .ok (.iinc 3 1, 3) := by decide +kernel
theorem dX10_count_31 : decode cX10_count 31 = .ok (.goto (-22), 3) := by decide +kernel
theorem dX10_count_34 : decode cX10_count 34 = .ok (.iconst 0, 1) := by decide +kernel
theorem dX10_count_35 : decode cX10_count 35 = .ok (.istore_n 3, 1) := by decide +kernel
theorem dX10_count_36 : decode cX10_count 36 = .ok (.iconst 0, 1) := by decide +kernel
theorem dX10_count_37 : decode cX10_count 37 = .ok (.istore 4, 2) := by decide +kernel
theorem dX10_count_39 : decode cX10_count 39 = .ok (.iload 4, 2) := by decide +kernel
theorem dX10_count_41 : decode cX10_count 41 = .ok (.aload_n 0, 1) := by decide +kernel
theorem dX10_count_42 : decode cX10_count 42 = .ok (.getfield 339, 3) := by decide +kernel
theorem dX10_count_45 : decode cX10_count 45 = .ok (.if_icmp .ge 27, 3) := by decide +kernel
theorem dX10_count_48 : decode cX10_count 48 = .ok (.iload_n 3, 1) := by decide +kernel
theorem dX10_count_49 : decode cX10_count 49 = .ok (.aload_n 0, 1) := by decide +kernel
theorem dX10_count_50 : decode cX10_count 50 = .ok (.getfield 42, 3) := by decide +kernel
theorem dX10_count_53 : decode cX10_count 53 = .ok (.iload 4, 2) := by decide +kernel
theorem dX10_count_55 : decode cX10_count 55 = .ok (.baload, 1) := by decide +kernel
theorem dX10_count_56 : decode cX10_count 56 = .ok (.ifCond .eq 7, 3) := by decide +kernel
theorem dX10_count_59 : decode cX10_count 59 = .ok (.iconst 0, 1) := by decide +kernel
theorem dX10_count_60 : decode cX10_count 60 = .ok (.goto 4, 3) := by decide +kernel
theorem dX10_count_63 : decode cX10_count 63 = .ok (.iconst 1, 1) := by decide +kernel
theorem dX10_count_64 : decode cX10_count 64 = .ok (.iadd, 1) := by decide +kernel
theorem dX10_count_65 : decode cX10_count 65 = .ok (.istore_n 3, 1) := by decide +kernel
theorem dX10_count_66 : decode cX10_count 66 = .ok (.iinc 4 1, 3) := by decide +kernel
theorem dX10_count_69 : decode cX10_count 69 = .ok (.goto (-30), 3) := by decide +kernel
theorem dX10_count_72 : decode cX10_count 72 = .ok (.aload_n 0, 1) := by decide +kernel
theorem dX10_count_73 : decode cX10_count 73 = .ok (.aload_n 0, 1) := by decide +kernel
theorem dX10_count_74 : decode cX10_count 74 = .ok (.getfield 313, 3) := by decide +kernel
theorem dX10_count_77 : decode cX10_count 77 = .ok (.invokevirtual 316, 3) := by decide +kernel
theorem dX10_count_80 : decode cX10_count 80 = .ok (.istore 4, 2) := by decide +kernel
theorem dX10_count_82 : decode cX10_count 82 = .ok (.iload_n 1, 1) := by decide +kernel
theorem dX10_count_83 : decode cX10_count 83 = .ok (.tableswitch 108 0 9 #[53, 58, 63, 68, 71, 76, 81, 83, 85, 90], 53) := by decide +kernel
theorem dX10_count_136 : decode cX10_count 136 = .ok (.aload_n 0, 1) := by decide +kernel
theorem dX10_count_137 : decode cX10_count 137 = .ok (.getfield 313, 3) := by decide +kernel
theorem dX10_count_140 : decode cX10_count 140 = .ok (.ireturn, 1) := by decide +kernel
theorem dX10_count_141 : decode cX10_count 141 = .ok (.aload_n 0, 1) := by decide +kernel
theorem dX10_count_142 : decode cX10_count 142 = .ok (.getfield 278, 3) := by decide +kernel
theorem dX10_count_145 : decode cX10_count 145 = .ok (.ireturn, 1) := by decide +kernel
theorem dX10_count_146 : decode cX10_count 146 = .ok (.aload_n 0, 1) := by decide +kernel
theorem dX10_count_147 : decode cX10_count 147 = .ok (.getfield 270, 3) := by decide +kernel
theorem dX10_count_150 : decode cX10_count 150 = .ok (.ireturn, 1) := by decide +kernel
theorem dX10_count_151 : decode cX10_count 151 = .ok (.iload 4, 2) := by decide +kernel
theorem dX10_count_153 : decode cX10_count 153 = .ok (.ireturn, 1) := by decide +kernel
theorem dX10_count_154 : decode cX10_count 154 = .ok (.aload_n 0, 1) := by decide +kernel
theorem dX10_count_155 : decode cX10_count 155 = .ok (.getfield 354, 3) := by decide +kernel
theorem dX10_count_158 : decode cX10_count 158 = .ok (.ireturn, 1) := by decide +kernel
theorem dX10_count_159 : decode cX10_count 159 = .ok (.aload_n 0, 1) := by decide +kernel
theorem dX10_count_160 : decode cX10_count 160 = .ok (.getfield 351, 3) := by decide +kernel
theorem dX10_count_163 : decode cX10_count 163 = .ok (.ireturn, 1) := by decide +kernel
theorem dX10_count_164 : decode cX10_count 164 = .ok (.iload_n 2, 1) := by decide +kernel
theorem dX10_count_165 : decode cX10_count 165 = .ok (.ireturn, 1) := by decide +kernel
theorem dX10_count_166 : decode cX10_count 166 = .ok (.iload_n 3, 1) := by decide +kernel
theorem dX10_count_167 : decode cX10_count 167 = .ok (.ireturn, 1) := by decide +kernel
theorem dX10_count_168 : decode cX10_count 168 = .ok (.aload_n 0, 1) := by decide +kernel
theorem dX10_count_169 : decode cX10_count 169 = .ok (.getfield 171, 3) := by decide +kernel
theorem dX10_count_172 : decode cX10_count 172 = .ok (.ireturn, 1) := by decide +kernel
theorem dX10_count_173 : decode cX10_count 173 = .ok (.iload 4, 2) := by decide +kernel
theorem dX10_count_175 : decode cX10_count 175 = .ok (.iconst (-1), 1) := by decide +kernel
theorem dX10_count_176 : decode cX10_count 176 = .ok (.if_icmp .ne 7, 3) := by decide +kernel
theorem dX10_count_179 : decode cX10_count 179 = .ok (.iconst 0, 1) := by decide +kernel
theorem dX10_count_180 : decode cX10_count 180 = .ok (.goto 10, 3) := by decide +kernel
theorem dX10_count_183 : decode cX10_count 183 = .ok (.aload_n 0, 1) := by decide +kernel
theorem dX10_count_184 : decode cX10_count 184 = .ok (.getfield 63, 3) := by decide +kernel
theorem dX10_count_187 : decode cX10_count 187 = .ok (.iload 4, 2) := by decide +kernel
theorem dX10_count_189 : decode cX10_count 189 = .ok (.iaload, 1) := by decide +kernel
theorem dX10_count_190 : decode cX10_count 190 = .ok (.ireturn, 1) := by decide +kernel
theorem dX10_count_191 : decode cX10_count 191 = .ok (.aload_n 0, 1) := by decide +kernel
theorem dX10_count_192 : decode cX10_count 192 = .ok (.iconst 1, 1) := by decide +kernel
theorem dX10_count_193 : decode cX10_count 193 = .ok (.invokevirtual 152, 3) := by decide +kernel
theorem dX10_count_196 : decode cX10_count 196 = .ok (.ireturn, 1) := by decide +kernel
end
section
theorem dX0_monthStart_0 : decode cX0_monthStart 0 = .ok (.iload_n 0, 1) := by decide +kernel
theorem dX0_monthStart_1 : decode cX0_monthStart 1 = .ok (.bipush 12, 2) := by decide +kernel
theorem dX0_monthStart_3 : decode cX0_monthStart 3 = .ok (.idiv, 1) := by decide +kernel
theorem dX0_monthStart_4 : decode cX0_monthStart 4 = .ok (.istore_n 1, 1) := by decide +kernel
theorem dX0_monthStart_5 : decode cX0_monthStart 5 = .ok (.iload_n 0, 1) := by decide +kernel
theorem dX0_monthStart_6 : decode cX0_monthStart 6 = .ok (.ifCond .ge 7, 3) := by decide +kernel
theorem dX0_monthStart_9 : decode cX0_monthStart 9 = .ok (.iconst 0, 1) := by decide +kernel
theorem dX0_monthStart_10 : decode cX0_monthStart 10 = .ok (.goto 7, 3) := by decide +kernel
theorem dX0_monthStart_13 : decode cX0_monthStart 13 = .ok (.iload_n 0, 1) := by decide +kernel
theorem dX0_monthStart_14 : decode cX0_monthStart 14 = .ok (.bipush 12, 2) := by decide +kernel
theorem dX0_monthStart_16 : decode cX0_monthStart 16 = .ok (.irem, 1) := by decide +kernel
theorem dX0_monthStart_17 : decode cX0_monthStart 17 = .ok (.istore_n 2, 1) := by decide +kernel
theorem dX0_monthStart_18 : decode cX0_monthStart 18 = .ok (.iload_n 2, 1) := by decide +kernel
theorem dX0_monthStart_19 : decode cX0_monthStart 19 = .ok (.iconst 2, 1) := by decide +kernel
theorem dX0_monthStart_20 : decode cX0_monthStart 20 = .ok (.if_icmp .ge 7, 3) := by decide +kernel
theorem dX0_monthStart_23 : decode cX0_monthStart 23 = .ok (.iload_n 1, 1) := by decide +kernel
theorem dX0_monthStart_24 : decode cX0_monthStart 24 = .ok (.goto 6, 3) := by decide +kernel
theorem dX0_monthStart_27 : decode cX0_monthStart 27 = .ok (.iload_n 1, 1) := by decide +kernel
theorem dX0_monthStart_28 : decode cX0_monthStart 28 = .ok (.iconst 1, 1) := by decide +kernel
theorem dX0_monthStart_29 : decode cX0_monthStart 29 = .ok (.iadd, 1) := by decide +kernel
theorem dX0_monthStart_30 : decode cX0_monthStart 30 = .ok (.istore_n 3, 1) := by decide +kernel
theorem dX0_monthStart_31 : decode cX0_monthStart 31 = .ok (.iload_n 3, 1) := by decide +kernel
theorem dX0_monthStart_32 : decode cX0_monthStart 32 = .ok (.iconst 3, 1) := by decide +kernel
theorem dX0_monthStart_33 : decode cX0_monthStart 33 = .ok (.iadd, 1) := by decide +kernel
theorem dX0_monthStart_34 : decode cX0_monthStart 34 = .ok (.iconst 4, 1) := by decide +kernel
theorem dX0_monthStart_35 : decode cX0_monthStart 35 = .ok (.idiv, 1) := by decide +kernel
theorem dX0_monthStart_36 : decode cX0_monthStart 36 = .ok (.iload_n 3, 1) := by decide +kernel
theorem dX0_monthStart_37 : decode cX0_monthStart 37 = .ok (.bipush 99, 2) := by decide +kernel
theorem dX0_monthStart_39 : decode cX0_monthStart 39 = .ok (.iadd, 1) := by decide +kernel
theorem dX0_monthStart_40 : decode cX0_monthStart 40 = .ok (.bipush 100, 2) := by decide +kernel
theorem dX0_monthStart_42 : decode cX0_monthStart 42 = .ok (.idiv, 1) := by decide +kernel
theorem dX0_monthStart_43 : decode cX0_monthStart 43 = .ok (.isub, 1) := by decide +kernel
theorem dX0_monthStart_44 : decode cX0_monthStart 44 = .ok (.iload_n 3, 1) := by decide +kernel
theorem dX0_monthStart_45 : decode cX0_monthStart 45 = .ok (.sipush 399, 3) := by decide +kernel
theorem dX0_monthStart_48 : decode cX0_monthStart 48 = .ok (.iadd, 1) := by decide +kernel
theorem dX0_monthStart_49 : decode cX0_monthStart 49 = .ok (.sipush 400, 3) := by decide +kernel
theorem dX0_monthStart_52 : decode cX0_monthStart 52 = .ok (.idiv, 1) := by decide +kernel
theorem dX0_monthStart_53 : decode cX0_monthStart 53 = .ok (.iadd, 1) := by decide +kernel
theorem dX0_monthStart_54 : decode cX0_monthStart 54 = .ok (.istore 4, 2) := by decide +kernel
theorem dX0_monthStart_56 : decode cX0_monthStart 56 = .ok (.iload_n 1, 1) := by decide +kernel
theorem dX0_monthStart_57 : decode cX0_monthStart 57 = .ok (.sipush 365, 3) := by decide +kernel
theorem dX0_monthStart_60 : decode cX0_monthStart 60 = .ok (.imul, 1) := by decide +kernel
theorem dX0_monthStart_61 : decode cX0_monthStart 61 = .ok (.getstatic 9, 3) := by decide +kernel
theorem dX0_monthStart_64 : decode cX0_monthStart 64 = .ok (.iload_n 2, 1) := by decide +kernel
theorem dX0_monthStart_65 : decode cX0_monthStart 65 = .ok (.iaload, 1) := by decide +kernel
theorem dX0_monthStart_66 : decode cX0_monthStart 66 = .ok (.iadd, 1) := by decide +kernel
theorem dX0_monthStart_67 : decode cX0_monthStart 67 = .ok (.iload 4, 2) := by decide +kernel
theorem dX0_monthStart_69 : decode cX0_monthStart 69 = .ok (.iadd, 1) := by decide +kernel
theorem dX0_monthStart_70 : decode cX0_monthStart 70 = .ok (.ireturn, 1) := by decide +kernel
theorem dX0_monthLength_0 : decode cX0_monthLength 0 = .ok (.iload_n 0, 1) := by decide +kernel
theorem dX0_monthLength_1 : decode cX0_monthLength 1 = .ok (.iconst 1, 1) := by decide +kernel
theorem dX0_monthLength_2 : decode cX0_monthLength 2 = .ok (.iadd, 1) := by decide +kernel
theorem dX0_monthLength_3 : decode cX0_monthLength 3 = .ok (.invokestatic 15, 3) := by decide +kernel
theorem dX0_monthLength_6 : decode cX0_monthLength 6 = .ok (.iload_n 0, 1) := by decide +kernel
theorem dX0_monthLength_7 : decode cX0_monthLength 7 = .ok (.invokestatic 15, 3) := by decide +kernel
theorem dX0_monthLength_10 : decode cX0_monthLength 10 = .ok (.isub, 1) := by decide +kernel
theorem dX0_monthLength_11 : decode cX0_monthLength 11 = .ok (.ireturn, 1) := by decide +kernel
theorem dX0_monthOf_0 : decode cX0_monthOf 0 = .ok (.iconst 0, 1) := by decide +kernel
theorem dX0_monthOf_1 : decode cX0_monthOf 1 = .ok (.iload_n 0, 1) := by decide +kernel
theorem dX0_monthOf_2 : decode cX0_monthOf 2 = .ok (.i2l, 1) := by decide +kernel
theorem dX0_monthOf_3 : decode cX0_monthOf 3 = .ok (.ldc2_w 19, 3) := by decide +kernel
theorem dX0_monthOf_6 : decode cX0_monthOf 6 = .ok (.lmul, 1) := by decide +kernel
theorem dX0_monthOf_7 : decode cX0_monthOf 7 = .ok (.ldc2_w 21, 3) := by decide +kernel
theorem dX0_monthOf_10 : decode cX0_monthOf 10 = .ok (.ldiv, 1) := by decide +kernel
theorem dX0_monthOf_11 : decode cX0_monthOf 11 = .ok (.l2i, 1) := by decide +kernel
theorem dX0_monthOf_12 : decode cX0_monthOf 12 = .ok (.iconst 1, 1) := by decide +kernel
theorem dX0_monthOf_13 : decode cX0_monthOf 13 = .ok (.isub, 1) := by decide +kernel
theorem dX0_monthOf_14 : decode cX0_monthOf 14 = .ok (.invokestatic 23, 3) := by decide +kernel
theorem dX0_monthOf_17 : decode cX0_monthOf 17 = .ok (.istore_n 1, 1) := by decide +kernel
theorem dX0_monthOf_18 : decode cX0_monthOf 18 = .ok (.iconst 0, 1) := by decide +kernel
theorem dX0_monthOf_19 : decode cX0_monthOf 19 = .ok (.istore_n 2, 1) := by decide +kernel
theorem dX0_monthOf_20 : decode cX0_monthOf 20 = .ok (.iload_n 2, 1) := by decide +kernel
theorem dX0_monthOf_21 : decode cX0_monthOf 21 = .ok (.iconst 3, 1) := by decide +kernel
theorem dX0_monthOf_22 : decode cX0_monthOf 22 = .ok (.if_icmp .ge 22, 3) := by decide +kernel
theorem dX0_monthOf_25 : decode cX0_monthOf 25 = .ok (.iload_n 1, 1) := by decide +kernel
theorem dX0_monthOf_26 : decode cX0_monthOf 26 = .ok (.iconst 1, 1) := by decide +kernel
theorem dX0_monthOf_27 : decode cX0_monthOf 27 = .ok (.iadd, 1) := by decide +kernel
theorem dX0_monthOf_28 : decode cX0_monthOf 28 = .ok (.invokestatic 15, 3) := by decide +kernel
theorem dX0_monthOf_31 : decode cX0_monthOf 31 = .ok (.iload_n 0, 1) := by decide +kernel
theorem dX0_monthOf_32 : decode cX0_monthOf 32 = .ok (.if_icmp .gt 12, 3) := by decide +kernel
theorem dX0_monthOf_35 : decode cX0_monthOf 35 = .ok (.iinc 1 1, 3) := by decide +kernel
theorem dX0_monthOf_38 : decode cX0_monthOf 38 = .ok (.iinc 2 1, 3) := by decide +kernel
theorem dX0_monthOf_41 : decode cX0_monthOf 41 = .ok (.goto (-21), 3) := by decide +kernel
theorem dX0_monthOf_44 : decode cX0_monthOf 44 = .ok (.iload_n 1, 1) := by decide +kernel
theorem dX0_monthOf_45 : decode cX0_monthOf 45 = .ok (.ireturn, 1) := by decide +kernel
theorem dX0_monthsAfter_0 : decode cX0_monthsAfter 0 = .ok (.iload_n 0, 1) := by decide +kernel
theorem dX0_monthsAfter_1 : decode cX0_monthsAfter 1 = .ok (.invokestatic 29, 3) := by decide +kernel
theorem dX0_monthsAfter_4 : decode cX0_monthsAfter 4 = .ok (.istore_n 2, 1) := by decide +kernel
theorem dX0_monthsAfter_5 : decode cX0_monthsAfter 5 = .ok (.iload_n 0, 1) := by decide +kernel
theorem dX0_monthsAfter_6 : decode cX0_monthsAfter 6 = .ok (.iload_n 2, 1) := by decide +kernel
theorem dX0_monthsAfter_7 : decode cX0_monthsAfter 7 = .ok (.invokestatic 15, 3) := by decide +kernel
theorem dX0_monthsAfter_10 : decode cX0_monthsAfter 10 = .ok (.isub, 1) := by decide +kernel
theorem dX0_monthsAfter_11 : decode cX0_monthsAfter 11 = .ok (.istore_n 3, 1) := by decide +kernel
theorem dX0_monthsAfter_12 : decode cX0_monthsAfter 12 = .ok (.iload_n 2, 1) := by decide +kernel
theorem dX0_monthsAfter_13 : decode cX0_monthsAfter 13 = .ok (.iload_n 1, 1) := by decide +kernel
theorem dX0_monthsAfter_14 : decode cX0_monthsAfter 14 = .ok (.iadd, 1) := by decide +kernel
theorem dX0_monthsAfter_15 : decode cX0_monthsAfter 15 = .ok (.invokestatic 15, 3) := by decide +kernel
theorem dX0_monthsAfter_18 : decode cX0_monthsAfter 18 = .ok (.iload_n 3, 1) := by decide +kernel
theorem dX0_monthsAfter_19 : decode cX0_monthsAfter 19 = .ok (.iload_n 2, 1) := by decide +kernel
theorem dX0_monthsAfter_20 : decode cX0_monthsAfter 20 = .ok (.iload_n 1, 1) := by decide +kernel
theorem dX0_monthsAfter_21 : decode cX0_monthsAfter 21 = .ok (.iadd, 1) := by decide +kernel
theorem dX0_monthsAfter_22 : decode cX0_monthsAfter 22 = .ok (.invokestatic 32, 3) := by decide +kernel
theorem dX0_monthsAfter_25 : decode cX0_monthsAfter 25 = .ok (.iconst 1, 1) := by decide +kernel
theorem dX0_monthsAfter_26 : decode cX0_monthsAfter 26 = .ok (.isub, 1) := by decide +kernel
theorem dX0_monthsAfter_27 : decode cX0_monthsAfter 27 = .ok (.invokestatic 35, 3) := by decide +kernel
theorem dX0_monthsAfter_30 : decode cX0_monthsAfter 30 = .ok (.iadd, 1) := by decide +kernel
theorem dX0_monthsAfter_31 : decode cX0_monthsAfter 31 = .ok (.istore 4, 2) := by decide +kernel
theorem dX0_monthsAfter_33 : decode cX0_monthsAfter 33 = .ok (.iload 4, 2) := by decide +kernel
theorem dX0_monthsAfter_35 : decode cX0_monthsAfter 35 = .ok (.ldc 38, 2) := by decide +kernel
theorem dX0_monthsAfter_37 : decode cX0_monthsAfter 37 = .ok (.if_icmp .le 8, 3) := by decide +kernel
theorem dX0_monthsAfter_40 : decode cX0_monthsAfter 40 = .ok (.ldc 39, 2) := by decide +kernel
theorem dX0_monthsAfter_42 : decode cX0_monthsAfter 42 = .ok (.goto 5, 3) := by decide +kernel
theorem dX0_monthsAfter_45 : decode cX0_monthsAfter 45 = .ok (.iload 4, 2) := by decide +kernel
theorem dX0_monthsAfter_47 : decode cX0_monthsAfter 47 = .ok (.ireturn, 1) := by decide +kernel
theorem dX1_init_0 : decode cX1_init 0 = .ok (.aload_n 0, 1) := by decide +kernel
theorem dX1_init_1 : decode cX1_init 1 = .ok (.invokespecial 1, 3) := by decide +kernel
theorem dX1_init_4 : decode cX1_init 4 = .ok (.aload_n 0, 1) := by decide +kernel
theorem dX1_init_5 : decode cX1_init 5 = .ok (.aload_n 1, 1) := by decide +kernel
theorem dX1_init_6 : decode cX1_init 6 = .ok (.putfield 7, 3) := by decide +kernel
theorem dX1_init_9 : decode cX1_init 9 = .ok (.aload_n 0, 1) := by decide +kernel
theorem dX1_init_10 : decode cX1_init 10 = .ok (.iload_n 2, 1) := by decide +kernel
theorem dX1_init_11 : decode cX1_init 11 = .ok (.putfield 13, 3) := by decide +kernel
theorem dX1_init_14 : decode cX1_init 14 = .ok (.return_, 1) := by decide +kernel
theorem dX2_init_0 : decode cX2_init 0 = .ok (.aload_n 0, 1) := by decide +kernel
theorem dX2_init_1 : decode cX2_init 1 = .ok (.invokespecial 3, 3) := by decide +kernel
theorem dX2_init_4 : decode cX2_init 4 = .ok (.aload_n 0, 1) := by decide +kernel
theorem dX2_init_5 : decode cX2_init 5 = .ok (.sipush 2000, 3) := by decide +kernel
theorem dX2_init_8 : decode cX2_init 8 = .ok (.newarray .int, 2) := by decide +kernel
theorem dX2_init_10 : decode cX2_init 10 = .ok (.putfield 9, 3) := by decide +kernel
theorem dX2_init_13 : decode cX2_init 13 = .ok (.return_, 1) := by decide +kernel
theorem dX2_add_0 : decode cX2_add 0 = .ok (.aload_n 0, 1) := by decide +kernel
theorem dX2_add_1 : decode cX2_add 1 = .ok (.getfield 15, 3) := by decide +kernel
theorem dX2_add_4 : decode cX2_add 4 = .ok (.sipush 400, 3) := by decide +kernel
theorem dX2_add_7 : decode cX2_add 7 = .ok (.if_icmp .ge 64, 3) := by decide +kernel
theorem dX2_add_10 : decode cX2_add 10 = .ok (.aload_n 0, 1) := by decide +kernel
theorem dX2_add_11 : decode cX2_add 11 = .ok (.getfield 15, 3) := by decide +kernel
theorem dX2_add_14 : decode cX2_add 14 = .ok (.iconst 5, 1) := by decide +kernel
theorem dX2_add_15 : decode cX2_add 15 = .ok (.imul, 1) := by decide +kernel
theorem dX2_add_16 : decode cX2_add 16 = .ok (.istore 6, 2) := by decide +kernel
theorem dX2_add_18 : decode cX2_add 18 = .ok (.aload_n 0, 1) := by decide +kernel
theorem dX2_add_19 : decode cX2_add 19 = .ok (.getfield 9, 3) := by decide +kernel
theorem dX2_add_22 : decode cX2_add 22 = .ok (.iload 6, 2) := by decide +kernel
theorem dX2_add_24 : decode cX2_add 24 = .ok (.iload_n 1, 1) := by decide +kernel
theorem dX2_add_25 : decode cX2_add 25 = .ok (.iastore, 1) := by decide +kernel
theorem dX2_add_26 : decode cX2_add 26 = .ok (.aload_n 0, 1) := by decide +kernel
theorem dX2_add_27 : decode cX2_add 27 = .ok (.getfield 9, 3) := by decide +kernel
theorem dX2_add_30 : decode cX2_add 30 = .ok (.iload 6, 2) := by decide +kernel
theorem dX2_add_32 : decode cX2_add 32 = .ok (.iconst 1, 1) := by decide +kernel
theorem dX2_add_33 : decode cX2_add 33 = .ok (.iadd, 1) := by decide +kernel
theorem dX2_add_34 : decode cX2_add 34 = .ok (.iload_n 2, 1) := by decide +kernel
theorem dX2_add_35 : decode cX2_add 35 = .ok (.iastore, 1) := by decide +kernel
theorem dX2_add_36 : decode cX2_add 36 = .ok (.aload_n 0, 1) := by decide +kernel
theorem dX2_add_37 : decode cX2_add 37 = .ok (.getfield 9, 3) := by decide +kernel
theorem dX2_add_40 : decode cX2_add 40 = .ok (.iload 6, 2) := by decide +kernel
theorem dX2_add_42 : decode cX2_add 42 = .ok (.iconst 2, 1) := by decide +kernel
theorem dX2_add_43 : decode cX2_add 43 = .ok (.iadd, 1) := by decide +kernel
theorem dX2_add_44 : decode cX2_add 44 = .ok (.iload_n 3, 1) := by decide +kernel
theorem dX2_add_45 : decode cX2_add 45 = .ok (.iastore, 1) := by decide +kernel
theorem dX2_add_46 : decode cX2_add 46 = .ok (.aload_n 0, 1) := by decide +kernel
theorem dX2_add_47 : decode cX2_add 47 = .ok (.getfield 9, 3) := by decide +kernel
theorem dX2_add_50 : decode cX2_add 50 = .ok (.iload 6, 2) := by decide +kernel
theorem dX2_add_52 : decode cX2_add 52 = .ok (.iconst 3, 1) := by decide +kernel
theorem dX2_add_53 : decode cX2_add 53 = .ok (.iadd, 1) := by decide +kernel
theorem dX2_add_54 : decode cX2_add 54 = .ok (.iload 4, 2) := by decide +kernel
theorem dX2_add_56 : decode cX2_add 56 = .ok (.iastore, 1) := by decide +kernel
theorem dX2_add_57 : decode cX2_add 57 = .ok (.aload_n 0, 1) := by decide +kernel
theorem dX2_add_58 : decode cX2_add 58 = .ok (.getfield 9, 3) := by decide +kernel
theorem dX2_add_61 : decode cX2_add 61 = .ok (.iload 6, 2) := by decide +kernel
theorem dX2_add_63 : decode cX2_add 63 = .ok (.iconst 4, 1) := by decide +kernel
theorem dX2_add_64 : decode cX2_add 64 = .ok (.iadd, 1) := by decide +kernel
theorem dX2_add_65 : decode cX2_add 65 = .ok (.aload 5, 2) := by decide +kernel
theorem dX2_add_67 : decode cX2_add 67 = .ok (.getfield 19, 3) := by decide +kernel
theorem dX2_add_70 : decode cX2_add 70 = .ok (.iastore, 1) := by decide +kernel
theorem dX2_add_71 : decode cX2_add 71 = .ok (.aload_n 0, 1) := by decide +kernel
theorem dX2_add_72 : decode cX2_add 72 = .ok (.dup, 1) := by decide +kernel
theorem dX2_add_73 : decode cX2_add 73 = .ok (.getfield 15, 3) := by decide +kernel
theorem dX2_add_76 : decode cX2_add 76 = .ok (.iconst 1, 1) := by decide +kernel
theorem dX2_add_77 : decode cX2_add 77 = .ok (.iadd, 1) := by decide +kernel
theorem dX2_add_78 : decode cX2_add 78 = .ok (.putfield 15, 3) := by decide +kernel
theorem dX2_add_81 : decode cX2_add 81 = .ok (.aload_n 0, 1) := by decide +kernel
theorem dX2_add_82 : decode cX2_add 82 = .ok (.dup, 1) := by decide +kernel
theorem dX2_add_83 : decode cX2_add 83 = .ok (.getfield 24, 3) := by decide +kernel
theorem dX2_add_86 : decode cX2_add 86 = .ok (.iload 4, 2) := by decide +kernel
theorem dX2_add_88 : decode cX2_add 88 = .ok (.aload 5, 2) := by decide +kernel
theorem dX2_add_90 : decode cX2_add 90 = .ok (.getfield 27, 3) := by decide +kernel
theorem dX2_add_93 : decode cX2_add 93 = .ok (.if_icmp .le 7, 3) := by decide +kernel
theorem dX2_add_96 : decode cX2_add 96 = .ok (.iconst 1, 1) := by decide +kernel
theorem dX2_add_97 : decode cX2_add 97 = .ok (.goto 4, 3) := by decide +kernel
theorem dX2_add_100 : decode cX2_add 100 = .ok (.iconst 0, 1) := by decide +kernel
theorem dX2_add_101 : decode cX2_add 101 = .ok (.iadd, 1) := by decide +kernel
theorem dX2_add_102 : decode cX2_add 102 = .ok (.putfield 24, 3) := by decide +kernel
theorem dX2_add_105 : decode cX2_add 105 = .ok (.return_, 1) := by decide +kernel
theorem dX3_init_0 : decode cX3_init 0 = .ok (.aload_n 0, 1) := by decide +kernel
theorem dX3_init_1 : decode cX3_init 1 = .ok (.invokespecial 3, 3) := by decide +kernel
theorem dX3_init_4 : decode cX3_init 4 = .ok (.aload_n 0, 1) := by decide +kernel
theorem dX3_init_5 : decode cX3_init 5 = .ok (.iload_n 1, 1) := by decide +kernel
theorem dX3_init_6 : decode cX3_init 6 = .ok (.putfield 9, 3) := by decide +kernel
theorem dX3_init_9 : decode cX3_init 9 = .ok (.aload_n 0, 1) := by decide +kernel
theorem dX3_init_10 : decode cX3_init 10 = .ok (.iconst 4, 1) := by decide +kernel
theorem dX3_init_11 : decode cX3_init 11 = .ok (.newarray .int, 2) := by decide +kernel
theorem dX3_init_13 : decode cX3_init 13 = .ok (.putfield 15, 3) := by decide +kernel
theorem dX3_init_16 : decode cX3_init 16 = .ok (.aload_n 0, 1) := by decide +kernel
theorem dX3_init_17 : decode cX3_init 17 = .ok (.iconst 4, 1) := by decide +kernel
theorem dX3_init_18 : decode cX3_init 18 = .ok (.newarray .boolean, 2) := by decide +kernel
theorem dX3_init_20 : decode cX3_init 20 = .ok (.putfield 19, 3) := by decide +kernel
theorem dX3_init_23 : decode cX3_init 23 = .ok (.aload_n 0, 1) := by decide +kernel
theorem dX3_init_24 : decode cX3_init 24 = .ok (.iconst 4, 1) := by decide +kernel
theorem dX3_init_25 : decode cX3_init 25 = .ok (.newarray .int, 2) := by decide +kernel
theorem dX3_init_27 : decode cX3_init 27 = .ok (.putfield 23, 3) := by decide +kernel
theorem dX3_init_30 : decode cX3_init 30 = .ok (.return_, 1) := by decide +kernel
theorem dX3_isFor_0 : decode cX3_isFor 0 = .ok (.aload_n 0, 1) := by decide +kernel
theorem dX3_isFor_1 : decode cX3_isFor 1 = .ok (.getfield 26, 3) := by decide +kernel
theorem dX3_isFor_4 : decode cX3_isFor 4 = .ok (.aload_n 1, 1) := by decide +kernel
theorem dX3_isFor_5 : decode cX3_isFor 5 = .ok (.getfield 29, 3) := by decide +kernel
theorem dX3_isFor_8 : decode cX3_isFor 8 = .ok (.ishr, 1) := by decide +kernel
theorem dX3_isFor_9 : decode cX3_isFor 9 = .ok (.iconst 1, 1) := by decide +kernel
theorem dX3_isFor_10 : decode cX3_isFor 10 = .ok (.iand, 1) := by decide +kernel
theorem dX3_isFor_11 : decode cX3_isFor 11 = .ok (.ifCond .eq 14, 3) := by decide +kernel
theorem dX3_isFor_14 : decode cX3_isFor 14 = .ok (.aload_n 0, 1) := by decide +kernel
theorem dX3_isFor_15 : decode cX3_isFor 15 = .ok (.getfield 34, 3) := by decide +kernel
theorem dX3_isFor_18 : decode cX3_isFor 18 = .ok (.iload_n 2, 1) := by decide +kernel
theorem dX3_isFor_19 : decode cX3_isFor 19 = .ok (.ishr, 1) := by decide +kernel
theorem dX3_isFor_20 : decode cX3_isFor 20 = .ok (.iconst 1, 1) := by decide +kernel
theorem dX3_isFor_21 : decode cX3_isFor 21 = .ok (.iand, 1) := by decide +kernel
theorem dX3_isFor_22 : decode cX3_isFor 22 = .ok (.ifCond .ne 5, 3) := by decide +kernel
theorem dX3_isFor_25 : decode cX3_isFor 25 = .ok (.iconst 0, 1) := by decide +kernel
theorem dX3_isFor_26 : decode cX3_isFor 26 = .ok (.ireturn, 1) := by decide +kernel
theorem dX3_isFor_27 : decode cX3_isFor 27 = .ok (.iconst 0, 1) := by decide +kernel
theorem dX3_isFor_28 : decode cX3_isFor 28 = .ok (.istore_n 3, 1) := by decide +kernel
theorem dX3_isFor_29 : decode cX3_isFor 29 = .ok (.iload_n 3, 1) := by decide +kernel
theorem dX3_isFor_30 : decode cX3_isFor 30 = .ok (.aload_n 0, 1) := by decide +kernel
theorem dX3_isFor_31 : decode cX3_isFor 31 = .ok (.getfield 37, 3) := by decide +kernel
theorem dX3_isFor_34 : decode cX3_isFor 34 = .ok (.if_icmp .ge 63, 3) := by decide +kernel
theorem dX3_isFor_37 : decode cX3_isFor 37 = .ok (.iload_n 3, 1) := by decide +kernel
theorem dX3_isFor_38 : decode cX3_isFor 38 = .ok (.iconst 4, 1) := by decide +kernel
theorem dX3_isFor_39 : decode cX3_isFor 39 = .ok (.if_icmp .ge 58, 3) := by decide +kernel
theorem dX3_isFor_42 : decode cX3_isFor 42 = .ok (.aload_n 1, 1) := by decide +kernel
theorem dX3_isFor_43 : decode cX3_isFor 43 = .ok (.getfield 40, 3) := by decide +kernel
theorem dX3_isFor_46 : decode cX3_isFor 46 = .ok (.aload_n 0, 1) := by decide +kernel
theorem dX3_isFor_47 : decode cX3_isFor 47 = .ok (.getfield 15, 3) := by decide +kernel
theorem dX3_isFor_50 : decode cX3_isFor 50 = .ok (.iload_n 3, 1) := by decide +kernel
theorem dX3_isFor_51 : decode cX3_isFor 51 = .ok (.iaload, 1) := by decide +kernel
theorem dX3_isFor_52 : decode cX3_isFor 52 = .ok (.iaload, 1) := by decide +kernel
theorem dX3_isFor_53 : decode cX3_isFor 53 = .ok (.istore 4, 2) := by decide +kernel
theorem dX3_isFor_55 : decode cX3_isFor 55 = .ok (.aload_n 0, 1) := by decide +kernel
theorem dX3_isFor_56 : decode cX3_isFor 56 = .ok (.getfield 19, 3) := by decide +kernel
theorem dX3_isFor_59 : decode cX3_isFor 59 = .ok (.iload_n 3, 1) := by decide +kernel
theorem dX3_isFor_60 : decode cX3_isFor 60 = .ok (.baload, 1) := by decide +kernel
theorem dX3_isFor_61 : decode cX3_isFor 61 = .ok (.ifCond .eq 17, 3) := by decide +kernel
theorem dX3_isFor_64 : decode cX3_isFor 64 = .ok (.iload 4, 2) := by decide +kernel
theorem dX3_isFor_66 : decode cX3_isFor 66 = .ok (.aload_n 0, 1) := by decide +kernel
theorem dX3_isFor_67 : decode cX3_isFor 67 = .ok (.getfield 23, 3) := by decide +kernel
theorem dX3_isFor_70 : decode cX3_isFor 70 = .ok (.iload_n 3, 1) := by decide +kernel
theorem dX3_isFor_71 : decode cX3_isFor 71 = .ok (.iaload, 1) := by decide +kernel
theorem dX3_isFor_72 : decode cX3_isFor 72 = .ok (.if_icmp .lt 19, 3) := by decide +kernel
theorem dX3_isFor_75 : decode cX3_isFor 75 = .ok (.goto 14, 3) := by decide +kernel
theorem dX3_isFor_78 : decode cX3_isFor 78 = .ok (.iload 4, 2) := by decide +kernel
theorem dX3_isFor_80 : decode cX3_isFor 80 = .ok (.aload_n 0, 1) := by decide +kernel
theorem dX3_isFor_81 : decode cX3_isFor 81 = .ok (.getfield 23, 3) := by decide +kernel
theorem dX3_isFor_84 : decode cX3_isFor 84 = .ok (.iload_n 3, 1) := by decide +kernel
theorem dX3_isFor_85 : decode cX3_isFor 85 = .ok (.iaload, 1) := by decide +kernel
theorem dX3_isFor_86 : decode cX3_isFor 86 = .ok (.if_icmp .eq 5, 3) := by decide +kernel
theorem dX3_isFor_89 : decode cX3_isFor 89 = .ok (.iconst 0, 1) := by decide +kernel
theorem dX3_isFor_90 : decode cX3_isFor 90 = .ok (.ireturn, 1) := by decide +kernel
theorem dX3_isFor_91 : decode cX3_isFor 91 = .ok (.iinc 3 1, 3) := by decide +kernel
theorem dX3_isFor_94 : decode cX3_isFor 94 = .ok (.goto (-65), 3) := by decide +kernel
theorem dX3_isFor_97 : decode cX3_isFor 97 = .ok (.iconst 1, 1) := by decide +kernel
theorem dX3_isFor_98 : decode cX3_isFor 98 = .ok (.ireturn, 1) := by decide +kernel
theorem dX3_dayFor_0 : decode cX3_dayFor 0 = .ok (.aload_n 1, 1) := by decide +kernel
theorem dX3_dayFor_1 : decode cX3_dayFor 1 = .ok (.getfield 43, 3) := by decide +kernel
theorem dX3_dayFor_4 : decode cX3_dayFor 4 = .ok (.aload_n 0, 1) := by decide +kernel
theorem dX3_dayFor_5 : decode cX3_dayFor 5 = .ok (.getfield 46, 3) := by decide +kernel
theorem dX3_dayFor_8 : decode cX3_dayFor 8 = .ok (.iaload, 1) := by decide +kernel
theorem dX3_dayFor_9 : decode cX3_dayFor 9 = .ok (.istore_n 2, 1) := by decide +kernel
theorem dX3_dayFor_10 : decode cX3_dayFor 10 = .ok (.iload_n 2, 1) := by decide +kernel
theorem dX3_dayFor_11 : decode cX3_dayFor 11 = .ok (.iconst (-1), 1) := by decide +kernel
theorem dX3_dayFor_12 : decode cX3_dayFor 12 = .ok (.if_icmp .ne 5, 3) := by decide +kernel
theorem dX3_dayFor_15 : decode cX3_dayFor 15 = .ok (.iconst (-1), 1) := by decide +kernel
theorem dX3_dayFor_16 : decode cX3_dayFor 16 = .ok (.ireturn, 1) := by decide +kernel
theorem dX3_dayFor_17 : decode cX3_dayFor 17 = .ok (.aload_n 0, 1) := by decide +kernel
theorem dX3_dayFor_18 : decode cX3_dayFor 18 = .ok (.getfield 49, 3) := by decide +kernel
theorem dX3_dayFor_21 : decode cX3_dayFor 21 = .ok (.ifCond .eq 17, 3) := by decide +kernel
theorem dX3_dayFor_24 : decode cX3_dayFor 24 = .ok (.iload_n 2, 1) := by decide +kernel
theorem dX3_dayFor_25 : decode cX3_dayFor 25 = .ok (.aload_n 0, 1) := by decide +kernel
theorem dX3_dayFor_26 : decode cX3_dayFor 26 = .ok (.getfield 52, 3) := by decide +kernel
theorem dX3_dayFor_29 : decode cX3_dayFor 29 = .ok (.aload_n 0, 1) := by decide +kernel
theorem dX3_dayFor_30 : decode cX3_dayFor 30 = .ok (.getfield 49, 3) := by decide +kernel
theorem dX3_dayFor_33 : decode cX3_dayFor 33 = .ok (.imul, 1) := by decide +kernel
theorem dX3_dayFor_34 : decode cX3_dayFor 34 = .ok (.invokestatic 55, 3) := by decide +kernel
theorem dX3_dayFor_37 : decode cX3_dayFor 37 = .ok (.ireturn, 1) := by decide +kernel
theorem dX3_dayFor_38 : decode cX3_dayFor 38 = .ok (.iload_n 2, 1) := by decide +kernel
theorem dX3_dayFor_39 : decode cX3_dayFor 39 = .ok (.aload_n 0, 1) := by decide +kernel
theorem dX3_dayFor_40 : decode cX3_dayFor 40 = .ok (.getfield 52, 3) := by decide +kernel
theorem dX3_dayFor_43 : decode cX3_dayFor 43 = .ok (.iadd, 1) := by decide +kernel
theorem dX3_dayFor_44 : decode cX3_dayFor 44 = .ok (.ldc 61, 2) := by decide +kernel
theorem dX3_dayFor_46 : decode cX3_dayFor 46 = .ok (.if_icmp .le 8, 3) := by decide +kernel
theorem dX3_dayFor_49 : decode cX3_dayFor 49 = .ok (.ldc 62, 2) := by decide +kernel
theorem dX3_dayFor_51 : decode cX3_dayFor 51 = .ok (.goto 9, 3) := by decide +kernel
theorem dX3_dayFor_54 : decode cX3_dayFor 54 = .ok (.iload_n 2, 1) := by decide +kernel
theorem dX3_dayFor_55 : decode cX3_dayFor 55 = .ok (.aload_n 0, 1) := by decide +kernel
theorem dX3_dayFor_56 : decode cX3_dayFor 56 = .ok (.getfield 52, 3) := by decide +kernel
theorem dX3_dayFor_59 : decode cX3_dayFor 59 = .ok (.iadd, 1) := by decide +kernel
theorem dX3_dayFor_60 : decode cX3_dayFor 60 = .ok (.ireturn, 1) := by decide +kernel
theorem dX4_init_0 : decode cX4_init 0 = .ok (.aload_n 0, 1) := by decide +kernel
theorem dX4_init_1 : decode cX4_init 1 = .ok (.invokespecial 3, 3) := by decide +kernel
theorem dX4_init_4 : decode cX4_init 4 = .ok (.aload_n 0, 1) := by decide +kernel
theorem dX4_init_5 : decode cX4_init 5 = .ok (.aload_n 1, 1) := by decide +kernel
theorem dX4_init_6 : decode cX4_init 6 = .ok (.putfield 9, 3) := by decide +kernel
theorem dX4_init_9 : decode cX4_init 9 = .ok (.aload_n 0, 1) := by decide +kernel
theorem dX4_init_10 : decode cX4_init 10 = .ok (.iload_n 2, 1) := by decide +kernel
theorem dX4_init_11 : decode cX4_init 11 = .ok (.aload_n 1, 1) := by decide +kernel
theorem dX4_init_12 : decode cX4_init 12 = .ok (.arraylength, 1) := by decide +kernel
theorem dX4_init_13 : decode cX4_init 13 = .ok (.invokestatic 15, 3) := by decide +kernel
theorem dX4_init_16 : decode cX4_init 16 = .ok (.putfield 21, 3) := by decide +kernel
theorem dX4_init_19 : decode cX4_init 19 = .ok (.return_, 1) := by decide +kernel
theorem dX4_readInto_0 : decode cX4_readInto 0 = .ok (.aload_n 0, 1) := by decide +kernel
theorem dX4_readInto_1 : decode cX4_readInto 1 = .ok (.invokevirtual 25, 3) := by decide +kernel
theorem dX4_readInto_4 : decode cX4_readInto 4 = .ok (.iconst 0, 1) := by decide +kernel
theorem dX4_readInto_5 : decode cX4_readInto 5 = .ok (.istore_n 2, 1) := by decide +kernel
theorem dX4_readInto_6 : decode cX4_readInto 6 = .ok (.iload_n 2, 1) := by decide +kernel
theorem dX4_readInto_7 : decode cX4_readInto 7 = .ok (.bipush 24, 2) := by decide +kernel
theorem dX4_readInto_9 : decode cX4_readInto 9 = .ok (.if_icmp .gt 25, 3) := by decide +kernel
theorem dX4_readInto_12 : decode cX4_readInto 12 = .ok (.aload_n 0, 1) := by decide +kernel
theorem dX4_readInto_13 : decode cX4_readInto 13 = .ok (.getfield 28, 3) := by decide +kernel
theorem dX4_readInto_16 : decode cX4_readInto 16 = .ok (.ifCond .eq 18, 3) := by decide +kernel
theorem dX4_readInto_19 : decode cX4_readInto 19 = .ok (.aload_n 0, 1) := by decide +kernel
theorem dX4_readInto_20 : decode cX4_readInto 20 = .ok (.aload_n 1, 1) := by decide +kernel
theorem dX4_readInto_21 : decode cX4_readInto 21 = .ok (.invokevirtual 31, 3) := by decide +kernel
theorem dX4_readInto_24 : decode cX4_readInto 24 = .ok (.ifCond .ne 4, 3) := by decide +kernel
theorem dX4_readInto_27 : decode cX4_readInto 27 = .ok (.return_, 1) := by decide +kernel
theorem dX4_readInto_28 : decode cX4_readInto 28 = .ok (.iinc 2 1, 3) := by decide +kernel
theorem dX4_readInto_31 : decode cX4_readInto 31 = .ok (.goto (-25), 3) := by decide +kernel
theorem dX4_readInto_34 : decode cX4_readInto 34 = .ok (.return_, 1) := by decide +kernel
theorem dX4_readRule_0 : decode cX4_readRule 0 = .ok (.aload_n 0, 1) := by decide +kernel
theorem dX4_readRule_1 : decode cX4_readRule 1 = .ok (.invokevirtual 35, 3) := by decide +kernel
theorem dX4_readRule_4 : decode cX4_readRule 4 = .ok (.istore_n 2, 1) := by decide +kernel
theorem dX4_readRule_5 : decode cX4_readRule 5 = .ok (.iload_n 2, 1) := by decide +kernel
theorem dX4_readRule_6 : decode cX4_readRule 6 = .ok (.iconst (-1), 1) := by decide +kernel
theorem dX4_readRule_7 : decode cX4_readRule 7 = .ok (.if_icmp .ne 9, 3) := by decide +kernel
theorem dX4_readRule_10 : decode cX4_readRule 10 = .ok (.aload_n 0, 1) := by decide +kernel
theorem dX4_readRule_11 : decode cX4_readRule 11 = .ok (.iconst 1, 1) := by decide +kernel
theorem dX4_readRule_12 : decode cX4_readRule 12 = .ok (.invokevirtual 39, 3) := by decide +kernel
theorem dX4_readRule_15 : decode cX4_readRule 15 = .ok (.ireturn, 1) := by decide +kernel
theorem dX4_readRule_16 : decode cX4_readRule 16 = .ok (.aload_n 1, 1) := by decide +kernel
theorem dX4_readRule_17 : decode cX4_readRule 17 = .ok (.invokevirtual 43, 3) := by decide +kernel
theorem dX4_readRule_20 : decode cX4_readRule 20 = .ok (.ifCond .eq 9, 3) := by decide +kernel
theorem dX4_readRule_23 : decode cX4_readRule 23 = .ok (.aload_n 0, 1) := by decide +kernel
theorem dX4_readRule_24 : decode cX4_readRule 24 = .ok (.iconst 2, 1) := by decide +kernel
theorem dX4_readRule_25 : decode cX4_readRule 25 = .ok (.invokevirtual 39, 3) := by decide +kernel
theorem dX4_readRule_28 : decode cX4_readRule 28 = .ok (.ireturn, 1) := by decide +kernel
theorem dX4_readRule_29 : decode cX4_readRule 29 = .ok (.aload_n 0, 1) := by decide +kernel
theorem dX4_readRule_30 : decode cX4_readRule 30 = .ok (.invokevirtual 25, 3) := by decide +kernel
theorem dX4_readRule_33 : decode cX4_readRule 33 = .ok (.new 49, 3) := by decide +kernel
theorem dX4_readRule_36 : decode cX4_readRule 36 = .ok (.dup, 1) := by decide +kernel
theorem dX4_readRule_37 : decode cX4_readRule 37 = .ok (.iload_n 2, 1) := by decide +kernel
theorem dX4_readRule_38 : decode cX4_readRule 38 = .ok (.invokespecial 51, 3) := by decide +kernel
theorem dX4_readRule_41 : decode cX4_readRule 41 = .ok (.astore_n 3, 1) := by decide +kernel
theorem dX4_readRule_42 : decode cX4_readRule 42 = .ok (.aload_n 0, 1) := by decide +kernel
theorem dX4_readRule_43 : decode cX4_readRule 43 = .ok (.aload_n 3, 1) := by decide +kernel
theorem dX4_readRule_44 : decode cX4_readRule 44 = .ok (.invokevirtual 54, 3) := by decide +kernel
theorem dX4_readRule_47 : decode cX4_readRule 47 = .ok (.ifCond .ne 5, 3) := by decide +kernel
theorem dX4_readRule_50 : decode cX4_readRule 50 = .ok (.iconst 0, 1) := by decide +kernel
theorem dX4_readRule_51 : decode cX4_readRule 51 = .ok (.ireturn, 1) := by decide +kernel
theorem dX4_readRule_52 : decode cX4_readRule 52 = .ok (.iload_n 2, 1) := by decide +kernel
theorem dX4_readRule_53 : decode cX4_readRule 53 = .ok (.iconst 2, 1) := by decide +kernel
theorem dX4_readRule_54 : decode cX4_readRule 54 = .ok (.if_icmp .ne 14, 3) := by decide +kernel
theorem dX4_readRule_57 : decode cX4_readRule 57 = .ok (.aload_n 0, 1) := by decide +kernel
theorem dX4_readRule_58 : decode cX4_readRule 58 = .ok (.aload_n 3, 1) := by decide +kernel
theorem dX4_readRule_59 : decode cX4_readRule 59 = .ok (.invokevirtual 58, 3) := by decide +kernel
theorem dX4_readRule_62 : decode cX4_readRule 62 = .ok (.ifCond .ne 16, 3) := by decide +kernel
theorem dX4_readRule_65 : decode cX4_readRule 65 = .ok (.goto 11, 3) := by decide +kernel
theorem dX4_readRule_68 : decode cX4_readRule 68 = .ok (.aload_n 0, 1) := by decide +kernel
theorem dX4_readRule_69 : decode cX4_readRule 69 = .ok (.aload_n 3, 1) := by decide +kernel
theorem dX4_readRule_70 : decode cX4_readRule 70 = .ok (.invokevirtual 61, 3) := by decide +kernel
theorem dX4_readRule_73 : decode cX4_readRule 73 = .ok (.ifCond .ne 5, 3) := by decide +kernel
theorem dX4_readRule_76 : decode cX4_readRule 76 = .ok (.iconst 0, 1) := by decide +kernel
theorem dX4_readRule_77 : decode cX4_readRule 77 = .ok (.ireturn, 1) := by decide +kernel
theorem dX4_readRule_78 : decode cX4_readRule 78 = .ok (.aload_n 0, 1) := by decide +kernel
theorem dX4_readRule_79 : decode cX4_readRule 79 = .ok (.aload_n 3, 1) := by decide +kernel
theorem dX4_readRule_80 : decode cX4_readRule 80 = .ok (.invokevirtual 64, 3) := by decide +kernel
theorem dX4_readRule_83 : decode cX4_readRule 83 = .ok (.ifCond .eq 11, 3) := by decide +kernel
theorem dX4_readRule_86 : decode cX4_readRule 86 = .ok (.aload_n 0, 1) := by decide +kernel
theorem dX4_readRule_87 : decode cX4_readRule 87 = .ok (.aload_n 3, 1) := by decide +kernel
theorem dX4_readRule_88 : decode cX4_readRule 88 = .ok (.invokevirtual 67, 3) := by decide +kernel
theorem dX4_readRule_91 : decode cX4_readRule 91 = .ok (.ifCond .ne 5, 3) := by decide +kernel
theorem dX4_readRule_94 : decode cX4_readRule 94 = .ok (.iconst 0, 1) := by decide +kernel
theorem dX4_readRule_95 : decode cX4_readRule 95 = .ok (.ireturn, 1) := by decide +kernel
theorem dX4_readRule_96 : decode cX4_readRule 96 = .ok (.aload_n 0, 1) := by decide +kernel
theorem dX4_readRule_97 : decode cX4_readRule 97 = .ok (.bipush 59, 2) := by decide +kernel
theorem dX4_readRule_99 : decode cX4_readRule 99 = .ok (.invokevirtual 70, 3) := by decide +kernel
theorem dX4_readRule_102 : decode cX4_readRule 102 = .ok (.ifCond .ne 9, 3) := by decide +kernel
theorem dX4_readRule_105 : decode cX4_readRule 105 = .ok (.aload_n 0, 1) := by decide +kernel
theorem dX4_readRule_106 : decode cX4_readRule 106 = .ok (.iconst 1, 1) := by decide +kernel
theorem dX4_readRule_107 : decode cX4_readRule 107 = .ok (.invokevirtual 39, 3) := by decide +kernel
theorem dX4_readRule_110 : decode cX4_readRule 110 = .ok (.ireturn, 1) := by decide +kernel
theorem dX4_readRule_111 : decode cX4_readRule 111 = .ok (.aload_n 0, 1) := by decide +kernel
theorem dX4_readRule_112 : decode cX4_readRule 112 = .ok (.invokevirtual 25, 3) := by decide +kernel
theorem dX4_readRule_115 : decode cX4_readRule 115 = .ok (.aload_n 1, 1) := by decide +kernel
theorem dX4_readRule_116 : decode cX4_readRule 116 = .ok (.aload_n 3, 1) := by decide +kernel
theorem dX4_readRule_117 : decode cX4_readRule 117 = .ok (.invokevirtual 74, 3) := by decide +kernel
theorem dX4_readRule_120 : decode cX4_readRule 120 = .ok (.iconst 1, 1) := by decide +kernel
theorem dX4_readRule_121 : decode cX4_readRule 121 = .ok (.ireturn, 1) := by decide +kernel
theorem dX4_ruleSort_0 : decode cX4_ruleSort 0 = .ok (.aload_n 0, 1) := by decide +kernel
theorem dX4_ruleSort_1 : decode cX4_ruleSort 1 = .ok (.ldc 78, 2) := by decide +kernel
theorem dX4_ruleSort_3 : decode cX4_ruleSort 3 = .ok (.invokevirtual 80, 3) := by decide +kernel
theorem dX4_ruleSort_6 : decode cX4_ruleSort 6 = .ok (.ifCond .eq 5, 3) := by decide +kernel
theorem dX4_ruleSort_9 : decode cX4_ruleSort 9 = .ok (.iconst 0, 1) := by decide +kernel
theorem dX4_ruleSort_10 : decode cX4_ruleSort 10 = .ok (.ireturn, 1) := by decide +kernel
theorem dX4_ruleSort_11 : decode cX4_ruleSort 11 = .ok (.aload_n 0, 1) := by decide +kernel
theorem dX4_ruleSort_12 : decode cX4_ruleSort 12 = .ok (.ldc 84, 2) := by decide +kernel
theorem dX4_ruleSort_14 : decode cX4_ruleSort 14 = .ok (.invokevirtual 80, 3) := by decide +kernel
theorem dX4_ruleSort_17 : decode cX4_ruleSort 17 = .ok (.ifCond .eq 5, 3) := by decide +kernel
theorem dX4_ruleSort_20 : decode cX4_ruleSort 20 = .ok (.iconst 1, 1) := by decide +kernel
theorem dX4_ruleSort_21 : decode cX4_ruleSort 21 = .ok (.ireturn, 1) := by decide +kernel
theorem dX4_ruleSort_22 : decode cX4_ruleSort 22 = .ok (.aload_n 0, 1) := by decide +kernel
theorem dX4_ruleSort_23 : decode cX4_ruleSort 23 = .ok (.ldc 86, 2) := by decide +kernel
theorem dX4_ruleSort_25 : decode cX4_ruleSort 25 = .ok (.invokevirtual 80, 3) := by decide +kernel
theorem dX4_ruleSort_28 : decode cX4_ruleSort 28 = .ok (.ifCond .eq 7, 3) := by decide +kernel
theorem dX4_ruleSort_31 : decode cX4_ruleSort 31 = .ok (.iconst 2, 1) := by decide +kernel
theorem dX4_ruleSort_32 : decode cX4_ruleSort 32 = .ok (.goto 4, 3) := by decide +kernel
theorem dX4_ruleSort_35 : decode cX4_ruleSort 35 = .ok (.iconst (-1), 1) := by decide +kernel
theorem dX4_ruleSort_36 : decode cX4_ruleSort 36 = .ok (.ireturn, 1) := by decide +kernel
theorem dX4_readWhat_0 : decode cX4_readWhat 0 = .ok (.aload_n 1, 1) := by decide +kernel
theorem dX4_readWhat_1 : decode cX4_readWhat 1 = .ok (.aload_n 0, 1) := by decide +kernel
theorem dX4_readWhat_2 : decode cX4_readWhat 2 = .ok (.ldc 88, 2) := by decide +kernel
theorem dX4_readWhat_4 : decode cX4_readWhat 4 = .ok (.invokevirtual 80, 3) := by decide +kernel
theorem dX4_readWhat_7 : decode cX4_readWhat 7 = .ok (.ifCond .eq 8, 3) := by decide +kernel
theorem dX4_readWhat_10 : decode cX4_readWhat 10 = .ok (.bipush 15, 2) := by decide +kernel
theorem dX4_readWhat_12 : decode cX4_readWhat 12 = .ok (.goto 10, 3) := by decide +kernel
theorem dX4_readWhat_15 : decode cX4_readWhat 15 = .ok (.aload_n 0, 1) := by decide +kernel
theorem dX4_readWhat_16 : decode cX4_readWhat 16 = .ok (.bipush 107, 2) := by decide +kernel
theorem dX4_readWhat_18 : decode cX4_readWhat 18 = .ok (.iconst 4, 1) := by decide +kernel
theorem dX4_readWhat_19 : decode cX4_readWhat 19 = .ok (.invokevirtual 90, 3) := by decide +kernel
theorem dX4_readWhat_22 : decode cX4_readWhat 22 = .ok (.putfield 94, 3) := by decide +kernel
theorem dX4_readWhat_25 : decode cX4_readWhat 25 = .ok (.aload_n 1, 1) := by decide +kernel
theorem dX4_readWhat_26 : decode cX4_readWhat 26 = .ok (.getfield 94, 3) := by decide +kernel
theorem dX4_readWhat_29 : decode cX4_readWhat 29 = .ok (.ifCond .ne 9, 3) := by decide +kernel
theorem dX4_readWhat_32 : decode cX4_readWhat 32 = .ok (.aload_n 0, 1) := by decide +kernel
theorem dX4_readWhat_33 : decode cX4_readWhat 33 = .ok (.iconst 1, 1) := by decide +kernel
theorem dX4_readWhat_34 : decode cX4_readWhat 34 = .ok (.invokevirtual 39, 3) := by decide +kernel
theorem dX4_readWhat_37 : decode cX4_readWhat 37 = .ok (.ireturn, 1) := by decide +kernel
theorem dX4_readWhat_38 : decode cX4_readWhat 38 = .ok (.aload_n 0, 1) := by decide +kernel
theorem dX4_readWhat_39 : decode cX4_readWhat 39 = .ok (.invokevirtual 25, 3) := by decide +kernel
theorem dX4_readWhat_42 : decode cX4_readWhat 42 = .ok (.aload_n 1, 1) := by decide +kernel
theorem dX4_readWhat_43 : decode cX4_readWhat 43 = .ok (.aload_n 0, 1) := by decide +kernel
theorem dX4_readWhat_44 : decode cX4_readWhat 44 = .ok (.ldc 97, 2) := by decide +kernel
theorem dX4_readWhat_46 : decode cX4_readWhat 46 = .ok (.invokevirtual 80, 3) := by decide +kernel
theorem dX4_readWhat_49 : decode cX4_readWhat 49 = .ok (.ifCond .eq 9, 3) := by decide +kernel
theorem dX4_readWhat_52 : decode cX4_readWhat 52 = .ok (.sipush 255, 3) := by decide +kernel
theorem dX4_readWhat_55 : decode cX4_readWhat 55 = .ok (.goto 11, 3) := by decide +kernel
theorem dX4_readWhat_58 : decode cX4_readWhat 58 = .ok (.aload_n 0, 1) := by decide +kernel
theorem dX4_readWhat_59 : decode cX4_readWhat 59 = .ok (.bipush 102, 2) := by decide +kernel
theorem dX4_readWhat_61 : decode cX4_readWhat 61 = .ok (.bipush 8, 2) := by decide +kernel
theorem dX4_readWhat_63 : decode cX4_readWhat 63 = .ok (.invokevirtual 90, 3) := by decide +kernel
theorem dX4_readWhat_66 : decode cX4_readWhat 66 = .ok (.putfield 99, 3) := by decide +kernel
theorem dX4_readWhat_69 : decode cX4_readWhat 69 = .ok (.aload_n 1, 1) := by decide +kernel
theorem dX4_readWhat_70 : decode cX4_readWhat 70 = .ok (.getfield 99, 3) := by decide +kernel
theorem dX4_readWhat_73 : decode cX4_readWhat 73 = .ok (.ifCond .ne 9, 3) := by decide +kernel
theorem dX4_readWhat_76 : decode cX4_readWhat 76 = .ok (.aload_n 0, 1) := by decide +kernel
theorem dX4_readWhat_77 : decode cX4_readWhat 77 = .ok (.iconst 1, 1) := by decide +kernel
theorem dX4_readWhat_78 : decode cX4_readWhat 78 = .ok (.invokevirtual 39, 3) := by decide +kernel
theorem dX4_readWhat_81 : decode cX4_readWhat 81 = .ok (.ireturn, 1) := by decide +kernel
theorem dX4_readWhat_82 : decode cX4_readWhat 82 = .ok (.aload_n 0, 1) := by decide +kernel
theorem dX4_readWhat_83 : decode cX4_readWhat 83 = .ok (.invokevirtual 25, 3) := by decide +kernel
theorem dX4_readWhat_86 : decode cX4_readWhat 86 = .ok (.iconst 1, 1) := by decide +kernel
theorem dX4_readWhat_87 : decode cX4_readWhat 87 = .ok (.ireturn, 1) := by decide +kernel
theorem dX4_readTime_0 : decode cX4_readTime 0 = .ok (.aload_n 0, 1) := by decide +kernel
theorem dX4_readTime_1 : decode cX4_readTime 1 = .ok (.invokevirtual 102, 3) := by decide +kernel
theorem dX4_readTime_4 : decode cX4_readTime 4 = .ok (.ifCond .ne 5, 3) := by decide +kernel
theorem dX4_readTime_7 : decode cX4_readTime 7 = .ok (.iconst 0, 1) := by decide +kernel
theorem dX4_readTime_8 : decode cX4_readTime 8 = .ok (.ireturn, 1) := by decide +kernel
theorem dX4_readTime_9 : decode cX4_readTime 9 = .ok (.aload_n 1, 1) := by decide +kernel
theorem dX4_readTime_10 : decode cX4_readTime 10 = .ok (.aload_n 0, 1) := by decide +kernel
theorem dX4_readTime_11 : decode cX4_readTime 11 = .ok (.invokevirtual 105, 3) := by decide +kernel
theorem dX4_readTime_14 : decode cX4_readTime 14 = .ok (.putfield 108, 3) := by decide +kernel
theorem dX4_readTime_17 : decode cX4_readTime 17 = .ok (.aload_n 0, 1) := by decide +kernel
theorem dX4_readTime_18 : decode cX4_readTime 18 = .ok (.invokevirtual 25, 3) := by decide +kernel
theorem dX4_readTime_21 : decode cX4_readTime 21 = .ok (.aload_n 0, 1) := by decide +kernel
theorem dX4_readTime_22 : decode cX4_readTime 22 = .ok (.ldc 111, 2) := by decide +kernel
theorem dX4_readTime_24 : decode cX4_readTime 24 = .ok (.invokevirtual 80, 3) := by decide +kernel
theorem dX4_readTime_27 : decode cX4_readTime 27 = .ok (.ifCond .ne 27, 3) := by decide +kernel
theorem dX4_readTime_30 : decode cX4_readTime 30 = .ok (.aload_n 0, 1) := by decide +kernel
theorem dX4_readTime_31 : decode cX4_readTime 31 = .ok (.ldc 113, 2) := by decide +kernel
theorem dX4_readTime_33 : decode cX4_readTime 33 = .ok (.invokevirtual 80, 3) := by decide +kernel
theorem dX4_readTime_36 : decode cX4_readTime 36 = .ok (.ifCond .ne 18, 3) := by decide +kernel
theorem dX4_readTime_39 : decode cX4_readTime 39 = .ok (.aload_n 0, 1) := by decide +kernel
theorem dX4_readTime_40 : decode cX4_readTime 40 = .ok (.ldc 115, 2) := by decide +kernel
theorem dX4_readTime_42 : decode cX4_readTime 42 = .ok (.invokevirtual 80, 3) := by decide +kernel
theorem dX4_readTime_45 : decode cX4_readTime 45 = .ok (.ifCond .ne 9, 3) := by decide +kernel
theorem dX4_readTime_48 : decode cX4_readTime 48 = .ok (.aload_n 0, 1) := by decide +kernel
theorem dX4_readTime_49 : decode cX4_readTime 49 = .ok (.iconst 1, 1) := by decide +kernel
theorem dX4_readTime_50 : decode cX4_readTime 50 = .ok (.invokevirtual 39, 3) := by decide +kernel
theorem dX4_readTime_53 : decode cX4_readTime 53 = .ok (.ireturn, 1) := by decide +kernel
theorem dX4_readTime_54 : decode cX4_readTime 54 = .ok (.aload_n 1, 1) := by decide +kernel
theorem dX4_readTime_55 : decode cX4_readTime 55 = .ok (.aload_n 0, 1) := by decide +kernel
theorem dX4_readTime_56 : decode cX4_readTime 56 = .ok (.ldc 115, 2) := by decide +kernel
theorem dX4_readTime_58 : decode cX4_readTime 58 = .ok (.invokevirtual 80, 3) := by decide +kernel
theorem dX4_readTime_61 : decode cX4_readTime 61 = .ok (.ifCond .eq 8, 3) := by decide +kernel
theorem dX4_readTime_64 : decode cX4_readTime 64 = .ok (.bipush 12, 2) := by decide +kernel
theorem dX4_readTime_66 : decode cX4_readTime 66 = .ok (.goto 17, 3) := by decide +kernel
theorem dX4_readTime_69 : decode cX4_readTime 69 = .ok (.aload_n 0, 1) := by decide +kernel
theorem dX4_readTime_70 : decode cX4_readTime 70 = .ok (.ldc 113, 2) := by decide +kernel
theorem dX4_readTime_72 : decode cX4_readTime 72 = .ok (.invokevirtual 80, 3) := by decide +kernel
theorem dX4_readTime_75 : decode cX4_readTime 75 = .ok (.ifCond .eq 7, 3) := by decide +kernel
theorem dX4_readTime_78 : decode cX4_readTime 78 = .ok (.iconst 1, 1) := by decide +kernel
theorem dX4_readTime_79 : decode cX4_readTime 79 = .ok (.goto 4, 3) := by decide +kernel
theorem dX4_readTime_82 : decode cX4_readTime 82 = .ok (.iconst 0, 1) := by decide +kernel
theorem dX4_readTime_83 : decode cX4_readTime 83 = .ok (.putfield 117, 3) := by decide +kernel
theorem dX4_readTime_86 : decode cX4_readTime 86 = .ok (.aload_n 0, 1) := by decide +kernel
theorem dX4_readTime_87 : decode cX4_readTime 87 = .ok (.invokevirtual 25, 3) := by decide +kernel
theorem dX4_readTime_90 : decode cX4_readTime 90 = .ok (.aload_n 0, 1) := by decide +kernel
theorem dX4_readTime_91 : decode cX4_readTime 91 = .ok (.ldc 120, 2) := by decide +kernel
theorem dX4_readTime_93 : decode cX4_readTime 93 = .ok (.invokevirtual 80, 3) := by decide +kernel
theorem dX4_readTime_96 : decode cX4_readTime 96 = .ok (.ifCond .ne 9, 3) := by decide +kernel
theorem dX4_readTime_99 : decode cX4_readTime 99 = .ok (.aload_n 0, 1) := by decide +kernel
theorem dX4_readTime_100 : decode cX4_readTime 100 = .ok (.iconst 1, 1) := by decide +kernel
theorem dX4_readTime_101 : decode cX4_readTime 101 = .ok (.invokevirtual 39, 3) := by decide +kernel
theorem dX4_readTime_104 : decode cX4_readTime 104 = .ok (.ireturn, 1) := by decide +kernel
theorem dX4_readTime_105 : decode cX4_readTime 105 = .ok (.aload_n 0, 1) := by decide +kernel
theorem dX4_readTime_106 : decode cX4_readTime 106 = .ok (.invokevirtual 25, 3) := by decide +kernel
theorem dX4_readTime_109 : decode cX4_readTime 109 = .ok (.aload_n 1, 1) := by decide +kernel
theorem dX4_readTime_110 : decode cX4_readTime 110 = .ok (.aload_n 0, 1) := by decide +kernel
theorem dX4_readTime_111 : decode cX4_readTime 111 = .ok (.bipush 101, 2) := by decide +kernel
theorem dX4_readTime_113 : decode cX4_readTime 113 = .ok (.iconst 4, 1) := by decide +kernel
theorem dX4_readTime_114 : decode cX4_readTime 114 = .ok (.invokevirtual 122, 3) := by decide +kernel
theorem dX4_readTime_117 : decode cX4_readTime 117 = .ok (.putfield 125, 3) := by decide +kernel
theorem dX4_readTime_120 : decode cX4_readTime 120 = .ok (.aload_n 1, 1) := by decide +kernel
theorem dX4_readTime_121 : decode cX4_readTime 121 = .ok (.getfield 125, 3) := by decide +kernel
theorem dX4_readTime_124 : decode cX4_readTime 124 = .ok (.iconst (-1), 1) := by decide +kernel
theorem dX4_readTime_125 : decode cX4_readTime 125 = .ok (.if_icmp .ne 9, 3) := by decide +kernel
theorem dX4_readTime_128 : decode cX4_readTime 128 = .ok (.aload_n 0, 1) := by decide +kernel
theorem dX4_readTime_129 : decode cX4_readTime 129 = .ok (.iconst 1, 1) := by decide +kernel
theorem dX4_readTime_130 : decode cX4_readTime 130 = .ok (.invokevirtual 39, 3) := by decide +kernel
theorem dX4_readTime_133 : decode cX4_readTime 133 = .ok (.ireturn, 1) := by decide +kernel
theorem dX4_readTime_134 : decode cX4_readTime 134 = .ok (.aload_n 0, 1) := by decide +kernel
theorem dX4_readTime_135 : decode cX4_readTime 135 = .ok (.invokevirtual 25, 3) := by decide +kernel
theorem dX4_readTime_138 : decode cX4_readTime 138 = .ok (.iconst 1, 1) := by decide +kernel
theorem dX4_readTime_139 : decode cX4_readTime 139 = .ok (.ireturn, 1) := by decide +kernel
theorem dX4_readStores_0 : decode cX4_readStores 0 = .ok (.aload_n 0, 1) := by decide +kernel
theorem dX4_readStores_1 : decode cX4_readStores 1 = .ok (.bipush 115, 2) := by decide +kernel
theorem dX4_readStores_3 : decode cX4_readStores 3 = .ok (.iconst 4, 1) := by decide +kernel
theorem dX4_readStores_4 : decode cX4_readStores 4 = .ok (.invokevirtual 90, 3) := by decide +kernel
theorem dX4_readStores_7 : decode cX4_readStores 7 = .ok (.istore_n 2, 1) := by decide +kernel
theorem dX4_readStores_8 : decode cX4_readStores 8 = .ok (.iload_n 2, 1) := by decide +kernel
theorem dX4_readStores_9 : decode cX4_readStores 9 = .ok (.ifCond .ne 9, 3) := by decide +kernel
theorem dX4_readStores_12 : decode cX4_readStores 12 = .ok (.aload_n 0, 1) := by decide +kernel
theorem dX4_readStores_13 : decode cX4_readStores 13 = .ok (.iconst 1, 1) := by decide +kernel
theorem dX4_readStores_14 : decode cX4_readStores 14 = .ok (.invokevirtual 39, 3) := by decide +kernel
theorem dX4_readStores_17 : decode cX4_readStores 17 = .ok (.ireturn, 1) := by decide +kernel
theorem dX4_readStores_18 : decode cX4_readStores 18 = .ok (.iconst 0, 1) := by decide +kernel
theorem dX4_readStores_19 : decode cX4_readStores 19 = .ok (.istore_n 3, 1) := by decide +kernel
theorem dX4_readStores_20 : decode cX4_readStores 20 = .ok (.iload_n 3, 1) := by decide +kernel
theorem dX4_readStores_21 : decode cX4_readStores 21 = .ok (.iconst 4, 1) := by decide +kernel
theorem dX4_readStores_22 : decode cX4_readStores 22 = .ok (.if_icmp .gt 50, 3) := by decide +kernel
theorem dX4_readStores_25 : decode cX4_readStores 25 = .ok (.iload_n 2, 1) := by decide +kernel
theorem dX4_readStores_26 : decode cX4_readStores 26 = .ok (.ifCond .eq 46, 3) := by decide +kernel
theorem dX4_readStores_29 : decode cX4_readStores 29 = .ok (.aload_n 1, 1) := by decide +kernel
theorem dX4_readStores_30 : decode cX4_readStores 30 = .ok (.getfield 128, 3) := by decide +kernel
theorem dX4_readStores_33 : decode cX4_readStores 33 = .ok (.iload_n 2, 1) := by decide +kernel
theorem dX4_readStores_34 : decode cX4_readStores 34 = .ok (.iand, 1) := by decide +kernel
theorem dX4_readStores_35 : decode cX4_readStores 35 = .ok (.ifCond .eq 9, 3) := by decide +kernel
theorem dX4_readStores_38 : decode cX4_readStores 38 = .ok (.aload_n 0, 1) := by decide +kernel
theorem dX4_readStores_39 : decode cX4_readStores 39 = .ok (.iconst 3, 1) := by decide +kernel
theorem dX4_readStores_40 : decode cX4_readStores 40 = .ok (.invokevirtual 39, 3) := by decide +kernel
theorem dX4_readStores_43 : decode cX4_readStores 43 = .ok (.ireturn, 1) := by decide +kernel
theorem dX4_readStores_44 : decode cX4_readStores 44 = .ok (.aload_n 1, 1) := by decide +kernel
theorem dX4_readStores_45 : decode cX4_readStores 45 = .ok (.dup, 1) := by decide +kernel
theorem dX4_readStores_46 : decode cX4_readStores 46 = .ok (.getfield 128, 3) := by decide +kernel
theorem dX4_readStores_49 : decode cX4_readStores 49 = .ok (.iload_n 2, 1) := by decide +kernel
theorem dX4_readStores_50 : decode cX4_readStores 50 = .ok (.ior, 1) := by decide +kernel
theorem dX4_readStores_51 : decode cX4_readStores 51 = .ok (.putfield 128, 3) := by decide +kernel
theorem dX4_readStores_54 : decode cX4_readStores 54 = .ok (.aload_n 0, 1) := by decide +kernel
theorem dX4_readStores_55 : decode cX4_readStores 55 = .ok (.invokevirtual 25, 3) := by decide +kernel
theorem dX4_readStores_58 : decode cX4_readStores 58 = .ok (.aload_n 0, 1) := by decide +kernel
theorem dX4_readStores_59 : decode cX4_readStores 59 = .ok (.bipush 115, 2) := by decide +kernel
theorem dX4_readStores_61 : decode cX4_readStores 61 = .ok (.iconst 4, 1) := by decide +kernel
theorem dX4_readStores_62 : decode cX4_readStores 62 = .ok (.invokevirtual 90, 3) := by decide +kernel
theorem dX4_readStores_65 : decode cX4_readStores 65 = .ok (.istore_n 2, 1) := by decide +kernel
theorem dX4_readStores_66 : decode cX4_readStores 66 = .ok (.iinc 3 1, 3) := by decide +kernel
theorem dX4_readStores_69 : decode cX4_readStores 69 = .ok (.goto (-49), 3) := by decide +kernel
theorem dX4_readStores_72 : decode cX4_readStores 72 = .ok (.iconst 1, 1) := by decide +kernel
theorem dX4_readStores_73 : decode cX4_readStores 73 = .ok (.ireturn, 1) := by decide +kernel
theorem dX4_readTests_0 : decode cX4_readTests 0 = .ok (.aload_n 0, 1) := by decide +kernel
theorem dX4_readTests_1 : decode cX4_readTests 1 = .ok (.ldc 131, 2) := by decide +kernel
theorem dX4_readTests_3 : decode cX4_readTests 3 = .ok (.invokevirtual 80, 3) := by decide +kernel
theorem dX4_readTests_6 : decode cX4_readTests 6 = .ok (.istore_n 2, 1) := by decide +kernel
theorem dX4_readTests_7 : decode cX4_readTests 7 = .ok (.iconst 0, 1) := by decide +kernel
theorem dX4_readTests_8 : decode cX4_readTests 8 = .ok (.istore_n 3, 1) := by decide +kernel
theorem dX4_readTests_9 : decode cX4_readTests 9 = .ok (.iload_n 3, 1) := by decide +kernel
theorem dX4_readTests_10 : decode cX4_readTests 10 = .ok (.iconst 4, 1) := by decide +kernel
theorem dX4_readTests_11 : decode cX4_readTests 11 = .ok (.if_icmp .gt 34, 3) := by decide +kernel
theorem dX4_readTests_14 : decode cX4_readTests 14 = .ok (.iload_n 2, 1) := by decide +kernel
theorem dX4_readTests_15 : decode cX4_readTests 15 = .ok (.ifCond .eq 30, 3) := by decide +kernel
theorem dX4_readTests_18 : decode cX4_readTests 18 = .ok (.aload_n 0, 1) := by decide +kernel
theorem dX4_readTests_19 : decode cX4_readTests 19 = .ok (.invokevirtual 25, 3) := by decide +kernel
theorem dX4_readTests_22 : decode cX4_readTests 22 = .ok (.aload_n 0, 1) := by decide +kernel
theorem dX4_readTests_23 : decode cX4_readTests 23 = .ok (.aload_n 1, 1) := by decide +kernel
theorem dX4_readTests_24 : decode cX4_readTests 24 = .ok (.invokevirtual 133, 3) := by decide +kernel
theorem dX4_readTests_27 : decode cX4_readTests 27 = .ok (.ifCond .ne 5, 3) := by decide +kernel
theorem dX4_readTests_30 : decode cX4_readTests 30 = .ok (.iconst 0, 1) := by decide +kernel
theorem dX4_readTests_31 : decode cX4_readTests 31 = .ok (.ireturn, 1) := by decide +kernel
theorem dX4_readTests_32 : decode cX4_readTests 32 = .ok (.aload_n 0, 1) := by decide +kernel
theorem dX4_readTests_33 : decode cX4_readTests 33 = .ok (.ldc 136, 2) := by decide +kernel
theorem dX4_readTests_35 : decode cX4_readTests 35 = .ok (.invokevirtual 80, 3) := by decide +kernel
theorem dX4_readTests_38 : decode cX4_readTests 38 = .ok (.istore_n 2, 1) := by decide +kernel
theorem dX4_readTests_39 : decode cX4_readTests 39 = .ok (.iinc 3 1, 3) := by decide +kernel
theorem dX4_readTests_42 : decode cX4_readTests 42 = .ok (.goto (-33), 3) := by decide +kernel
theorem dX4_readTests_45 : decode cX4_readTests 45 = .ok (.iconst 1, 1) := by decide +kernel
theorem dX4_readTests_46 : decode cX4_readTests 46 = .ok (.ireturn, 1) := by decide +kernel
theorem dX4_readTest_0 : decode cX4_readTest 0 = .ok (.aload_n 0, 1) := by decide +kernel
theorem dX4_readTest_1 : decode cX4_readTest 1 = .ok (.bipush 97, 2) := by decide +kernel
theorem dX4_readTest_3 : decode cX4_readTest 3 = .ok (.iconst 4, 1) := by decide +kernel
theorem dX4_readTest_4 : decode cX4_readTest 4 = .ok (.invokevirtual 122, 3) := by decide +kernel
theorem dX4_readTest_7 : decode cX4_readTest 7 = .ok (.istore_n 2, 1) := by decide +kernel
theorem dX4_readTest_8 : decode cX4_readTest 8 = .ok (.iload_n 2, 1) := by decide +kernel
theorem dX4_readTest_9 : decode cX4_readTest 9 = .ok (.iconst (-1), 1) := by decide +kernel
theorem dX4_readTest_10 : decode cX4_readTest 10 = .ok (.if_icmp .ne 9, 3) := by decide +kernel
theorem dX4_readTest_13 : decode cX4_readTest 13 = .ok (.aload_n 0, 1) := by decide +kernel
theorem dX4_readTest_14 : decode cX4_readTest 14 = .ok (.iconst 1, 1) := by decide +kernel
theorem dX4_readTest_15 : decode cX4_readTest 15 = .ok (.invokevirtual 39, 3) := by decide +kernel
theorem dX4_readTest_18 : decode cX4_readTest 18 = .ok (.ireturn, 1) := by decide +kernel
theorem dX4_readTest_19 : decode cX4_readTest 19 = .ok (.aload_n 1, 1) := by decide +kernel
theorem dX4_readTest_20 : decode cX4_readTest 20 = .ok (.getfield 138, 3) := by decide +kernel
theorem dX4_readTest_23 : decode cX4_readTest 23 = .ok (.istore_n 3, 1) := by decide +kernel
theorem dX4_readTest_24 : decode cX4_readTest 24 = .ok (.iload_n 3, 1) := by decide +kernel
theorem dX4_readTest_25 : decode cX4_readTest 25 = .ok (.iconst 4, 1) := by decide +kernel
theorem dX4_readTest_26 : decode cX4_readTest 26 = .ok (.if_icmp .lt 9, 3) := by decide +kernel
theorem dX4_readTest_29 : decode cX4_readTest 29 = .ok (.aload_n 0, 1) := by decide +kernel
theorem dX4_readTest_30 : decode cX4_readTest 30 = .ok (.iconst 2, 1) := by decide +kernel
theorem dX4_readTest_31 : decode cX4_readTest 31 = .ok (.invokevirtual 39, 3) := by decide +kernel
theorem dX4_readTest_34 : decode cX4_readTest 34 = .ok (.ireturn, 1) := by decide +kernel
theorem dX4_readTest_35 : decode cX4_readTest 35 = .ok (.aload_n 0, 1) := by decide +kernel
theorem dX4_readTest_36 : decode cX4_readTest 36 = .ok (.invokevirtual 25, 3) := by decide +kernel
theorem dX4_readTest_39 : decode cX4_readTest 39 = .ok (.aload_n 0, 1) := by decide +kernel
theorem dX4_readTest_40 : decode cX4_readTest 40 = .ok (.bipush 61, 2) := by decide +kernel
theorem dX4_readTest_42 : decode cX4_readTest 42 = .ok (.invokevirtual 70, 3) := by decide +kernel
theorem dX4_readTest_45 : decode cX4_readTest 45 = .ok (.ifCond .ne 18, 3) := by decide +kernel
theorem dX4_readTest_48 : decode cX4_readTest 48 = .ok (.aload_n 0, 1) := by decide +kernel
theorem dX4_readTest_49 : decode cX4_readTest 49 = .ok (.bipush 60, 2) := by decide +kernel
theorem dX4_readTest_51 : decode cX4_readTest 51 = .ok (.invokevirtual 70, 3) := by decide +kernel
theorem dX4_readTest_54 : decode cX4_readTest 54 = .ok (.ifCond .ne 9, 3) := by decide +kernel
theorem dX4_readTest_57 : decode cX4_readTest 57 = .ok (.aload_n 0, 1) := by decide +kernel
theorem dX4_readTest_58 : decode cX4_readTest 58 = .ok (.iconst 1, 1) := by decide +kernel
theorem dX4_readTest_59 : decode cX4_readTest 59 = .ok (.invokevirtual 39, 3) := by decide +kernel
theorem dX4_readTest_62 : decode cX4_readTest 62 = .ok (.ireturn, 1) := by decide +kernel
theorem dX4_readTest_63 : decode cX4_readTest 63 = .ok (.aload_n 1, 1) := by decide +kernel
theorem dX4_readTest_64 : decode cX4_readTest 64 = .ok (.getfield 141, 3) := by decide +kernel
theorem dX4_readTest_67 : decode cX4_readTest 67 = .ok (.iload_n 3, 1) := by decide +kernel
theorem dX4_readTest_68 : decode cX4_readTest 68 = .ok (.iload_n 2, 1) := by decide +kernel
theorem dX4_readTest_69 : decode cX4_readTest 69 = .ok (.iastore, 1) := by decide +kernel
theorem dX4_readTest_70 : decode cX4_readTest 70 = .ok (.aload_n 1, 1) := by decide +kernel
theorem dX4_readTest_71 : decode cX4_readTest 71 = .ok (.getfield 145, 3) := by decide +kernel
theorem dX4_readTest_74 : decode cX4_readTest 74 = .ok (.iload_n 3, 1) := by decide +kernel
theorem dX4_readTest_75 : decode cX4_readTest 75 = .ok (.aload_n 0, 1) := by decide +kernel
theorem dX4_readTest_76 : decode cX4_readTest 76 = .ok (.bipush 60, 2) := by decide +kernel
theorem dX4_readTest_78 : decode cX4_readTest 78 = .ok (.invokevirtual 70, 3) := by decide +kernel
theorem dX4_readTest_81 : decode cX4_readTest 81 = .ok (.bastore, 1) := by decide +kernel
theorem dX4_readTest_82 : decode cX4_readTest 82 = .ok (.aload_n 0, 1) := by decide +kernel
theorem dX4_readTest_83 : decode cX4_readTest 83 = .ok (.invokevirtual 25, 3) := by decide +kernel
theorem dX4_readTest_86 : decode cX4_readTest 86 = .ok (.aload_n 0, 1) := by decide +kernel
theorem dX4_readTest_87 : decode cX4_readTest 87 = .ok (.invokevirtual 102, 3) := by decide +kernel
theorem dX4_readTest_90 : decode cX4_readTest 90 = .ok (.ifCond .ne 5, 3) := by decide +kernel
theorem dX4_readTest_93 : decode cX4_readTest 93 = .ok (.iconst 0, 1) := by decide +kernel
theorem dX4_readTest_94 : decode cX4_readTest 94 = .ok (.ireturn, 1) := by decide +kernel
theorem dX4_readTest_95 : decode cX4_readTest 95 = .ok (.aload_n 1, 1) := by decide +kernel
theorem dX4_readTest_96 : decode cX4_readTest 96 = .ok (.getfield 149, 3) := by decide +kernel
theorem dX4_readTest_99 : decode cX4_readTest 99 = .ok (.iload_n 3, 1) := by decide +kernel
theorem dX4_readTest_100 : decode cX4_readTest 100 = .ok (.aload_n 0, 1) := by decide +kernel
theorem dX4_readTest_101 : decode cX4_readTest 101 = .ok (.invokevirtual 105, 3) := by decide +kernel
theorem dX4_readTest_104 : decode cX4_readTest 104 = .ok (.iastore, 1) := by decide +kernel
theorem dX4_readTest_105 : decode cX4_readTest 105 = .ok (.aload_n 1, 1) := by decide +kernel
theorem dX4_readTest_106 : decode cX4_readTest 106 = .ok (.dup, 1) := by decide +kernel
theorem dX4_readTest_107 : decode cX4_readTest 107 = .ok (.getfield 138, 3) := by decide +kernel
theorem dX4_readTest_110 : decode cX4_readTest 110 = .ok (.iconst 1, 1) := by decide +kernel
theorem dX4_readTest_111 : decode cX4_readTest 111 = .ok (.iadd, 1) := by decide +kernel
theorem dX4_readTest_112 : decode cX4_readTest 112 = .ok (.putfield 138, 3) := by decide +kernel
theorem dX4_readTest_115 : decode cX4_readTest 115 = .ok (.aload_n 0, 1) := by decide +kernel
theorem dX4_readTest_116 : decode cX4_readTest 116 = .ok (.invokevirtual 25, 3) := by decide +kernel
theorem dX4_readTest_119 : decode cX4_readTest 119 = .ok (.iconst 1, 1) := by decide +kernel
theorem dX4_readTest_120 : decode cX4_readTest 120 = .ok (.ireturn, 1) := by decide +kernel
theorem dX4_readRank_0 : decode cX4_readRank 0 = .ok (.aload_n 0, 1) := by decide +kernel
theorem dX4_readRank_1 : decode cX4_readRank 1 = .ok (.ldc 152, 2) := by decide +kernel
theorem dX4_readRank_3 : decode cX4_readRank 3 = .ok (.invokevirtual 80, 3) := by decide +kernel
theorem dX4_readRank_6 : decode cX4_readRank 6 = .ok (.ifCond .ne 5, 3) := by decide +kernel
theorem dX4_readRank_9 : decode cX4_readRank 9 = .ok (.iconst 1, 1) := by decide +kernel
theorem dX4_readRank_10 : decode cX4_readRank 10 = .ok (.ireturn, 1) := by decide +kernel
theorem dX4_readRank_11 : decode cX4_readRank 11 = .ok (.aload_n 0, 1) := by decide +kernel
theorem dX4_readRank_12 : decode cX4_readRank 12 = .ok (.invokevirtual 25, 3) := by decide +kernel
theorem dX4_readRank_15 : decode cX4_readRank 15 = .ok (.aload_n 0, 1) := by decide +kernel
theorem dX4_readRank_16 : decode cX4_readRank 16 = .ok (.invokevirtual 102, 3) := by decide +kernel
theorem dX4_readRank_19 : decode cX4_readRank 19 = .ok (.ifCond .ne 5, 3) := by decide +kernel
theorem dX4_readRank_22 : decode cX4_readRank 22 = .ok (.iconst 0, 1) := by decide +kernel
theorem dX4_readRank_23 : decode cX4_readRank 23 = .ok (.ireturn, 1) := by decide +kernel
theorem dX4_readRank_24 : decode cX4_readRank 24 = .ok (.aload_n 1, 1) := by decide +kernel
theorem dX4_readRank_25 : decode cX4_readRank 25 = .ok (.aload_n 0, 1) := by decide +kernel
theorem dX4_readRank_26 : decode cX4_readRank 26 = .ok (.invokevirtual 105, 3) := by decide +kernel
theorem dX4_readRank_29 : decode cX4_readRank 29 = .ok (.putfield 154, 3) := by decide +kernel
theorem dX4_readRank_32 : decode cX4_readRank 32 = .ok (.aload_n 0, 1) := by decide +kernel
theorem dX4_readRank_33 : decode cX4_readRank 33 = .ok (.invokevirtual 25, 3) := by decide +kernel
theorem dX4_readRank_36 : decode cX4_readRank 36 = .ok (.iconst 1, 1) := by decide +kernel
theorem dX4_readRank_37 : decode cX4_readRank 37 = .ok (.ireturn, 1) := by decide +kernel
theorem dX4_checkNumber_0 : decode cX4_checkNumber 0 = .ok (.aload_n 0, 1) := by decide +kernel
theorem dX4_checkNumber_1 : decode cX4_checkNumber 1 = .ok (.getfield 28, 3) := by decide +kernel
theorem dX4_checkNumber_4 : decode cX4_checkNumber 4 = .ok (.iconst 2, 1) := by decide +kernel
theorem dX4_checkNumber_5 : decode cX4_checkNumber 5 = .ok (.if_icmp .eq 9, 3) := by decide +kernel
theorem dX4_checkNumber_8 : decode cX4_checkNumber 8 = .ok (.aload_n 0, 1) := by decide +kernel
theorem dX4_checkNumber_9 : decode cX4_checkNumber 9 = .ok (.iconst 1, 1) := by decide +kernel
theorem dX4_checkNumber_10 : decode cX4_checkNumber 10 = .ok (.invokevirtual 39, 3) := by decide +kernel
theorem dX4_checkNumber_13 : decode cX4_checkNumber 13 = .ok (.ireturn, 1) := by decide +kernel
theorem dX4_checkNumber_14 : decode cX4_checkNumber 14 = .ok (.aload_n 0, 1) := by decide +kernel
theorem dX4_checkNumber_15 : decode cX4_checkNumber 15 = .ok (.getfield 156, 3) := by decide +kernel
theorem dX4_checkNumber_18 : decode cX4_checkNumber 18 = .ok (.aload_n 0, 1) := by decide +kernel
theorem dX4_checkNumber_19 : decode cX4_checkNumber 19 = .ok (.getfield 158, 3) := by decide +kernel
theorem dX4_checkNumber_22 : decode cX4_checkNumber 22 = .ok (.isub, 1) := by decide +kernel
theorem dX4_checkNumber_23 : decode cX4_checkNumber 23 = .ok (.iconst 4, 1) := by decide +kernel
theorem dX4_checkNumber_24 : decode cX4_checkNumber 24 = .ok (.if_icmp .le 11, 3) := by decide +kernel
theorem dX4_checkNumber_27 : decode cX4_checkNumber 27 = .ok (.aload_n 0, 1) := by decide +kernel
theorem dX4_checkNumber_28 : decode cX4_checkNumber 28 = .ok (.iconst 2, 1) := by decide +kernel
theorem dX4_checkNumber_29 : decode cX4_checkNumber 29 = .ok (.invokevirtual 39, 3) := by decide +kernel
theorem dX4_checkNumber_32 : decode cX4_checkNumber 32 = .ok (.ifCond .eq 7, 3) := by decide +kernel
theorem dX4_checkNumber_35 : decode cX4_checkNumber 35 = .ok (.iconst 1, 1) := by decide +kernel
theorem dX4_checkNumber_36 : decode cX4_checkNumber 36 = .ok (.goto 4, 3) := by decide +kernel
theorem dX4_checkNumber_39 : decode cX4_checkNumber 39 = .ok (.iconst 0, 1) := by decide +kernel
theorem dX4_checkNumber_40 : decode cX4_checkNumber 40 = .ok (.ireturn, 1) := by decide +kernel
theorem dX4_number_0 : decode cX4_number 0 = .ok (.iconst 0, 1) := by decide +kernel
theorem dX4_number_1 : decode cX4_number 1 = .ok (.istore_n 1, 1) := by decide +kernel
theorem dX4_number_2 : decode cX4_number 2 = .ok (.aload_n 0, 1) := by decide +kernel
theorem dX4_number_3 : decode cX4_number 3 = .ok (.getfield 158, 3) := by decide +kernel
theorem dX4_number_6 : decode cX4_number 6 = .ok (.istore_n 2, 1) := by decide +kernel
theorem dX4_number_7 : decode cX4_number 7 = .ok (.iload_n 2, 1) := by decide +kernel
theorem dX4_number_8 : decode cX4_number 8 = .ok (.aload_n 0, 1) := by decide +kernel
theorem dX4_number_9 : decode cX4_number 9 = .ok (.getfield 156, 3) := by decide +kernel
theorem dX4_number_12 : decode cX4_number 12 = .ok (.if_icmp .ge 24, 3) := by decide +kernel
theorem dX4_number_15 : decode cX4_number 15 = .ok (.iload_n 1, 1) := by decide +kernel
theorem dX4_number_16 : decode cX4_number 16 = .ok (.bipush 10, 2) := by decide +kernel
theorem dX4_number_18 : decode cX4_number 18 = .ok (.imul, 1) := by decide +kernel
theorem dX4_number_19 : decode cX4_number 19 = .ok (.aload_n 0, 1) := by decide +kernel
theorem dX4_number_20 : decode cX4_number 20 = .ok (.getfield 9, 3) := by decide +kernel
theorem dX4_number_23 : decode cX4_number 23 = .ok (.iload_n 2, 1) := by decide +kernel
theorem dX4_number_24 : decode cX4_number 24 = .ok (.baload, 1) := by decide +kernel
theorem dX4_number_25 : decode cX4_number 25 = .ok (.iadd, 1) := by decide +kernel
theorem dX4_number_26 : decode cX4_number 26 = .ok (.bipush 48, 2) := by decide +kernel
theorem dX4_number_28 : decode cX4_number 28 = .ok (.isub, 1) := by decide +kernel
theorem dX4_number_29 : decode cX4_number 29 = .ok (.istore_n 1, 1) := by decide +kernel
theorem dX4_number_30 : decode cX4_number 30 = .ok (.iinc 2 1, 3) := by decide +kernel
theorem dX4_number_33 : decode cX4_number 33 = .ok (.goto (-26), 3) := by decide +kernel
theorem dX4_number_36 : decode cX4_number 36 = .ok (.iload_n 1, 1) := by decide +kernel
theorem dX4_number_37 : decode cX4_number 37 = .ok (.ireturn, 1) := by decide +kernel
theorem dX4_fail_0 : decode cX4_fail 0 = .ok (.aload_n 0, 1) := by decide +kernel
theorem dX4_fail_1 : decode cX4_fail 1 = .ok (.iload_n 1, 1) := by decide +kernel
theorem dX4_fail_2 : decode cX4_fail 2 = .ok (.putfield 161, 3) := by decide +kernel
theorem dX4_fail_5 : decode cX4_fail 5 = .ok (.aload_n 0, 1) := by decide +kernel
theorem dX4_fail_6 : decode cX4_fail 6 = .ok (.aload_n 0, 1) := by decide +kernel
theorem dX4_fail_7 : decode cX4_fail 7 = .ok (.getfield 158, 3) := by decide +kernel
theorem dX4_fail_10 : decode cX4_fail 10 = .ok (.putfield 164, 3) := by decide +kernel
theorem dX4_fail_13 : decode cX4_fail 13 = .ok (.iconst 0, 1) := by decide +kernel
theorem dX4_fail_14 : decode cX4_fail 14 = .ok (.ireturn, 1) := by decide +kernel
theorem dX4_isWord_0 : decode cX4_isWord 0 = .ok (.aload_n 0, 1) := by decide +kernel
theorem dX4_isWord_1 : decode cX4_isWord 1 = .ok (.getfield 28, 3) := by decide +kernel
theorem dX4_isWord_4 : decode cX4_isWord 4 = .ok (.iconst 1, 1) := by decide +kernel
theorem dX4_isWord_5 : decode cX4_isWord 5 = .ok (.if_icmp .ne 19, 3) := by decide +kernel
theorem dX4_isWord_8 : decode cX4_isWord 8 = .ok (.aload_n 0, 1) := by decide +kernel
theorem dX4_isWord_9 : decode cX4_isWord 9 = .ok (.getfield 156, 3) := by decide +kernel
theorem dX4_isWord_12 : decode cX4_isWord 12 = .ok (.aload_n 0, 1) := by decide +kernel
theorem dX4_isWord_13 : decode cX4_isWord 13 = .ok (.getfield 158, 3) := by decide +kernel
theorem dX4_isWord_16 : decode cX4_isWord 16 = .ok (.isub, 1) := by decide +kernel
theorem dX4_isWord_17 : decode cX4_isWord 17 = .ok (.aload_n 1, 1) := by decide +kernel
theorem dX4_isWord_18 : decode cX4_isWord 18 = .ok (.invokevirtual 167, 3) := by decide +kernel
theorem dX4_isWord_21 : decode cX4_isWord 21 = .ok (.if_icmp .eq 5, 3) := by decide +kernel
theorem dX4_isWord_24 : decode cX4_isWord 24 = .ok (.iconst 0, 1) := by decide +kernel
theorem dX4_isWord_25 : decode cX4_isWord 25 = .ok (.ireturn, 1) := by decide +kernel
theorem dX4_isWord_26 : decode cX4_isWord 26 = .ok (.iconst 0, 1) := by decide +kernel
theorem dX4_isWord_27 : decode cX4_isWord 27 = .ok (.istore_n 2, 1) := by decide +kernel
theorem dX4_isWord_28 : decode cX4_isWord 28 = .ok (.iload_n 2, 1) := by decide +kernel
theorem dX4_isWord_29 : decode cX4_isWord 29 = .ok (.aload_n 1, 1) := by decide +kernel
theorem dX4_isWord_30 : decode cX4_isWord 30 = .ok (.invokevirtual 167, 3) := by decide +kernel
theorem dX4_isWord_33 : decode cX4_isWord 33 = .ok (.if_icmp .ge 30, 3) := by decide +kernel
theorem dX4_isWord_36 : decode cX4_isWord 36 = .ok (.aload_n 0, 1) := by decide +kernel
theorem dX4_isWord_37 : decode cX4_isWord 37 = .ok (.getfield 9, 3) := by decide +kernel
theorem dX4_isWord_40 : decode cX4_isWord 40 = .ok (.aload_n 0, 1) := by decide +kernel
theorem dX4_isWord_41 : decode cX4_isWord 41 = .ok (.getfield 158, 3) := by decide +kernel
theorem dX4_isWord_44 : decode cX4_isWord 44 = .ok (.iload_n 2, 1) := by decide +kernel
theorem dX4_isWord_45 : decode cX4_isWord 45 = .ok (.iadd, 1) := by decide +kernel
theorem dX4_isWord_46 : decode cX4_isWord 46 = .ok (.baload, 1) := by decide +kernel
theorem dX4_isWord_47 : decode cX4_isWord 47 = .ok (.aload_n 1, 1) := by decide +kernel
theorem dX4_isWord_48 : decode cX4_isWord 48 = .ok (.iload_n 2, 1) := by decide +kernel
theorem dX4_isWord_49 : decode cX4_isWord 49 = .ok (.invokevirtual 171, 3) := by decide +kernel
theorem dX4_isWord_52 : decode cX4_isWord 52 = .ok (.if_icmp .eq 5, 3) := by decide +kernel
theorem dX4_isWord_55 : decode cX4_isWord 55 = .ok (.iconst 0, 1) := by decide +kernel
theorem dX4_isWord_56 : decode cX4_isWord 56 = .ok (.ireturn, 1) := by decide +kernel
theorem dX4_isWord_57 : decode cX4_isWord 57 = .ok (.iinc 2 1, 3) := by decide +kernel
theorem dX4_isWord_60 : decode cX4_isWord 60 = .ok (.goto (-32), 3) := by decide +kernel
theorem dX4_isWord_63 : decode cX4_isWord 63 = .ok (.iconst 1, 1) := by decide +kernel
theorem dX4_isWord_64 : decode cX4_isWord 64 = .ok (.ireturn, 1) := by decide +kernel
theorem dX4_isSign_0 : decode cX4_isSign 0 = .ok (.aload_n 0, 1) := by decide +kernel
theorem dX4_isSign_1 : decode cX4_isSign 1 = .ok (.getfield 28, 3) := by decide +kernel
theorem dX4_isSign_4 : decode cX4_isSign 4 = .ok (.iconst 3, 1) := by decide +kernel
theorem dX4_isSign_5 : decode cX4_isSign 5 = .ok (.if_icmp .ne 20, 3) := by decide +kernel
theorem dX4_isSign_8 : decode cX4_isSign 8 = .ok (.aload_n 0, 1) := by decide +kernel
theorem dX4_isSign_9 : decode cX4_isSign 9 = .ok (.getfield 9, 3) := by decide +kernel
theorem dX4_isSign_12 : decode cX4_isSign 12 = .ok (.aload_n 0, 1) := by decide +kernel
theorem dX4_isSign_13 : decode cX4_isSign 13 = .ok (.getfield 158, 3) := by decide +kernel
theorem dX4_isSign_16 : decode cX4_isSign 16 = .ok (.baload, 1) := by decide +kernel
theorem dX4_isSign_17 : decode cX4_isSign 17 = .ok (.iload_n 1, 1) := by decide +kernel
theorem dX4_isSign_18 : decode cX4_isSign 18 = .ok (.if_icmp .ne 7, 3) := by decide +kernel
theorem dX4_isSign_21 : decode cX4_isSign 21 = .ok (.iconst 1, 1) := by decide +kernel
theorem dX4_isSign_22 : decode cX4_isSign 22 = .ok (.goto 4, 3) := by decide +kernel
theorem dX4_isSign_25 : decode cX4_isSign 25 = .ok (.iconst 0, 1) := by decide +kernel
theorem dX4_isSign_26 : decode cX4_isSign 26 = .ok (.ireturn, 1) := by decide +kernel
theorem dX4_numbered_0 : decode cX4_numbered 0 = .ok (.aload_n 0, 1) := by decide +kernel
theorem dX4_numbered_1 : decode cX4_numbered 1 = .ok (.getfield 28, 3) := by decide +kernel
theorem dX4_numbered_4 : decode cX4_numbered 4 = .ok (.iconst 1, 1) := by decide +kernel
theorem dX4_numbered_5 : decode cX4_numbered 5 = .ok (.if_icmp .ne 29, 3) := by decide +kernel
theorem dX4_numbered_8 : decode cX4_numbered 8 = .ok (.aload_n 0, 1) := by decide +kernel
theorem dX4_numbered_9 : decode cX4_numbered 9 = .ok (.getfield 156, 3) := by decide +kernel
theorem dX4_numbered_12 : decode cX4_numbered 12 = .ok (.aload_n 0, 1) := by decide +kernel
theorem dX4_numbered_13 : decode cX4_numbered 13 = .ok (.getfield 158, 3) := by decide +kernel
theorem dX4_numbered_16 : decode cX4_numbered 16 = .ok (.isub, 1) := by decide +kernel
theorem dX4_numbered_17 : decode cX4_numbered 17 = .ok (.iconst 2, 1) := by decide +kernel
theorem dX4_numbered_18 : decode cX4_numbered 18 = .ok (.if_icmp .ne 16, 3) := by decide +kernel
theorem dX4_numbered_21 : decode cX4_numbered 21 = .ok (.aload_n 0, 1) := by decide +kernel
theorem dX4_numbered_22 : decode cX4_numbered 22 = .ok (.getfield 9, 3) := by decide +kernel
theorem dX4_numbered_25 : decode cX4_numbered 25 = .ok (.aload_n 0, 1) := by decide +kernel
theorem dX4_numbered_26 : decode cX4_numbered 26 = .ok (.getfield 158, 3) := by decide +kernel
theorem dX4_numbered_29 : decode cX4_numbered 29 = .ok (.baload, 1) := by decide +kernel
theorem dX4_numbered_30 : decode cX4_numbered 30 = .ok (.iload_n 1, 1) := by decide +kernel
theorem dX4_numbered_31 : decode cX4_numbered 31 = .ok (.if_icmp .eq 5, 3) := by decide +kernel
theorem dX4_numbered_34 : decode cX4_numbered 34 = .ok (.iconst (-1), 1) := by decide +kernel
theorem dX4_numbered_35 : decode cX4_numbered 35 = .ok (.ireturn, 1) := by decide +kernel
theorem dX4_numbered_36 : decode cX4_numbered 36 = .ok (.aload_n 0, 1) := by decide +kernel
theorem dX4_numbered_37 : decode cX4_numbered 37 = .ok (.getfield 9, 3) := by decide +kernel
theorem dX4_numbered_40 : decode cX4_numbered 40 = .ok (.aload_n 0, 1) := by decide +kernel
theorem dX4_numbered_41 : decode cX4_numbered 41 = .ok (.getfield 158, 3) := by decide +kernel
theorem dX4_numbered_44 : decode cX4_numbered 44 = .ok (.iconst 1, 1) := by decide +kernel
theorem dX4_numbered_45 : decode cX4_numbered 45 = .ok (.iadd, 1) := by decide +kernel
theorem dX4_numbered_46 : decode cX4_numbered 46 = .ok (.baload, 1) := by decide +kernel
theorem dX4_numbered_47 : decode cX4_numbered 47 = .ok (.bipush 48, 2) := by decide +kernel
theorem dX4_numbered_49 : decode cX4_numbered 49 = .ok (.isub, 1) := by decide +kernel
theorem dX4_numbered_50 : decode cX4_numbered 50 = .ok (.istore_n 3, 1) := by decide +kernel
theorem dX4_numbered_51 : decode cX4_numbered 51 = .ok (.iload_n 3, 1) := by decide +kernel
theorem dX4_numbered_52 : decode cX4_numbered 52 = .ok (.ifCond .lt 12, 3) := by decide +kernel
theorem dX4_numbered_55 : decode cX4_numbered 55 = .ok (.iload_n 3, 1) := by decide +kernel
theorem dX4_numbered_56 : decode cX4_numbered 56 = .ok (.iload_n 2, 1) := by decide +kernel
theorem dX4_numbered_57 : decode cX4_numbered 57 = .ok (.if_icmp .ge 7, 3) := by decide +kernel
theorem dX4_numbered_60 : decode cX4_numbered 60 = .ok (.iload_n 3, 1) := by decide +kernel
theorem dX4_numbered_61 : decode cX4_numbered 61 = .ok (.goto 4, 3) := by decide +kernel
theorem dX4_numbered_64 : decode cX4_numbered 64 = .ok (.iconst (-1), 1) := by decide +kernel
theorem dX4_numbered_65 : decode cX4_numbered 65 = .ok (.ireturn, 1) := by decide +kernel
theorem dX4_bitOf_0 : decode cX4_bitOf 0 = .ok (.aload_n 0, 1) := by decide +kernel
theorem dX4_bitOf_1 : decode cX4_bitOf 1 = .ok (.iload_n 1, 1) := by decide +kernel
theorem dX4_bitOf_2 : decode cX4_bitOf 2 = .ok (.iload_n 2, 1) := by decide +kernel
theorem dX4_bitOf_3 : decode cX4_bitOf 3 = .ok (.invokevirtual 122, 3) := by decide +kernel
theorem dX4_bitOf_6 : decode cX4_bitOf 6 = .ok (.istore_n 3, 1) := by decide +kernel
theorem dX4_bitOf_7 : decode cX4_bitOf 7 = .ok (.iload_n 3, 1) := by decide +kernel
theorem dX4_bitOf_8 : decode cX4_bitOf 8 = .ok (.iconst (-1), 1) := by decide +kernel
theorem dX4_bitOf_9 : decode cX4_bitOf 9 = .ok (.if_icmp .ne 7, 3) := by decide +kernel
theorem dX4_bitOf_12 : decode cX4_bitOf 12 = .ok (.iconst 0, 1) := by decide +kernel
theorem dX4_bitOf_13 : decode cX4_bitOf 13 = .ok (.goto 6, 3) := by decide +kernel
theorem dX4_bitOf_16 : decode cX4_bitOf 16 = .ok (.iconst 1, 1) := by decide +kernel
theorem dX4_bitOf_17 : decode cX4_bitOf 17 = .ok (.iload_n 3, 1) := by decide +kernel
theorem dX4_bitOf_18 : decode cX4_bitOf 18 = .ok (.ishl, 1) := by decide +kernel
theorem dX4_bitOf_19 : decode cX4_bitOf 19 = .ok (.ireturn, 1) := by decide +kernel
theorem dX4_next_0 : decode cX4_next 0 = .ok (.aload_n 0, 1) := by decide +kernel
theorem dX4_next_1 : decode cX4_next 1 = .ok (.aload_n 0, 1) := by decide +kernel
theorem dX4_next_2 : decode cX4_next 2 = .ok (.getfield 156, 3) := by decide +kernel
theorem dX4_next_5 : decode cX4_next 5 = .ok (.putfield 158, 3) := by decide +kernel
theorem dX4_next_8 : decode cX4_next 8 = .ok (.aload_n 0, 1) := by decide +kernel
theorem dX4_next_9 : decode cX4_next 9 = .ok (.getfield 158, 3) := by decide +kernel
theorem dX4_next_12 : decode cX4_next 12 = .ok (.aload_n 0, 1) := by decide +kernel
theorem dX4_next_13 : decode cX4_next 13 = .ok (.getfield 21, 3) := by decide +kernel
theorem dX4_next_16 : decode cX4_next 16 = .ok (.if_icmp .ge 44, 3) := by decide +kernel
theorem dX4_next_19 : decode cX4_next 19 = .ok (.aload_n 0, 1) := by decide +kernel
theorem dX4_next_20 : decode cX4_next 20 = .ok (.getfield 9, 3) := by decide +kernel
theorem dX4_next_23 : decode cX4_next 23 = .ok (.aload_n 0, 1) := by decide +kernel
theorem dX4_next_24 : decode cX4_next 24 = .ok (.getfield 158, 3) := by decide +kernel
theorem dX4_next_27 : decode cX4_next 27 = .ok (.baload, 1) := by decide +kernel
theorem dX4_next_28 : decode cX4_next 28 = .ok (.bipush 32, 2) := by decide +kernel
theorem dX4_next_30 : decode cX4_next 30 = .ok (.if_icmp .eq 17, 3) := by decide +kernel
theorem dX4_next_33 : decode cX4_next 33 = .ok (.aload_n 0, 1) := by decide +kernel
theorem dX4_next_34 : decode cX4_next 34 = .ok (.getfield 9, 3) := by decide +kernel
theorem dX4_next_37 : decode cX4_next 37 = .ok (.aload_n 0, 1) := by decide +kernel
theorem dX4_next_38 : decode cX4_next 38 = .ok (.getfield 158, 3) := by decide +kernel
theorem dX4_next_41 : decode cX4_next 41 = .ok (.baload, 1) := by decide +kernel
theorem dX4_next_42 : decode cX4_next 42 = .ok (.bipush 10, 2) := by decide +kernel
theorem dX4_next_44 : decode cX4_next 44 = .ok (.if_icmp .ne 16, 3) := by decide +kernel
theorem dX4_next_47 : decode cX4_next 47 = .ok (.aload_n 0, 1) := by decide +kernel
theorem dX4_next_48 : decode cX4_next 48 = .ok (.dup, 1) := by decide +kernel
theorem dX4_next_49 : decode cX4_next 49 = .ok (.getfield 158, 3) := by decide +kernel
theorem dX4_next_52 : decode cX4_next 52 = .ok (.iconst 1, 1) := by decide +kernel
theorem dX4_next_53 : decode cX4_next 53 = .ok (.iadd, 1) := by decide +kernel
theorem dX4_next_54 : decode cX4_next 54 = .ok (.putfield 158, 3) := by decide +kernel
theorem dX4_next_57 : decode cX4_next 57 = .ok (.goto (-49), 3) := by decide +kernel
theorem dX4_next_60 : decode cX4_next 60 = .ok (.aload_n 0, 1) := by decide +kernel
theorem dX4_next_61 : decode cX4_next 61 = .ok (.aload_n 0, 1) := by decide +kernel
theorem dX4_next_62 : decode cX4_next 62 = .ok (.getfield 158, 3) := by decide +kernel
theorem dX4_next_65 : decode cX4_next 65 = .ok (.putfield 156, 3) := by decide +kernel
theorem dX4_next_68 : decode cX4_next 68 = .ok (.aload_n 0, 1) := by decide +kernel
theorem dX4_next_69 : decode cX4_next 69 = .ok (.getfield 158, 3) := by decide +kernel
theorem dX4_next_72 : decode cX4_next 72 = .ok (.aload_n 0, 1) := by decide +kernel
theorem dX4_next_73 : decode cX4_next 73 = .ok (.getfield 21, 3) := by decide +kernel
theorem dX4_next_76 : decode cX4_next 76 = .ok (.if_icmp .lt 9, 3) := by decide +kernel
theorem dX4_next_79 : decode cX4_next 79 = .ok (.aload_n 0, 1) := by decide +kernel
theorem dX4_next_80 : decode cX4_next 80 = .ok (.iconst 0, 1) := by decide +kernel
theorem dX4_next_81 : decode cX4_next 81 = .ok (.putfield 28, 3) := by decide +kernel
theorem dX4_next_84 : decode cX4_next 84 = .ok (.return_, 1) := by decide +kernel
theorem dX4_next_85 : decode cX4_next 85 = .ok (.aload_n 0, 1) := by decide +kernel
theorem dX4_next_86 : decode cX4_next 86 = .ok (.dup, 1) := by decide +kernel
theorem dX4_next_87 : decode cX4_next 87 = .ok (.getfield 156, 3) := by decide +kernel
theorem dX4_next_90 : decode cX4_next 90 = .ok (.iconst 1, 1) := by decide +kernel
theorem dX4_next_91 : decode cX4_next 91 = .ok (.iadd, 1) := by decide +kernel
theorem dX4_next_92 : decode cX4_next 92 = .ok (.putfield 156, 3) := by decide +kernel
theorem dX4_next_95 : decode cX4_next 95 = .ok (.aload_n 0, 1) := by decide +kernel
theorem dX4_next_96 : decode cX4_next 96 = .ok (.getfield 9, 3) := by decide +kernel
theorem dX4_next_99 : decode cX4_next 99 = .ok (.aload_n 0, 1) := by decide +kernel
theorem dX4_next_100 : decode cX4_next 100 = .ok (.getfield 158, 3) := by decide +kernel
theorem dX4_next_103 : decode cX4_next 103 = .ok (.baload, 1) := by decide +kernel
theorem dX4_next_104 : decode cX4_next 104 = .ok (.invokestatic 175, 3) := by decide +kernel
theorem dX4_next_107 : decode cX4_next 107 = .ok (.ifCond .eq 62, 3) := by decide +kernel
theorem dX4_next_110 : decode cX4_next 110 = .ok (.aload_n 0, 1) := by decide +kernel
theorem dX4_next_111 : decode cX4_next 111 = .ok (.iconst 1, 1) := by decide +kernel
theorem dX4_next_112 : decode cX4_next 112 = .ok (.putfield 28, 3) := by decide +kernel
theorem dX4_next_115 : decode cX4_next 115 = .ok (.aload_n 0, 1) := by decide +kernel
theorem dX4_next_116 : decode cX4_next 116 = .ok (.getfield 156, 3) := by decide +kernel
theorem dX4_next_119 : decode cX4_next 119 = .ok (.aload_n 0, 1) := by decide +kernel
theorem dX4_next_120 : decode cX4_next 120 = .ok (.getfield 21, 3) := by decide +kernel
theorem dX4_next_123 : decode cX4_next 123 = .ok (.if_icmp .ge 166, 3) := by decide +kernel
theorem dX4_next_126 : decode cX4_next 126 = .ok (.aload_n 0, 1) := by decide +kernel
theorem dX4_next_127 : decode cX4_next 127 = .ok (.getfield 9, 3) := by decide +kernel
theorem dX4_next_130 : decode cX4_next 130 = .ok (.aload_n 0, 1) := by decide +kernel
theorem dX4_next_131 : decode cX4_next 131 = .ok (.getfield 156, 3) := by decide +kernel
theorem dX4_next_134 : decode cX4_next 134 = .ok (.baload, 1) := by decide +kernel
theorem dX4_next_135 : decode cX4_next 135 = .ok (.invokestatic 175, 3) := by decide +kernel
theorem dX4_next_138 : decode cX4_next 138 = .ok (.ifCond .ne 18, 3) := by decide +kernel
theorem dX4_next_141 : decode cX4_next 141 = .ok (.aload_n 0, 1) := by decide +kernel
theorem dX4_next_142 : decode cX4_next 142 = .ok (.getfield 9, 3) := by decide +kernel
theorem dX4_next_145 : decode cX4_next 145 = .ok (.aload_n 0, 1) := by decide +kernel
theorem dX4_next_146 : decode cX4_next 146 = .ok (.getfield 156, 3) := by decide +kernel
theorem dX4_next_149 : decode cX4_next 149 = .ok (.baload, 1) := by decide +kernel
theorem dX4_next_150 : decode cX4_next 150 = .ok (.invokestatic 178, 3) := by decide +kernel
theorem dX4_next_153 : decode cX4_next 153 = .ok (.ifCond .eq 136, 3) := by decide +kernel
theorem dX4_next_156 : decode cX4_next 156 = .ok (.aload_n 0, 1) := by decide +kernel
theorem dX4_next_157 : decode cX4_next 157 = .ok (.dup, 1) := by decide +kernel
theorem dX4_next_158 : decode cX4_next 158 = .ok (.getfield 156, 3) := by decide +kernel
theorem dX4_next_161 : decode cX4_next 161 = .ok (.iconst 1, 1) := by decide +kernel
theorem dX4_next_162 : decode cX4_next 162 = .ok (.iadd, 1) := by decide +kernel
theorem dX4_next_163 : decode cX4_next 163 = .ok (.putfield 156, 3) := by decide +kernel
theorem dX4_next_166 : decode cX4_next 166 = .ok (.goto (-51), 3) := by decide +kernel
theorem dX4_next_169 : decode cX4_next 169 = .ok (.aload_n 0, 1) := by decide +kernel
theorem dX4_next_170 : decode cX4_next 170 = .ok (.getfield 9, 3) := by decide +kernel
theorem dX4_next_173 : decode cX4_next 173 = .ok (.aload_n 0, 1) := by decide +kernel
theorem dX4_next_174 : decode cX4_next 174 = .ok (.getfield 158, 3) := by decide +kernel
theorem dX4_next_177 : decode cX4_next 177 = .ok (.baload, 1) := by decide +kernel
theorem dX4_next_178 : decode cX4_next 178 = .ok (.invokestatic 178, 3) := by decide +kernel
theorem dX4_next_181 : decode cX4_next 181 = .ok (.ifCond .eq 47, 3) := by decide +kernel
theorem dX4_next_184 : decode cX4_next 184 = .ok (.aload_n 0, 1) := by decide +kernel
theorem dX4_next_185 : decode cX4_next 185 = .ok (.iconst 2, 1) := by decide +kernel
theorem dX4_next_186 : decode cX4_next 186 = .ok (.putfield 28, 3) := by decide +kernel
theorem dX4_next_189 : decode cX4_next 189 = .ok (.aload_n 0, 1) := by decide +kernel
theorem dX4_next_190 : decode cX4_next 190 = .ok (.getfield 156, 3) := by decide +kernel
theorem dX4_next_193 : decode cX4_next 193 = .ok (.aload_n 0, 1) := by decide +kernel
theorem dX4_next_194 : decode cX4_next 194 = .ok (.getfield 21, 3) := by decide +kernel
theorem dX4_next_197 : decode cX4_next 197 = .ok (.if_icmp .ge 92, 3) := by decide +kernel
theorem dX4_next_200 : decode cX4_next 200 = .ok (.aload_n 0, 1) := by decide +kernel
theorem dX4_next_201 : decode cX4_next 201 = .ok (.getfield 9, 3) := by decide +kernel
theorem dX4_next_204 : decode cX4_next 204 = .ok (.aload_n 0, 1) := by decide +kernel
theorem dX4_next_205 : decode cX4_next 205 = .ok (.getfield 156, 3) := by decide +kernel
theorem dX4_next_208 : decode cX4_next 208 = .ok (.baload, 1) := by decide +kernel
theorem dX4_next_209 : decode cX4_next 209 = .ok (.invokestatic 178, 3) := by decide +kernel
theorem dX4_next_212 : decode cX4_next 212 = .ok (.ifCond .eq 77, 3) := by decide +kernel
theorem dX4_next_215 : decode cX4_next 215 = .ok (.aload_n 0, 1) := by decide +kernel
theorem dX4_next_216 : decode cX4_next 216 = .ok (.dup, 1) := by decide +kernel
theorem dX4_next_217 : decode cX4_next 217 = .ok (.getfield 156, 3) := by decide +kernel
theorem dX4_next_220 : decode cX4_next 220 = .ok (.iconst 1, 1) := by decide +kernel
theorem dX4_next_221 : decode cX4_next 221 = .ok (.iadd, 1) := by decide +kernel
theorem dX4_next_222 : decode cX4_next 222 = .ok (.putfield 156, 3) := by decide +kernel
theorem dX4_next_225 : decode cX4_next 225 = .ok (.goto (-36), 3) := by decide +kernel
theorem dX4_next_228 : decode cX4_next 228 = .ok (.aload_n 0, 1) := by decide +kernel
theorem dX4_next_229 : decode cX4_next 229 = .ok (.getfield 9, 3) := by decide +kernel
theorem dX4_next_232 : decode cX4_next 232 = .ok (.aload_n 0, 1) := by decide +kernel
theorem dX4_next_233 : decode cX4_next 233 = .ok (.getfield 158, 3) := by decide +kernel
theorem dX4_next_236 : decode cX4_next 236 = .ok (.baload, 1) := by decide +kernel
theorem dX4_next_237 : decode cX4_next 237 = .ok (.bipush 59, 2) := by decide +kernel
theorem dX4_next_239 : decode cX4_next 239 = .ok (.if_icmp .eq 31, 3) := by decide +kernel
theorem dX4_next_242 : decode cX4_next 242 = .ok (.aload_n 0, 1) := by decide +kernel
theorem dX4_next_243 : decode cX4_next 243 = .ok (.getfield 9, 3) := by decide +kernel
theorem dX4_next_246 : decode cX4_next 246 = .ok (.aload_n 0, 1) := by decide +kernel
theorem dX4_next_247 : decode cX4_next 247 = .ok (.getfield 158, 3) := by decide +kernel
theorem dX4_next_250 : decode cX4_next 250 = .ok (.baload, 1) := by decide +kernel
theorem dX4_next_251 : decode cX4_next 251 = .ok (.bipush 61, 2) := by decide +kernel
theorem dX4_next_253 : decode cX4_next 253 = .ok (.if_icmp .eq 17, 3) := by decide +kernel
theorem dX4_next_256 : decode cX4_next 256 = .ok (.aload_n 0, 1) := by decide +kernel
theorem dX4_next_257 : decode cX4_next 257 = .ok (.getfield 9, 3) := by decide +kernel
theorem dX4_next_260 : decode cX4_next 260 = .ok (.aload_n 0, 1) := by decide +kernel
theorem dX4_next_261 : decode cX4_next 261 = .ok (.getfield 158, 3) := by decide +kernel
theorem dX4_next_264 : decode cX4_next 264 = .ok (.baload, 1) := by decide +kernel
theorem dX4_next_265 : decode cX4_next 265 = .ok (.bipush 60, 2) := by decide +kernel
theorem dX4_next_267 : decode cX4_next 267 = .ok (.if_icmp .ne 7, 3) := by decide +kernel
theorem dX4_next_270 : decode cX4_next 270 = .ok (.iconst 1, 1) := by decide +kernel
theorem dX4_next_271 : decode cX4_next 271 = .ok (.goto 4, 3) := by decide +kernel
theorem dX4_next_274 : decode cX4_next 274 = .ok (.iconst 0, 1) := by decide +kernel
theorem dX4_next_275 : decode cX4_next 275 = .ok (.istore_n 1, 1) := by decide +kernel
theorem dX4_next_276 : decode cX4_next 276 = .ok (.aload_n 0, 1) := by decide +kernel
theorem dX4_next_277 : decode cX4_next 277 = .ok (.iload_n 1, 1) := by decide +kernel
theorem dX4_next_278 : decode cX4_next 278 = .ok (.ifCond .eq 7, 3) := by decide +kernel
theorem dX4_next_281 : decode cX4_next 281 = .ok (.iconst 3, 1) := by decide +kernel
theorem dX4_next_282 : decode cX4_next 282 = .ok (.goto 4, 3) := by decide +kernel
theorem dX4_next_285 : decode cX4_next 285 = .ok (.iconst 4, 1) := by decide +kernel
theorem dX4_next_286 : decode cX4_next 286 = .ok (.putfield 28, 3) := by decide +kernel
theorem dX4_next_289 : decode cX4_next 289 = .ok (.return_, 1) := by decide +kernel
theorem dX4_isLetter_0 : decode cX4_isLetter 0 = .ok (.iload_n 0, 1) := by decide +kernel
theorem dX4_isLetter_1 : decode cX4_isLetter 1 = .ok (.bipush 97, 2) := by decide +kernel
theorem dX4_isLetter_3 : decode cX4_isLetter 3 = .ok (.if_icmp .lt 13, 3) := by decide +kernel
theorem dX4_isLetter_6 : decode cX4_isLetter 6 = .ok (.iload_n 0, 1) := by decide +kernel
theorem dX4_isLetter_7 : decode cX4_isLetter 7 = .ok (.bipush 122, 2) := by decide +kernel
theorem dX4_isLetter_9 : decode cX4_isLetter 9 = .ok (.if_icmp .gt 7, 3) := by decide +kernel
theorem dX4_isLetter_12 : decode cX4_isLetter 12 = .ok (.iconst 1, 1) := by decide +kernel
theorem dX4_isLetter_13 : decode cX4_isLetter 13 = .ok (.goto 4, 3) := by decide +kernel
theorem dX4_isLetter_16 : decode cX4_isLetter 16 = .ok (.iconst 0, 1) := by decide +kernel
theorem dX4_isLetter_17 : decode cX4_isLetter 17 = .ok (.ireturn, 1) := by decide +kernel
theorem dX4_isDigit_0 : decode cX4_isDigit 0 = .ok (.iload_n 0, 1) := by decide +kernel
theorem dX4_isDigit_1 : decode cX4_isDigit 1 = .ok (.bipush 48, 2) := by decide +kernel
theorem dX4_isDigit_3 : decode cX4_isDigit 3 = .ok (.if_icmp .lt 13, 3) := by decide +kernel
theorem dX4_isDigit_6 : decode cX4_isDigit 6 = .ok (.iload_n 0, 1) := by decide +kernel
theorem dX4_isDigit_7 : decode cX4_isDigit 7 = .ok (.bipush 57, 2) := by decide +kernel
theorem dX4_isDigit_9 : decode cX4_isDigit 9 = .ok (.if_icmp .gt 7, 3) := by decide +kernel
theorem dX4_isDigit_12 : decode cX4_isDigit 12 = .ok (.iconst 1, 1) := by decide +kernel
theorem dX4_isDigit_13 : decode cX4_isDigit 13 = .ok (.goto 4, 3) := by decide +kernel
theorem dX4_isDigit_16 : decode cX4_isDigit 16 = .ok (.iconst 0, 1) := by decide +kernel
theorem dX4_isDigit_17 : decode cX4_isDigit 17 = .ok (.ireturn, 1) := by decide +kernel
theorem dX5_init_0 : decode cX5_init 0 = .ok (.aload_n 0, 1) := by decide +kernel
theorem dX5_init_1 : decode cX5_init 1 = .ok (.invokespecial 3, 3) := by decide +kernel
theorem dX5_init_4 : decode cX5_init 4 = .ok (.aload_n 0, 1) := by decide +kernel
theorem dX5_init_5 : decode cX5_init 5 = .ok (.iload_n 1, 1) := by decide +kernel
theorem dX5_init_6 : decode cX5_init 6 = .ok (.putfield 9, 3) := by decide +kernel
theorem dX5_init_9 : decode cX5_init 9 = .ok (.aload_n 0, 1) := by decide +kernel
theorem dX5_init_10 : decode cX5_init 10 = .ok (.bipush 24, 2) := by decide +kernel
theorem dX5_init_12 : decode cX5_init 12 = .ok (.anewarray 15, 3) := by decide +kernel
theorem dX5_init_15 : decode cX5_init 15 = .ok (.putfield 17, 3) := by decide +kernel
theorem dX5_init_18 : decode cX5_init 18 = .ok (.aload_n 0, 1) := by decide +kernel
theorem dX5_init_19 : decode cX5_init 19 = .ok (.bipush 24, 2) := by decide +kernel
theorem dX5_init_21 : decode cX5_init 21 = .ok (.newarray .int, 2) := by decide +kernel
theorem dX5_init_23 : decode cX5_init 23 = .ok (.putfield 21, 3) := by decide +kernel
theorem dX5_init_26 : decode cX5_init 26 = .ok (.return_, 1) := by decide +kernel
theorem dX5_isFull_0 : decode cX5_isFull 0 = .ok (.aload_n 0, 1) := by decide +kernel
theorem dX5_isFull_1 : decode cX5_isFull 1 = .ok (.getfield 25, 3) := by decide +kernel
theorem dX5_isFull_4 : decode cX5_isFull 4 = .ok (.bipush 24, 2) := by decide +kernel
theorem dX5_isFull_6 : decode cX5_isFull 6 = .ok (.if_icmp .lt 7, 3) := by decide +kernel
theorem dX5_isFull_9 : decode cX5_isFull 9 = .ok (.iconst 1, 1) := by decide +kernel
theorem dX5_isFull_10 : decode cX5_isFull 10 = .ok (.goto 4, 3) := by decide +kernel
theorem dX5_isFull_13 : decode cX5_isFull 13 = .ok (.iconst 0, 1) := by decide +kernel
theorem dX5_isFull_14 : decode cX5_isFull 14 = .ok (.ireturn, 1) := by decide +kernel
theorem dX5_add_0 : decode cX5_add 0 = .ok (.aload_n 0, 1) := by decide +kernel
theorem dX5_add_1 : decode cX5_add 1 = .ok (.invokevirtual 28, 3) := by decide +kernel
theorem dX5_add_4 : decode cX5_add 4 = .ok (.ifCond .eq 4, 3) := by decide +kernel
theorem dX5_add_7 : decode cX5_add 7 = .ok (.return_, 1) := by decide +kernel
theorem dX5_add_8 : decode cX5_add 8 = .ok (.aload_n 0, 1) := by decide +kernel
theorem dX5_add_9 : decode cX5_add 9 = .ok (.getfield 17, 3) := by decide +kernel
theorem dX5_add_12 : decode cX5_add 12 = .ok (.aload_n 0, 1) := by decide +kernel
theorem dX5_add_13 : decode cX5_add 13 = .ok (.getfield 25, 3) := by decide +kernel
theorem dX5_add_16 : decode cX5_add 16 = .ok (.aload_n 1, 1) := by decide +kernel
theorem dX5_add_17 : decode cX5_add 17 = .ok (.aastore, 1) := by decide +kernel
theorem dX5_add_18 : decode cX5_add 18 = .ok (.aload_n 1, 1) := by decide +kernel
theorem dX5_add_19 : decode cX5_add 19 = .ok (.getfield 32, 3) := by decide +kernel
theorem dX5_add_22 : decode cX5_add 22 = .ok (.iconst 2, 1) := by decide +kernel
theorem dX5_add_23 : decode cX5_add 23 = .ok (.if_icmp .eq 15, 3) := by decide +kernel
theorem dX5_add_26 : decode cX5_add 26 = .ok (.aload_n 0, 1) := by decide +kernel
theorem dX5_add_27 : decode cX5_add 27 = .ok (.aload_n 0, 1) := by decide +kernel
theorem dX5_add_28 : decode cX5_add 28 = .ok (.getfield 25, 3) := by decide +kernel
theorem dX5_add_31 : decode cX5_add 31 = .ok (.aload_n 1, 1) := by decide +kernel
theorem dX5_add_32 : decode cX5_add 32 = .ok (.getfield 35, 3) := by decide +kernel
theorem dX5_add_35 : decode cX5_add 35 = .ok (.invokevirtual 38, 3) := by decide +kernel
theorem dX5_add_38 : decode cX5_add 38 = .ok (.aload_n 0, 1) := by decide +kernel
theorem dX5_add_39 : decode cX5_add 39 = .ok (.dup, 1) := by decide +kernel
theorem dX5_add_40 : decode cX5_add 40 = .ok (.getfield 25, 3) := by decide +kernel
theorem dX5_add_43 : decode cX5_add 43 = .ok (.iconst 1, 1) := by decide +kernel
theorem dX5_add_44 : decode cX5_add 44 = .ok (.iadd, 1) := by decide +kernel
theorem dX5_add_45 : decode cX5_add 45 = .ok (.putfield 25, 3) := by decide +kernel
theorem dX5_add_48 : decode cX5_add 48 = .ok (.return_, 1) := by decide +kernel
theorem dX5_putInTurn_0 : decode cX5_putInTurn 0 = .ok (.aload_n 0, 1) := by decide +kernel
theorem dX5_putInTurn_1 : decode cX5_putInTurn 1 = .ok (.getfield 42, 3) := by decide +kernel
theorem dX5_putInTurn_4 : decode cX5_putInTurn 4 = .ok (.istore_n 3, 1) := by decide +kernel
theorem dX5_putInTurn_5 : decode cX5_putInTurn 5 = .ok (.iload_n 3, 1) := by decide +kernel
theorem dX5_putInTurn_6 : decode cX5_putInTurn 6 = .ok (.ifCond .le 43, 3) := by decide +kernel
theorem dX5_putInTurn_9 : decode cX5_putInTurn 9 = .ok (.aload_n 0, 1) := by decide +kernel
theorem dX5_putInTurn_10 : decode cX5_putInTurn 10 = .ok (.getfield 17, 3) := by decide +kernel
theorem dX5_putInTurn_13 : decode cX5_putInTurn 13 = .ok (.aload_n 0, 1) := by decide +kernel
theorem dX5_putInTurn_14 : decode cX5_putInTurn 14 = .ok (.getfield 21, 3) := by decide +kernel
theorem dX5_putInTurn_17 : decode cX5_putInTurn 17 = .ok (.iload_n 3, 1) := by decide +kernel
theorem dX5_putInTurn_18 : decode cX5_putInTurn 18 = .ok (.iconst 1, 1) := by decide +kernel
theorem dX5_putInTurn_19 : decode cX5_putInTurn 19 = .ok (.isub, 1) := by decide +kernel
theorem dX5_putInTurn_20 : decode cX5_putInTurn 20 = .ok (.iaload, 1) := by decide +kernel
theorem dX5_putInTurn_21 : decode cX5_putInTurn 21 = .ok (.aaload, 1) := by decide +kernel
theorem dX5_putInTurn_22 : decode cX5_putInTurn 22 = .ok (.getfield 35, 3) := by decide +kernel
theorem dX5_putInTurn_25 : decode cX5_putInTurn 25 = .ok (.iload_n 2, 1) := by decide +kernel
theorem dX5_putInTurn_26 : decode cX5_putInTurn 26 = .ok (.if_icmp .ge 23, 3) := by decide +kernel
theorem dX5_putInTurn_29 : decode cX5_putInTurn 29 = .ok (.aload_n 0, 1) := by decide +kernel
theorem dX5_putInTurn_30 : decode cX5_putInTurn 30 = .ok (.getfield 21, 3) := by decide +kernel
theorem dX5_putInTurn_33 : decode cX5_putInTurn 33 = .ok (.iload_n 3, 1) := by decide +kernel
theorem dX5_putInTurn_34 : decode cX5_putInTurn 34 = .ok (.aload_n 0, 1) := by decide +kernel
theorem dX5_putInTurn_35 : decode cX5_putInTurn 35 = .ok (.getfield 21, 3) := by decide +kernel
theorem dX5_putInTurn_38 : decode cX5_putInTurn 38 = .ok (.iload_n 3, 1) := by decide +kernel
theorem dX5_putInTurn_39 : decode cX5_putInTurn 39 = .ok (.iconst 1, 1) := by decide +kernel
theorem dX5_putInTurn_40 : decode cX5_putInTurn 40 = .ok (.isub, 1) := by decide +kernel
theorem dX5_putInTurn_41 : decode cX5_putInTurn 41 = .ok (.iaload, 1) := by decide +kernel
theorem dX5_putInTurn_42 : decode cX5_putInTurn 42 = .ok (.iastore, 1) := by decide +kernel
theorem dX5_putInTurn_43 : decode cX5_putInTurn 43 = .ok (.iinc 3 (-1), 3) := by decide +kernel
theorem dX5_putInTurn_46 : decode cX5_putInTurn 46 = .ok (.goto (-41), 3) := by decide +kernel
theorem dX5_putInTurn_49 : decode cX5_putInTurn 49 = .ok (.aload_n 0, 1) := by decide +kernel
theorem dX5_putInTurn_50 : decode cX5_putInTurn 50 = .ok (.getfield 21, 3) := by decide +kernel
theorem dX5_putInTurn_53 : decode cX5_putInTurn 53 = .ok (.iload_n 3, 1) := by decide +kernel
theorem dX5_putInTurn_54 : decode cX5_putInTurn 54 = .ok (.iload_n 1, 1) := by decide +kernel
theorem dX5_putInTurn_55 : decode cX5_putInTurn 55 = .ok (.iastore, 1) := by decide +kernel
theorem dX5_putInTurn_56 : decode cX5_putInTurn 56 = .ok (.aload_n 0, 1) := by decide +kernel
theorem dX5_putInTurn_57 : decode cX5_putInTurn 57 = .ok (.dup, 1) := by decide +kernel
theorem dX5_putInTurn_58 : decode cX5_putInTurn 58 = .ok (.getfield 42, 3) := by decide +kernel
theorem dX5_putInTurn_61 : decode cX5_putInTurn 61 = .ok (.iconst 1, 1) := by decide +kernel
theorem dX5_putInTurn_62 : decode cX5_putInTurn 62 = .ok (.iadd, 1) := by decide +kernel
theorem dX5_putInTurn_63 : decode cX5_putInTurn 63 = .ok (.putfield 42, 3) := by decide +kernel
theorem dX5_putInTurn_66 : decode cX5_putInTurn 66 = .ok (.return_, 1) := by decide +kernel
theorem dX5_storesFor_0 : decode cX5_storesFor 0 = .ok (.bipush 15, 2) := by decide +kernel
theorem dX5_storesFor_2 : decode cX5_storesFor 2 = .ok (.istore_n 3, 1) := by decide +kernel
theorem dX5_storesFor_3 : decode cX5_storesFor 3 = .ok (.iconst 0, 1) := by decide +kernel
theorem dX5_storesFor_4 : decode cX5_storesFor 4 = .ok (.istore 4, 2) := by decide +kernel
theorem dX5_storesFor_6 : decode cX5_storesFor 6 = .ok (.iload 4, 2) := by decide +kernel
theorem dX5_storesFor_8 : decode cX5_storesFor 8 = .ok (.aload_n 0, 1) := by decide +kernel
theorem dX5_storesFor_9 : decode cX5_storesFor 9 = .ok (.getfield 25, 3) := by decide +kernel
theorem dX5_storesFor_12 : decode cX5_storesFor 12 = .ok (.if_icmp .ge 51, 3) := by decide +kernel
theorem dX5_storesFor_15 : decode cX5_storesFor 15 = .ok (.aload_n 0, 1) := by decide +kernel
theorem dX5_storesFor_16 : decode cX5_storesFor 16 = .ok (.getfield 17, 3) := by decide +kernel
theorem dX5_storesFor_19 : decode cX5_storesFor 19 = .ok (.iload 4, 2) := by decide +kernel
theorem dX5_storesFor_21 : decode cX5_storesFor 21 = .ok (.aaload, 1) := by decide +kernel
theorem dX5_storesFor_22 : decode cX5_storesFor 22 = .ok (.getfield 32, 3) := by decide +kernel
theorem dX5_storesFor_25 : decode cX5_storesFor 25 = .ok (.iconst 2, 1) := by decide +kernel
theorem dX5_storesFor_26 : decode cX5_storesFor 26 = .ok (.if_icmp .ne 31, 3) := by decide +kernel
theorem dX5_storesFor_29 : decode cX5_storesFor 29 = .ok (.aload_n 0, 1) := by decide +kernel
theorem dX5_storesFor_30 : decode cX5_storesFor 30 = .ok (.getfield 17, 3) := by decide +kernel
theorem dX5_storesFor_33 : decode cX5_storesFor 33 = .ok (.iload 4, 2) := by decide +kernel
theorem dX5_storesFor_35 : decode cX5_storesFor 35 = .ok (.aaload, 1) := by decide +kernel
theorem dX5_storesFor_36 : decode cX5_storesFor 36 = .ok (.aload_n 1, 1) := by decide +kernel
theorem dX5_storesFor_37 : decode cX5_storesFor 37 = .ok (.iload_n 2, 1) := by decide +kernel
theorem dX5_storesFor_38 : decode cX5_storesFor 38 = .ok (.invokevirtual 45, 3) := by decide +kernel
theorem dX5_storesFor_41 : decode cX5_storesFor 41 = .ok (.ifCond .eq 16, 3) := by decide +kernel
theorem dX5_storesFor_44 : decode cX5_storesFor 44 = .ok (.iload_n 3, 1) := by decide +kernel
theorem dX5_storesFor_45 : decode cX5_storesFor 45 = .ok (.aload_n 0, 1) := by decide +kernel
theorem dX5_storesFor_46 : decode cX5_storesFor 46 = .ok (.getfield 17, 3) := by decide +kernel
theorem dX5_storesFor_49 : decode cX5_storesFor 49 = .ok (.iload 4, 2) := by decide +kernel
theorem dX5_storesFor_51 : decode cX5_storesFor 51 = .ok (.aaload, 1) := by decide +kernel
theorem dX5_storesFor_52 : decode cX5_storesFor 52 = .ok (.getfield 49, 3) := by decide +kernel
theorem dX5_storesFor_55 : decode cX5_storesFor 55 = .ok (.iand, 1) := by decide +kernel
theorem dX5_storesFor_56 : decode cX5_storesFor 56 = .ok (.istore_n 3, 1) := by decide +kernel
theorem dX5_storesFor_57 : decode cX5_storesFor 57 = .ok (.iinc 4 1, 3) := by decide +kernel
theorem dX5_storesFor_60 : decode cX5_storesFor 60 = .ok (.goto (-54), 3) := by decide +kernel
theorem dX5_storesFor_63 : decode cX5_storesFor 63 = .ok (.iload_n 3, 1) := by decide +kernel
theorem dX5_storesFor_64 : decode cX5_storesFor 64 = .ok (.ireturn, 1) := by decide +kernel
theorem dX6_init_0 : decode cX6_init 0 = .ok (.aload_n 0, 1) := by decide +kernel
theorem dX6_init_1 : decode cX6_init 1 = .ok (.invokespecial 3, 3) := by decide +kernel
theorem dX6_init_4 : decode cX6_init 4 = .ok (.aload_n 0, 1) := by decide +kernel
theorem dX6_init_5 : decode cX6_init 5 = .ok (.bipush 24, 2) := by decide +kernel
theorem dX6_init_7 : decode cX6_init 7 = .ok (.newarray .int, 2) := by decide +kernel
theorem dX6_init_9 : decode cX6_init 9 = .ok (.putfield 9, 3) := by decide +kernel
theorem dX6_init_12 : decode cX6_init 12 = .ok (.return_, 1) := by decide +kernel
theorem dX6_settle_0 : decode cX6_settle 0 = .ok (.aload_n 0, 1) := by decide +kernel
theorem dX6_settle_1 : decode cX6_settle 1 = .ok (.iconst 0, 1) := by decide +kernel
theorem dX6_settle_2 : decode cX6_settle 2 = .ok (.putfield 15, 3) := by decide +kernel
theorem dX6_settle_5 : decode cX6_settle 5 = .ok (.aload_n 0, 1) := by decide +kernel
theorem dX6_settle_6 : decode cX6_settle 6 = .ok (.ldc 19, 2) := by decide +kernel
theorem dX6_settle_8 : decode cX6_settle 8 = .ok (.putfield 20, 3) := by decide +kernel
theorem dX6_settle_11 : decode cX6_settle 11 = .ok (.aload_n 0, 1) := by decide +kernel
theorem dX6_settle_12 : decode cX6_settle 12 = .ok (.iconst (-1), 1) := by decide +kernel
theorem dX6_settle_13 : decode cX6_settle 13 = .ok (.putfield 23, 3) := by decide +kernel
theorem dX6_settle_16 : decode cX6_settle 16 = .ok (.aload_n 0, 1) := by decide +kernel
theorem dX6_settle_17 : decode cX6_settle 17 = .ok (.iconst (-1), 1) := by decide +kernel
theorem dX6_settle_18 : decode cX6_settle 18 = .ok (.putfield 26, 3) := by decide +kernel
theorem dX6_settle_21 : decode cX6_settle 21 = .ok (.aload_n 0, 1) := by decide +kernel
theorem dX6_settle_22 : decode cX6_settle 22 = .ok (.iconst 0, 1) := by decide +kernel
theorem dX6_settle_23 : decode cX6_settle 23 = .ok (.putfield 29, 3) := by decide +kernel
theorem dX6_settle_26 : decode cX6_settle 26 = .ok (.aload_n 0, 1) := by decide +kernel
theorem dX6_settle_27 : decode cX6_settle 27 = .ok (.aload_n 1, 1) := by decide +kernel
theorem dX6_settle_28 : decode cX6_settle 28 = .ok (.getfield 32, 3) := by decide +kernel
theorem dX6_settle_31 : decode cX6_settle 31 = .ok (.iload_n 2, 1) := by decide +kernel
theorem dX6_settle_32 : decode cX6_settle 32 = .ok (.ishr, 1) := by decide +kernel
theorem dX6_settle_33 : decode cX6_settle 33 = .ok (.iconst 1, 1) := by decide +kernel
theorem dX6_settle_34 : decode cX6_settle 34 = .ok (.iand, 1) := by decide +kernel
theorem dX6_settle_35 : decode cX6_settle 35 = .ok (.ifCond .eq 7, 3) := by decide +kernel
theorem dX6_settle_38 : decode cX6_settle 38 = .ok (.iconst 1, 1) := by decide +kernel
theorem dX6_settle_39 : decode cX6_settle 39 = .ok (.goto 4, 3) := by decide +kernel
theorem dX6_settle_42 : decode cX6_settle 42 = .ok (.iconst 0, 1) := by decide +kernel
theorem dX6_settle_43 : decode cX6_settle 43 = .ok (.putfield 37, 3) := by decide +kernel
theorem dX6_settle_46 : decode cX6_settle 46 = .ok (.aload_n 0, 1) := by decide +kernel
theorem dX6_settle_47 : decode cX6_settle 47 = .ok (.aload_n 1, 1) := by decide +kernel
theorem dX6_settle_48 : decode cX6_settle 48 = .ok (.getfield 41, 3) := by decide +kernel
theorem dX6_settle_51 : decode cX6_settle 51 = .ok (.putfield 44, 3) := by decide +kernel
theorem dX6_settle_54 : decode cX6_settle 54 = .ok (.aload_n 3, 1) := by decide +kernel
theorem dX6_settle_55 : decode cX6_settle 55 = .ok (.ifnonnull 4, 3) := by decide +kernel
theorem dX6_settle_58 : decode cX6_settle 58 = .ok (.return_, 1) := by decide +kernel
theorem dX6_settle_59 : decode cX6_settle 59 = .ok (.iconst 0, 1) := by decide +kernel
theorem dX6_settle_60 : decode cX6_settle 60 = .ok (.istore 4, 2) := by decide +kernel
theorem dX6_settle_62 : decode cX6_settle 62 = .ok (.iload 4, 2) := by decide +kernel
theorem dX6_settle_64 : decode cX6_settle 64 = .ok (.aload_n 3, 1) := by decide +kernel
theorem dX6_settle_65 : decode cX6_settle 65 = .ok (.getfield 45, 3) := by decide +kernel
theorem dX6_settle_68 : decode cX6_settle 68 = .ok (.if_icmp .ge 54, 3) := by decide +kernel
theorem dX6_settle_71 : decode cX6_settle 71 = .ok (.aload_n 3, 1) := by decide +kernel
theorem dX6_settle_72 : decode cX6_settle 72 = .ok (.getfield 50, 3) := by decide +kernel
theorem dX6_settle_75 : decode cX6_settle 75 = .ok (.iload 4, 2) := by decide +kernel
theorem dX6_settle_77 : decode cX6_settle 77 = .ok (.iaload, 1) := by decide +kernel
theorem dX6_settle_78 : decode cX6_settle 78 = .ok (.istore 5, 2) := by decide +kernel
theorem dX6_settle_80 : decode cX6_settle 80 = .ok (.aload_n 3, 1) := by decide +kernel
theorem dX6_settle_81 : decode cX6_settle 81 = .ok (.getfield 53, 3) := by decide +kernel
theorem dX6_settle_84 : decode cX6_settle 84 = .ok (.iload 5, 2) := by decide +kernel
theorem dX6_settle_86 : decode cX6_settle 86 = .ok (.aaload, 1) := by decide +kernel
theorem dX6_settle_87 : decode cX6_settle 87 = .ok (.astore 6, 2) := by decide +kernel
theorem dX6_settle_89 : decode cX6_settle 89 = .ok (.aload 6, 2) := by decide +kernel
theorem dX6_settle_91 : decode cX6_settle 91 = .ok (.aload_n 1, 1) := by decide +kernel
theorem dX6_settle_92 : decode cX6_settle 92 = .ok (.iload_n 2, 1) := by decide +kernel
theorem dX6_settle_93 : decode cX6_settle 93 = .ok (.invokevirtual 57, 3) := by decide +kernel
theorem dX6_settle_96 : decode cX6_settle 96 = .ok (.ifCond .eq 20, 3) := by decide +kernel
theorem dX6_settle_99 : decode cX6_settle 99 = .ok (.aload_n 0, 1) := by decide +kernel
theorem dX6_settle_100 : decode cX6_settle 100 = .ok (.aload 6, 2) := by decide +kernel
theorem dX6_settle_102 : decode cX6_settle 102 = .ok (.getfield 63, 3) := by decide +kernel
theorem dX6_settle_105 : decode cX6_settle 105 = .ok (.iload 5, 2) := by decide +kernel
theorem dX6_settle_107 : decode cX6_settle 107 = .ok (.aload 6, 2) := by decide +kernel
theorem dX6_settle_109 : decode cX6_settle 109 = .ok (.aload_n 1, 1) := by decide +kernel
theorem dX6_settle_110 : decode cX6_settle 110 = .ok (.invokevirtual 66, 3) := by decide +kernel
theorem dX6_settle_113 : decode cX6_settle 113 = .ok (.invokevirtual 70, 3) := by decide +kernel
theorem dX6_settle_116 : decode cX6_settle 116 = .ok (.iinc 4 1, 3) := by decide +kernel
theorem dX6_settle_119 : decode cX6_settle 119 = .ok (.goto (-57), 3) := by decide +kernel
theorem dX6_settle_122 : decode cX6_settle 122 = .ok (.return_, 1) := by decide +kernel
theorem dX6_take_0 : decode cX6_take 0 = .ok (.iload_n 1, 1) := by decide +kernel
theorem dX6_take_1 : decode cX6_take 1 = .ok (.ifCond .ne 22, 3) := by decide +kernel
theorem dX6_take_4 : decode cX6_take 4 = .ok (.aload_n 0, 1) := by decide +kernel
theorem dX6_take_5 : decode cX6_take 5 = .ok (.iload_n 3, 1) := by decide +kernel
theorem dX6_take_6 : decode cX6_take 6 = .ok (.iconst (-1), 1) := by decide +kernel
theorem dX6_take_7 : decode cX6_take 7 = .ok (.if_icmp .ne 8, 3) := by decide +kernel
theorem dX6_take_10 : decode cX6_take 10 = .ok (.ldc 19, 2) := by decide +kernel
theorem dX6_take_12 : decode cX6_take 12 = .ok (.goto 4, 3) := by decide +kernel
theorem dX6_take_15 : decode cX6_take 15 = .ok (.iload_n 3, 1) := by decide +kernel
theorem dX6_take_16 : decode cX6_take 16 = .ok (.iload_n 2, 1) := by decide +kernel
theorem dX6_take_17 : decode cX6_take 17 = .ok (.invokevirtual 74, 3) := by decide +kernel
theorem dX6_take_20 : decode cX6_take 20 = .ok (.goto 14, 3) := by decide +kernel
theorem dX6_take_23 : decode cX6_take 23 = .ok (.iload_n 3, 1) := by decide +kernel
theorem dX6_take_24 : decode cX6_take 24 = .ok (.iconst (-1), 1) := by decide +kernel
theorem dX6_take_25 : decode cX6_take 25 = .ok (.if_icmp .eq 9, 3) := by decide +kernel
theorem dX6_take_28 : decode cX6_take 28 = .ok (.aload_n 0, 1) := by decide +kernel
theorem dX6_take_29 : decode cX6_take 29 = .ok (.iload_n 3, 1) := by decide +kernel
theorem dX6_take_30 : decode cX6_take 30 = .ok (.iload_n 2, 1) := by decide +kernel
theorem dX6_take_31 : decode cX6_take 31 = .ok (.invokevirtual 78, 3) := by decide +kernel
theorem dX6_take_34 : decode cX6_take 34 = .ok (.return_, 1) := by decide +kernel
theorem dX6_keepUntil_0 : decode cX6_keepUntil 0 = .ok (.iload_n 1, 1) := by decide +kernel
theorem dX6_keepUntil_1 : decode cX6_keepUntil 1 = .ok (.aload_n 0, 1) := by decide +kernel
theorem dX6_keepUntil_2 : decode cX6_keepUntil 2 = .ok (.getfield 20, 3) := by decide +kernel
theorem dX6_keepUntil_5 : decode cX6_keepUntil 5 = .ok (.if_icmp .le 11, 3) := by decide +kernel
theorem dX6_keepUntil_8 : decode cX6_keepUntil 8 = .ok (.aload_n 0, 1) := by decide +kernel
theorem dX6_keepUntil_9 : decode cX6_keepUntil 9 = .ok (.iload_n 2, 1) := by decide +kernel
theorem dX6_keepUntil_10 : decode cX6_keepUntil 10 = .ok (.invokevirtual 81, 3) := by decide +kernel
theorem dX6_keepUntil_13 : decode cX6_keepUntil 13 = .ok (.goto 21, 3) := by decide +kernel
theorem dX6_keepUntil_16 : decode cX6_keepUntil 16 = .ok (.iload_n 1, 1) := by decide +kernel
theorem dX6_keepUntil_17 : decode cX6_keepUntil 17 = .ok (.aload_n 0, 1) := by decide +kernel
theorem dX6_keepUntil_18 : decode cX6_keepUntil 18 = .ok (.getfield 15, 3) := by decide +kernel
theorem dX6_keepUntil_21 : decode cX6_keepUntil 21 = .ok (.if_icmp .le 13, 3) := by decide +kernel
theorem dX6_keepUntil_24 : decode cX6_keepUntil 24 = .ok (.aload_n 0, 1) := by decide +kernel
theorem dX6_keepUntil_25 : decode cX6_keepUntil 25 = .ok (.iload_n 1, 1) := by decide +kernel
theorem dX6_keepUntil_26 : decode cX6_keepUntil 26 = .ok (.putfield 15, 3) := by decide +kernel
theorem dX6_keepUntil_29 : decode cX6_keepUntil 29 = .ok (.aload_n 0, 1) := by decide +kernel
theorem dX6_keepUntil_30 : decode cX6_keepUntil 30 = .ok (.iload_n 2, 1) := by decide +kernel
theorem dX6_keepUntil_31 : decode cX6_keepUntil 31 = .ok (.putfield 23, 3) := by decide +kernel
theorem dX6_keepUntil_34 : decode cX6_keepUntil 34 = .ok (.return_, 1) := by decide +kernel
theorem dX6_endAt_0 : decode cX6_endAt 0 = .ok (.iload_n 1, 1) := by decide +kernel
theorem dX6_endAt_1 : decode cX6_endAt 1 = .ok (.aload_n 0, 1) := by decide +kernel
theorem dX6_endAt_2 : decode cX6_endAt 2 = .ok (.getfield 15, 3) := by decide +kernel
theorem dX6_endAt_5 : decode cX6_endAt 5 = .ok (.if_icmp .ge 11, 3) := by decide +kernel
theorem dX6_endAt_8 : decode cX6_endAt 8 = .ok (.aload_n 0, 1) := by decide +kernel
theorem dX6_endAt_9 : decode cX6_endAt 9 = .ok (.iload_n 2, 1) := by decide +kernel
theorem dX6_endAt_10 : decode cX6_endAt 10 = .ok (.invokevirtual 81, 3) := by decide +kernel
theorem dX6_endAt_13 : decode cX6_endAt 13 = .ok (.goto 21, 3) := by decide +kernel
theorem dX6_endAt_16 : decode cX6_endAt 16 = .ok (.iload_n 1, 1) := by decide +kernel
theorem dX6_endAt_17 : decode cX6_endAt 17 = .ok (.aload_n 0, 1) := by decide +kernel
theorem dX6_endAt_18 : decode cX6_endAt 18 = .ok (.getfield 20, 3) := by decide +kernel
theorem dX6_endAt_21 : decode cX6_endAt 21 = .ok (.if_icmp .ge 13, 3) := by decide +kernel
theorem dX6_endAt_24 : decode cX6_endAt 24 = .ok (.aload_n 0, 1) := by decide +kernel
theorem dX6_endAt_25 : decode cX6_endAt 25 = .ok (.iload_n 1, 1) := by decide +kernel
theorem dX6_endAt_26 : decode cX6_endAt 26 = .ok (.putfield 20, 3) := by decide +kernel
theorem dX6_endAt_29 : decode cX6_endAt 29 = .ok (.aload_n 0, 1) := by decide +kernel
theorem dX6_endAt_30 : decode cX6_endAt 30 = .ok (.iload_n 2, 1) := by decide +kernel
theorem dX6_endAt_31 : decode cX6_endAt 31 = .ok (.putfield 26, 3) := by decide +kernel
theorem dX6_endAt_34 : decode cX6_endAt 34 = .ok (.return_, 1) := by decide +kernel
theorem dX6_lose_0 : decode cX6_lose 0 = .ok (.aload_n 0, 1) := by decide +kernel
theorem dX6_lose_1 : decode cX6_lose 1 = .ok (.getfield 29, 3) := by decide +kernel
theorem dX6_lose_4 : decode cX6_lose 4 = .ok (.bipush 24, 2) := by decide +kernel
theorem dX6_lose_6 : decode cX6_lose 6 = .ok (.if_icmp .ge 23, 3) := by decide +kernel
theorem dX6_lose_9 : decode cX6_lose 9 = .ok (.aload_n 0, 1) := by decide +kernel
theorem dX6_lose_10 : decode cX6_lose 10 = .ok (.getfield 9, 3) := by decide +kernel
theorem dX6_lose_13 : decode cX6_lose 13 = .ok (.aload_n 0, 1) := by decide +kernel
theorem dX6_lose_14 : decode cX6_lose 14 = .ok (.getfield 29, 3) := by decide +kernel
theorem dX6_lose_17 : decode cX6_lose 17 = .ok (.iload_n 1, 1) := by decide +kernel
theorem dX6_lose_18 : decode cX6_lose 18 = .ok (.iastore, 1) := by decide +kernel
theorem dX6_lose_19 : decode cX6_lose 19 = .ok (.aload_n 0, 1) := by decide +kernel
theorem dX6_lose_20 : decode cX6_lose 20 = .ok (.dup, 1) := by decide +kernel
theorem dX6_lose_21 : decode cX6_lose 21 = .ok (.getfield 29, 3) := by decide +kernel
theorem dX6_lose_24 : decode cX6_lose 24 = .ok (.iconst 1, 1) := by decide +kernel
theorem dX6_lose_25 : decode cX6_lose 25 = .ok (.iadd, 1) := by decide +kernel
theorem dX6_lose_26 : decode cX6_lose 26 = .ok (.putfield 29, 3) := by decide +kernel
theorem dX6_lose_29 : decode cX6_lose 29 = .ok (.return_, 1) := by decide +kernel
theorem dX6_isDue_0 : decode cX6_isDue 0 = .ok (.aload_n 0, 1) := by decide +kernel
theorem dX6_isDue_1 : decode cX6_isDue 1 = .ok (.getfield 37, 3) := by decide +kernel
theorem dX6_isDue_4 : decode cX6_isDue 4 = .ok (.ifCond .ne 31, 3) := by decide +kernel
theorem dX6_isDue_7 : decode cX6_isDue 7 = .ok (.aload_n 0, 1) := by decide +kernel
theorem dX6_isDue_8 : decode cX6_isDue 8 = .ok (.getfield 15, 3) := by decide +kernel
theorem dX6_isDue_11 : decode cX6_isDue 11 = .ok (.iload_n 1, 1) := by decide +kernel
theorem dX6_isDue_12 : decode cX6_isDue 12 = .ok (.if_icmp .gt 23, 3) := by decide +kernel
theorem dX6_isDue_15 : decode cX6_isDue 15 = .ok (.aload_n 0, 1) := by decide +kernel
theorem dX6_isDue_16 : decode cX6_isDue 16 = .ok (.getfield 20, 3) := by decide +kernel
theorem dX6_isDue_19 : decode cX6_isDue 19 = .ok (.ldc 19, 2) := by decide +kernel
theorem dX6_isDue_21 : decode cX6_isDue 21 = .ok (.if_icmp .ne 10, 3) := by decide +kernel
theorem dX6_isDue_24 : decode cX6_isDue 24 = .ok (.aload_n 0, 1) := by decide +kernel
theorem dX6_isDue_25 : decode cX6_isDue 25 = .ok (.getfield 44, 3) := by decide +kernel
theorem dX6_isDue_28 : decode cX6_isDue 28 = .ok (.ifCond .eq 7, 3) := by decide +kernel
theorem dX6_isDue_31 : decode cX6_isDue 31 = .ok (.iconst 1, 1) := by decide +kernel
theorem dX6_isDue_32 : decode cX6_isDue 32 = .ok (.goto 4, 3) := by decide +kernel
theorem dX6_isDue_35 : decode cX6_isDue 35 = .ok (.iconst 0, 1) := by decide +kernel
theorem dX6_isDue_36 : decode cX6_isDue 36 = .ok (.ireturn, 1) := by decide +kernel
theorem dX7_init_0 : decode cX7_init 0 = .ok (.aload_n 0, 1) := by decide +kernel
theorem dX7_init_1 : decode cX7_init 1 = .ok (.invokespecial 3, 3) := by decide +kernel
theorem dX7_init_4 : decode cX7_init 4 = .ok (.aload_n 0, 1) := by decide +kernel
theorem dX7_init_5 : decode cX7_init 5 = .ok (.iconst 1, 1) := by decide +kernel
theorem dX7_init_6 : decode cX7_init 6 = .ok (.putfield 9, 3) := by decide +kernel
theorem dX7_init_9 : decode cX7_init 9 = .ok (.return_, 1) := by decide +kernel
theorem dX7_firstFrom_0 : decode cX7_firstFrom 0 = .ok (.iload_n 1, 1) := by decide +kernel
theorem dX7_firstFrom_1 : decode cX7_firstFrom 1 = .ok (.aload_n 0, 1) := by decide +kernel
theorem dX7_firstFrom_2 : decode cX7_firstFrom 2 = .ok (.getfield 15, 3) := by decide +kernel
theorem dX7_firstFrom_5 : decode cX7_firstFrom 5 = .ok (.if_icmp .gt 8, 3) := by decide +kernel
theorem dX7_firstFrom_8 : decode cX7_firstFrom 8 = .ok (.aload_n 0, 1) := by decide +kernel
theorem dX7_firstFrom_9 : decode cX7_firstFrom 9 = .ok (.getfield 15, 3) := by decide +kernel
theorem dX7_firstFrom_12 : decode cX7_firstFrom 12 = .ok (.ireturn, 1) := by decide +kernel
theorem dX7_firstFrom_13 : decode cX7_firstFrom 13 = .ok (.aload_n 0, 1) := by decide +kernel
theorem dX7_firstFrom_14 : decode cX7_firstFrom 14 = .ok (.getfield 9, 3) := by decide +kernel
theorem dX7_firstFrom_17 : decode cX7_firstFrom 17 = .ok (.iconst 1, 1) := by decide +kernel
theorem dX7_firstFrom_18 : decode cX7_firstFrom 18 = .ok (.if_icmp .ge 7, 3) := by decide +kernel
theorem dX7_firstFrom_21 : decode cX7_firstFrom 21 = .ok (.iconst 0, 1) := by decide +kernel
theorem dX7_firstFrom_22 : decode cX7_firstFrom 22 = .ok (.goto 14, 3) := by decide +kernel
theorem dX7_firstFrom_25 : decode cX7_firstFrom 25 = .ok (.iload_n 1, 1) := by decide +kernel
theorem dX7_firstFrom_26 : decode cX7_firstFrom 26 = .ok (.aload_n 0, 1) := by decide +kernel
theorem dX7_firstFrom_27 : decode cX7_firstFrom 27 = .ok (.getfield 15, 3) := by decide +kernel
theorem dX7_firstFrom_30 : decode cX7_firstFrom 30 = .ok (.isub, 1) := by decide +kernel
theorem dX7_firstFrom_31 : decode cX7_firstFrom 31 = .ok (.aload_n 0, 1) := by decide +kernel
theorem dX7_firstFrom_32 : decode cX7_firstFrom 32 = .ok (.getfield 9, 3) := by decide +kernel
theorem dX7_firstFrom_35 : decode cX7_firstFrom 35 = .ok (.irem, 1) := by decide +kernel
theorem dX7_firstFrom_36 : decode cX7_firstFrom 36 = .ok (.istore_n 2, 1) := by decide +kernel
theorem dX7_firstFrom_37 : decode cX7_firstFrom 37 = .ok (.iload_n 2, 1) := by decide +kernel
theorem dX7_firstFrom_38 : decode cX7_firstFrom 38 = .ok (.ifCond .ne 7, 3) := by decide +kernel
theorem dX7_firstFrom_41 : decode cX7_firstFrom 41 = .ok (.iload_n 1, 1) := by decide +kernel
theorem dX7_firstFrom_42 : decode cX7_firstFrom 42 = .ok (.goto 11, 3) := by decide +kernel
theorem dX7_firstFrom_45 : decode cX7_firstFrom 45 = .ok (.iload_n 1, 1) := by decide +kernel
theorem dX7_firstFrom_46 : decode cX7_firstFrom 46 = .ok (.aload_n 0, 1) := by decide +kernel
theorem dX7_firstFrom_47 : decode cX7_firstFrom 47 = .ok (.getfield 9, 3) := by decide +kernel
theorem dX7_firstFrom_50 : decode cX7_firstFrom 50 = .ok (.iadd, 1) := by decide +kernel
theorem dX7_firstFrom_51 : decode cX7_firstFrom 51 = .ok (.iload_n 2, 1) := by decide +kernel
theorem dX7_firstFrom_52 : decode cX7_firstFrom 52 = .ok (.isub, 1) := by decide +kernel
theorem dX7_firstFrom_53 : decode cX7_firstFrom 53 = .ok (.istore_n 3, 1) := by decide +kernel
theorem dX7_firstFrom_54 : decode cX7_firstFrom 54 = .ok (.iload_n 3, 1) := by decide +kernel
theorem dX7_firstFrom_55 : decode cX7_firstFrom 55 = .ok (.ldc 18, 2) := by decide +kernel
theorem dX7_firstFrom_57 : decode cX7_firstFrom 57 = .ok (.if_icmp .le 8, 3) := by decide +kernel
theorem dX7_firstFrom_60 : decode cX7_firstFrom 60 = .ok (.ldc 19, 2) := by decide +kernel
theorem dX7_firstFrom_62 : decode cX7_firstFrom 62 = .ok (.goto 4, 3) := by decide +kernel
theorem dX7_firstFrom_65 : decode cX7_firstFrom 65 = .ok (.iload_n 3, 1) := by decide +kernel
theorem dX7_firstFrom_66 : decode cX7_firstFrom 66 = .ok (.ireturn, 1) := by decide +kernel
theorem dX8_init_0 : decode cX8_init 0 = .ok (.aload_n 0, 1) := by decide +kernel
theorem dX8_init_1 : decode cX8_init 1 = .ok (.invokespecial 3, 3) := by decide +kernel
theorem dX8_init_4 : decode cX8_init 4 = .ok (.aload_n 0, 1) := by decide +kernel
theorem dX8_init_5 : decode cX8_init 5 = .ok (.iload_n 1, 1) := by decide +kernel
theorem dX8_init_6 : decode cX8_init 6 = .ok (.putfield 9, 3) := by decide +kernel
theorem dX8_init_9 : decode cX8_init 9 = .ok (.aload_n 0, 1) := by decide +kernel
theorem dX8_init_10 : decode cX8_init 10 = .ok (.iconst 4, 1) := by decide +kernel
theorem dX8_init_11 : decode cX8_init 11 = .ok (.newarray .int, 2) := by decide +kernel
theorem dX8_init_13 : decode cX8_init 13 = .ok (.putfield 15, 3) := by decide +kernel
theorem dX8_init_16 : decode cX8_init 16 = .ok (.aload_n 0, 1) := by decide +kernel
theorem dX8_init_17 : decode cX8_init 17 = .ok (.iconst 4, 1) := by decide +kernel
theorem dX8_init_18 : decode cX8_init 18 = .ok (.newarray .int, 2) := by decide +kernel
theorem dX8_init_20 : decode cX8_init 20 = .ok (.putfield 19, 3) := by decide +kernel
theorem dX8_init_23 : decode cX8_init 23 = .ok (.iconst 0, 1) := by decide +kernel
theorem dX8_init_24 : decode cX8_init 24 = .ok (.istore_n 2, 1) := by decide +kernel
theorem dX8_init_25 : decode cX8_init 25 = .ok (.iload_n 2, 1) := by decide +kernel
theorem dX8_init_26 : decode cX8_init 26 = .ok (.iconst 4, 1) := by decide +kernel
theorem dX8_init_27 : decode cX8_init 27 = .ok (.if_icmp .ge 16, 3) := by decide +kernel
theorem dX8_init_30 : decode cX8_init 30 = .ok (.aload_n 0, 1) := by decide +kernel
theorem dX8_init_31 : decode cX8_init 31 = .ok (.getfield 19, 3) := by decide +kernel
theorem dX8_init_34 : decode cX8_init 34 = .ok (.iload_n 2, 1) := by decide +kernel
theorem dX8_init_35 : decode cX8_init 35 = .ok (.iconst (-1), 1) := by decide +kernel
theorem dX8_init_36 : decode cX8_init 36 = .ok (.iastore, 1) := by decide +kernel
theorem dX8_init_37 : decode cX8_init 37 = .ok (.iinc 2 1, 3) := by decide +kernel
theorem dX8_init_40 : decode cX8_init 40 = .ok (.goto (-15), 3) := by decide +kernel
theorem dX8_init_43 : decode cX8_init 43 = .ok (.aload_n 0, 1) := by decide +kernel
theorem dX8_init_44 : decode cX8_init 44 = .ok (.bipush 8, 2) := by decide +kernel
theorem dX8_init_46 : decode cX8_init 46 = .ok (.newarray .int, 2) := by decide +kernel
theorem dX8_init_48 : decode cX8_init 48 = .ok (.putfield 22, 3) := by decide +kernel
theorem dX8_init_51 : decode cX8_init 51 = .ok (.return_, 1) := by decide +kernel
theorem dX8_hasCopy_0 : decode cX8_hasCopy 0 = .ok (.aload_n 0, 1) := by decide +kernel
theorem dX8_hasCopy_1 : decode cX8_hasCopy 1 = .ok (.getfield 22, 3) := by decide +kernel
theorem dX8_hasCopy_4 : decode cX8_hasCopy 4 = .ok (.iload_n 1, 1) := by decide +kernel
theorem dX8_hasCopy_5 : decode cX8_hasCopy 5 = .ok (.iaload, 1) := by decide +kernel
theorem dX8_hasCopy_6 : decode cX8_hasCopy 6 = .ok (.iload_n 2, 1) := by decide +kernel
theorem dX8_hasCopy_7 : decode cX8_hasCopy 7 = .ok (.ishr, 1) := by decide +kernel
theorem dX8_hasCopy_8 : decode cX8_hasCopy 8 = .ok (.iconst 1, 1) := by decide +kernel
theorem dX8_hasCopy_9 : decode cX8_hasCopy 9 = .ok (.iand, 1) := by decide +kernel
theorem dX8_hasCopy_10 : decode cX8_hasCopy 10 = .ok (.ifCond .eq 7, 3) := by decide +kernel
theorem dX8_hasCopy_13 : decode cX8_hasCopy 13 = .ok (.iconst 1, 1) := by decide +kernel
theorem dX8_hasCopy_14 : decode cX8_hasCopy 14 = .ok (.goto 4, 3) := by decide +kernel
theorem dX8_hasCopy_17 : decode cX8_hasCopy 17 = .ok (.iconst 0, 1) := by decide +kernel
theorem dX8_hasCopy_18 : decode cX8_hasCopy 18 = .ok (.ireturn, 1) := by decide +kernel
theorem dJ6_bitCount_0f7a4_0 : decode cJ6_bitCount_0f7a4 0 = .ok (.iload_n 0, 1) := by decide +kernel
theorem dJ6_bitCount_0f7a4_1 : decode cJ6_bitCount_0f7a4 1 = .ok (.iload_n 0, 1) := by decide +kernel
theorem dJ6_bitCount_0f7a4_2 : decode cJ6_bitCount_0f7a4 2 = .ok (.iconst 1, 1) := by decide +kernel
theorem dJ6_bitCount_0f7a4_3 : decode cJ6_bitCount_0f7a4 3 = .ok (.iushr, 1) := by decide +kernel
theorem dJ6_bitCount_0f7a4_4 : decode cJ6_bitCount_0f7a4 4 = .ok (.ldc_w 265, 3) := by decide +kernel
theorem dJ6_bitCount_0f7a4_7 : decode cJ6_bitCount_0f7a4 7 = .ok (.iand, 1) := by decide +kernel
theorem dJ6_bitCount_0f7a4_8 : decode cJ6_bitCount_0f7a4 8 = .ok (.isub, 1) := by decide +kernel
theorem dJ6_bitCount_0f7a4_9 : decode cJ6_bitCount_0f7a4 9 = .ok (.istore_n 0, 1) := by decide +kernel
theorem dJ6_bitCount_0f7a4_10 : decode cJ6_bitCount_0f7a4 10 = .ok (.iload_n 0, 1) := by decide +kernel
theorem dJ6_bitCount_0f7a4_11 : decode cJ6_bitCount_0f7a4 11 = .ok (.ldc_w 266, 3) := by decide +kernel
theorem dJ6_bitCount_0f7a4_14 : decode cJ6_bitCount_0f7a4 14 = .ok (.iand, 1) := by decide +kernel
theorem dJ6_bitCount_0f7a4_15 : decode cJ6_bitCount_0f7a4 15 = .ok (.iload_n 0, 1) := by decide +kernel
theorem dJ6_bitCount_0f7a4_16 : decode cJ6_bitCount_0f7a4 16 = .ok (.iconst 2, 1) := by decide +kernel
theorem dJ6_bitCount_0f7a4_17 : decode cJ6_bitCount_0f7a4 17 = .ok (.iushr, 1) := by decide +kernel
theorem dJ6_bitCount_0f7a4_18 : decode cJ6_bitCount_0f7a4 18 = .ok (.ldc_w 266, 3) := by decide +kernel
theorem dJ6_bitCount_0f7a4_21 : decode cJ6_bitCount_0f7a4 21 = .ok (.iand, 1) := by decide +kernel
theorem dJ6_bitCount_0f7a4_22 : decode cJ6_bitCount_0f7a4 22 = .ok (.iadd, 1) := by decide +kernel
theorem dJ6_bitCount_0f7a4_23 : decode cJ6_bitCount_0f7a4 23 = .ok (.istore_n 0, 1) := by decide +kernel
theorem dJ6_bitCount_0f7a4_24 : decode cJ6_bitCount_0f7a4 24 = .ok (.iload_n 0, 1) := by decide +kernel
theorem dJ6_bitCount_0f7a4_25 : decode cJ6_bitCount_0f7a4 25 = .ok (.iload_n 0, 1) := by decide +kernel
theorem dJ6_bitCount_0f7a4_26 : decode cJ6_bitCount_0f7a4 26 = .ok (.iconst 4, 1) := by decide +kernel
theorem dJ6_bitCount_0f7a4_27 : decode cJ6_bitCount_0f7a4 27 = .ok (.iushr, 1) := by decide +kernel
theorem dJ6_bitCount_0f7a4_28 : decode cJ6_bitCount_0f7a4 28 = .ok (.iadd, 1) := by decide +kernel
theorem dJ6_bitCount_0f7a4_29 : decode cJ6_bitCount_0f7a4 29 = .ok (.ldc_w 267, 3) := by decide +kernel
theorem dJ6_bitCount_0f7a4_32 : decode cJ6_bitCount_0f7a4 32 = .ok (.iand, 1) := by decide +kernel
theorem dJ6_bitCount_0f7a4_33 : decode cJ6_bitCount_0f7a4 33 = .ok (.istore_n 0, 1) := by decide +kernel
theorem dJ6_bitCount_0f7a4_34 : decode cJ6_bitCount_0f7a4 34 = .ok (.iload_n 0, 1) := by decide +kernel
theorem dJ6_bitCount_0f7a4_35 : decode cJ6_bitCount_0f7a4 35 = .ok (.iload_n 0, 1) := by decide +kernel
theorem dJ6_bitCount_0f7a4_36 : decode cJ6_bitCount_0f7a4 36 = .ok (.bipush 8, 2) := by decide +kernel
theorem dJ6_bitCount_0f7a4_38 : decode cJ6_bitCount_0f7a4 38 = .ok (.iushr, 1) := by decide +kernel
theorem dJ6_bitCount_0f7a4_39 : decode cJ6_bitCount_0f7a4 39 = .ok (.iadd, 1) := by decide +kernel
theorem dJ6_bitCount_0f7a4_40 : decode cJ6_bitCount_0f7a4 40 = .ok (.istore_n 0, 1) := by decide +kernel
theorem dJ6_bitCount_0f7a4_41 : decode cJ6_bitCount_0f7a4 41 = .ok (.iload_n 0, 1) := by decide +kernel
theorem dJ6_bitCount_0f7a4_42 : decode cJ6_bitCount_0f7a4 42 = .ok (.iload_n 0, 1) := by decide +kernel
theorem dJ6_bitCount_0f7a4_43 : decode cJ6_bitCount_0f7a4 43 = .ok (.bipush 16, 2) := by decide +kernel
theorem dJ6_bitCount_0f7a4_45 : decode cJ6_bitCount_0f7a4 45 = .ok (.iushr, 1) := by decide +kernel
theorem dJ6_bitCount_0f7a4_46 : decode cJ6_bitCount_0f7a4 46 = .ok (.iadd, 1) := by decide +kernel
theorem dJ6_bitCount_0f7a4_47 : decode cJ6_bitCount_0f7a4 47 = .ok (.istore_n 0, 1) := by decide +kernel
theorem dJ6_bitCount_0f7a4_48 : decode cJ6_bitCount_0f7a4 48 = .ok (.iload_n 0, 1) := by decide +kernel
theorem dJ6_bitCount_0f7a4_49 : decode cJ6_bitCount_0f7a4 49 = .ok (.bipush 63, 2) := by decide +kernel
theorem dJ6_bitCount_0f7a4_51 : decode cJ6_bitCount_0f7a4 51 = .ok (.iand, 1) := by decide +kernel
theorem dJ6_bitCount_0f7a4_52 : decode cJ6_bitCount_0f7a4 52 = .ok (.ireturn, 1) := by decide +kernel
theorem dJ9_max_7cf53_0 : decode cJ9_max_7cf53 0 = .ok (.iload_n 0, 1) := by decide +kernel
theorem dJ9_max_7cf53_1 : decode cJ9_max_7cf53 1 = .ok (.iload_n 1, 1) := by decide +kernel
theorem dJ9_max_7cf53_2 : decode cJ9_max_7cf53 2 = .ok (.if_icmp .lt 7, 3) := by decide +kernel
theorem dJ9_max_7cf53_5 : decode cJ9_max_7cf53 5 = .ok (.iload_n 0, 1) := by decide +kernel
theorem dJ9_max_7cf53_6 : decode cJ9_max_7cf53 6 = .ok (.goto 4, 3) := by decide +kernel
theorem dJ9_max_7cf53_9 : decode cJ9_max_7cf53 9 = .ok (.iload_n 1, 1) := by decide +kernel
theorem dJ9_max_7cf53_10 : decode cJ9_max_7cf53 10 = .ok (.ireturn, 1) := by decide +kernel
theorem dJ9_min_7cf53_0 : decode cJ9_min_7cf53 0 = .ok (.iload_n 0, 1) := by decide +kernel
theorem dJ9_min_7cf53_1 : decode cJ9_min_7cf53 1 = .ok (.iload_n 1, 1) := by decide +kernel
theorem dJ9_min_7cf53_2 : decode cJ9_min_7cf53 2 = .ok (.if_icmp .gt 7, 3) := by decide +kernel
theorem dJ9_min_7cf53_5 : decode cJ9_min_7cf53 5 = .ok (.iload_n 0, 1) := by decide +kernel
theorem dJ9_min_7cf53_6 : decode cJ9_min_7cf53 6 = .ok (.goto 4, 3) := by decide +kernel
theorem dJ9_min_7cf53_9 : decode cJ9_min_7cf53 9 = .ok (.iload_n 1, 1) := by decide +kernel
theorem dJ9_min_7cf53_10 : decode cJ9_min_7cf53 10 = .ok (.ireturn, 1) := by decide +kernel
theorem dJ0_length_8abf5_0 : decode cJ0_length_8abf5 0 = .ok (.aload_n 0, 1) := by decide +kernel
theorem dJ0_length_8abf5_1 : decode cJ0_length_8abf5 1 = .ok (.getfield 9, 3) := by decide +kernel
theorem dJ0_length_8abf5_4 : decode cJ0_length_8abf5 4 = .ok (.arraylength, 1) := by decide +kernel
theorem dJ0_length_8abf5_5 : decode cJ0_length_8abf5 5 = .ok (.aload_n 0, 1) := by decide +kernel
theorem dJ0_length_8abf5_6 : decode cJ0_length_8abf5 6 = .ok (.invokevirtual 335, 3) := by decide +kernel
theorem dJ0_length_8abf5_9 : decode cJ0_length_8abf5 9 = .ok (.ishr, 1) := by decide +kernel
theorem dJ0_length_8abf5_10 : decode cJ0_length_8abf5 10 = .ok (.ireturn, 1) := by decide +kernel
theorem dJ0_charAt_5068e_0 : decode cJ0_charAt_5068e 0 = .ok (.aload_n 0, 1) := by decide +kernel
theorem dJ0_charAt_5068e_1 : decode cJ0_charAt_5068e 1 = .ok (.invokevirtual 492, 3) := by decide +kernel
theorem dJ0_charAt_5068e_4 : decode cJ0_charAt_5068e 4 = .ok (.ifCond .eq 12, 3) := by decide +kernel
theorem dJ0_charAt_5068e_7 : decode cJ0_charAt_5068e 7 = .ok (.aload_n 0, 1) := by decide +kernel
theorem dJ0_charAt_5068e_8 : decode cJ0_charAt_5068e 8 = .ok (.getfield 9, 3) := by decide +kernel
theorem dJ0_charAt_5068e_11 : decode cJ0_charAt_5068e 11 = .ok (.iload_n 1, 1) := by decide +kernel
theorem dJ0_charAt_5068e_12 : decode cJ0_charAt_5068e 12 = .ok (.invokestatic 495, 3) := by decide +kernel
theorem dJ0_charAt_5068e_15 : decode cJ0_charAt_5068e 15 = .ok (.ireturn, 1) := by decide +kernel
theorem dJ0_charAt_5068e_16 : decode cJ0_charAt_5068e 16 = .ok (.aload_n 0, 1) := by decide +kernel
theorem dJ0_charAt_5068e_17 : decode cJ0_charAt_5068e 17 = .ok (.getfield 9, 3) := by decide +kernel
theorem dJ0_charAt_5068e_20 : decode cJ0_charAt_5068e 20 = .ok (.iload_n 1, 1) := by decide +kernel
theorem dJ0_charAt_5068e_21 : decode cJ0_charAt_5068e 21 = .ok (.invokestatic 498, 3) := by decide +kernel
theorem dJ0_charAt_5068e_24 : decode cJ0_charAt_5068e 24 = .ok (.ireturn, 1) := by decide +kernel
theorem dJ0_coder_7d493_0 : decode cJ0_coder_7d493 0 = .ok (.getstatic 38, 3) := by decide +kernel
theorem dJ0_coder_7d493_3 : decode cJ0_coder_7d493 3 = .ok (.ifCond .eq 10, 3) := by decide +kernel
theorem dJ0_coder_7d493_6 : decode cJ0_coder_7d493 6 = .ok (.aload_n 0, 1) := by decide +kernel
theorem dJ0_coder_7d493_7 : decode cJ0_coder_7d493 7 = .ok (.getfield 15, 3) := by decide +kernel
theorem dJ0_coder_7d493_10 : decode cJ0_coder_7d493 10 = .ok (.goto 4, 3) := by decide +kernel
theorem dJ0_coder_7d493_13 : decode cJ0_coder_7d493 13 = .ok (.iconst 1, 1) := by decide +kernel
theorem dJ0_coder_7d493_14 : decode cJ0_coder_7d493 14 = .ok (.ireturn, 1) := by decide +kernel
theorem dJ0_isLatin1_aae02_0 : decode cJ0_isLatin1_aae02 0 = .ok (.getstatic 38, 3) := by decide +kernel
theorem dJ0_isLatin1_aae02_3 : decode cJ0_isLatin1_aae02 3 = .ok (.ifCond .eq 14, 3) := by decide +kernel
theorem dJ0_isLatin1_aae02_6 : decode cJ0_isLatin1_aae02 6 = .ok (.aload_n 0, 1) := by decide +kernel
theorem dJ0_isLatin1_aae02_7 : decode cJ0_isLatin1_aae02 7 = .ok (.getfield 15, 3) := by decide +kernel
theorem dJ0_isLatin1_aae02_10 : decode cJ0_isLatin1_aae02 10 = .ok (.ifCond .ne 7, 3) := by decide +kernel
theorem dJ0_isLatin1_aae02_13 : decode cJ0_isLatin1_aae02 13 = .ok (.iconst 1, 1) := by decide +kernel
theorem dJ0_isLatin1_aae02_14 : decode cJ0_isLatin1_aae02 14 = .ok (.goto 4, 3) := by decide +kernel
theorem dJ0_isLatin1_aae02_17 : decode cJ0_isLatin1_aae02 17 = .ok (.iconst 0, 1) := by decide +kernel
theorem dJ0_isLatin1_aae02_18 : decode cJ0_isLatin1_aae02 18 = .ok (.ireturn, 1) := by decide +kernel
theorem dJ0_checkIndex_df160_0 : decode cJ0_checkIndex_df160 0 = .ok (.iload_n 0, 1) := by decide +kernel
theorem dJ0_checkIndex_df160_1 : decode cJ0_checkIndex_df160 1 = .ok (.iload_n 1, 1) := by decide +kernel
theorem dJ0_checkIndex_df160_2 : decode cJ0_checkIndex_df160 2 = .ok (.getstatic 1053, 3) := by decide +kernel
theorem dJ0_checkIndex_df160_5 : decode cJ0_checkIndex_df160 5 = .ok (.invokestatic 1059, 3) := by decide +kernel
theorem dJ0_checkIndex_df160_8 : decode cJ0_checkIndex_df160 8 = .ok (.pop, 1) := by decide +kernel
theorem dJ0_checkIndex_df160_9 : decode cJ0_checkIndex_df160 9 = .ok (.return_, 1) := by decide +kernel
theorem dJ1_charAt_3b067_0 : decode cJ1_charAt_3b067 0 = .ok (.iload_n 1, 1) := by decide +kernel
theorem dJ1_charAt_3b067_1 : decode cJ1_charAt_3b067 1 = .ok (.aload_n 0, 1) := by decide +kernel
theorem dJ1_charAt_3b067_2 : decode cJ1_charAt_3b067 2 = .ok (.arraylength, 1) := by decide +kernel
theorem dJ1_charAt_3b067_3 : decode cJ1_charAt_3b067 3 = .ok (.invokestatic 9, 3) := by decide +kernel
theorem dJ1_charAt_3b067_6 : decode cJ1_charAt_3b067 6 = .ok (.aload_n 0, 1) := by decide +kernel
theorem dJ1_charAt_3b067_7 : decode cJ1_charAt_3b067 7 = .ok (.iload_n 1, 1) := by decide +kernel
theorem dJ1_charAt_3b067_8 : decode cJ1_charAt_3b067 8 = .ok (.baload, 1) := by decide +kernel
theorem dJ1_charAt_3b067_9 : decode cJ1_charAt_3b067 9 = .ok (.sipush 255, 3) := by decide +kernel
theorem dJ1_charAt_3b067_12 : decode cJ1_charAt_3b067 12 = .ok (.iand, 1) := by decide +kernel
theorem dJ1_charAt_3b067_13 : decode cJ1_charAt_3b067 13 = .ok (.i2c, 1) := by decide +kernel
theorem dJ1_charAt_3b067_14 : decode cJ1_charAt_3b067 14 = .ok (.ireturn, 1) := by decide +kernel
theorem dJ2_getChar_3b067_0 : decode cJ2_getChar_3b067 0 = .ok (.getstatic 44, 3) := by decide +kernel
theorem dJ2_getChar_3b067_3 : decode cJ2_getChar_3b067 3 = .ok (.ifCond .ne 25, 3) := by decide +kernel
theorem dJ2_getChar_3b067_6 : decode cJ2_getChar_3b067 6 = .ok (.iload_n 1, 1) := by decide +kernel
theorem dJ2_getChar_3b067_7 : decode cJ2_getChar_3b067 7 = .ok (.ifCond .lt 11, 3) := by decide +kernel
theorem dJ2_getChar_3b067_10 : decode cJ2_getChar_3b067 10 = .ok (.iload_n 1, 1) := by decide +kernel
theorem dJ2_getChar_3b067_11 : decode cJ2_getChar_3b067 11 = .ok (.aload_n 0, 1) := by decide +kernel
theorem dJ2_getChar_3b067_12 : decode cJ2_getChar_3b067 12 = .ok (.invokestatic 48, 3) := by decide +kernel
theorem dJ2_getChar_3b067_15 : decode cJ2_getChar_3b067 15 = .ok (.if_icmp .lt 13, 3) := by decide +kernel
theorem dJ2_getChar_3b067_18 : decode cJ2_getChar_3b067 18 = .ok (.new 52, 3) := by decide +kernel
theorem dJ2_getChar_3b067_21 : decode cJ2_getChar_3b067 21 = .ok (.dup, 1) := by decide +kernel
theorem dJ2_getChar_3b067_22 : decode cJ2_getChar_3b067 22 = .ok (.ldc 54, 2) := by decide +kernel
theorem dJ2_getChar_3b067_24 : decode cJ2_getChar_3b067 24 = .ok (.invokespecial 56, 3) := by decide +kernel
theorem dJ2_getChar_3b067_27 : decode cJ2_getChar_3b067 27 = .ok (.athrow, 1) := by decide +kernel
theorem dJ2_getChar_3b067_28 : decode cJ2_getChar_3b067 28 = .ok (.iload_n 1, 1) := by decide +kernel
theorem dJ2_getChar_3b067_29 : decode cJ2_getChar_3b067 29 = .ok (.iconst 1, 1) := by decide +kernel
theorem dJ2_getChar_3b067_30 : decode cJ2_getChar_3b067 30 = .ok (.ishl, 1) := by decide +kernel
theorem dJ2_getChar_3b067_31 : decode cJ2_getChar_3b067 31 = .ok (.istore_n 1, 1) := by decide +kernel
theorem dJ2_getChar_3b067_32 : decode cJ2_getChar_3b067 32 = .ok (.aload_n 0, 1) := by decide +kernel
theorem dJ2_getChar_3b067_33 : decode cJ2_getChar_3b067 33 = .ok (.iload_n 1, 1) := by decide +kernel
theorem dJ2_getChar_3b067_34 : decode cJ2_getChar_3b067 34 = .ok (.iinc 1 1, 3) := by decide +kernel
theorem dJ2_getChar_3b067_37 : decode cJ2_getChar_3b067 37 = .ok (.baload, 1) := by decide +kernel
theorem dJ2_getChar_3b067_38 : decode cJ2_getChar_3b067 38 = .ok (.sipush 255, 3) := by decide +kernel
theorem dJ2_getChar_3b067_41 : decode cJ2_getChar_3b067 41 = .ok (.iand, 1) := by decide +kernel
theorem dJ2_getChar_3b067_42 : decode cJ2_getChar_3b067 42 = .ok (.getstatic 59, 3) := by decide +kernel
theorem dJ2_getChar_3b067_45 : decode cJ2_getChar_3b067 45 = .ok (.ishl, 1) := by decide +kernel
theorem dJ2_getChar_3b067_46 : decode cJ2_getChar_3b067 46 = .ok (.aload_n 0, 1) := by decide +kernel
theorem dJ2_getChar_3b067_47 : decode cJ2_getChar_3b067 47 = .ok (.iload_n 1, 1) := by decide +kernel
theorem dJ2_getChar_3b067_48 : decode cJ2_getChar_3b067 48 = .ok (.baload, 1) := by decide +kernel
theorem dJ2_getChar_3b067_49 : decode cJ2_getChar_3b067 49 = .ok (.sipush 255, 3) := by decide +kernel
theorem dJ2_getChar_3b067_52 : decode cJ2_getChar_3b067 52 = .ok (.iand, 1) := by decide +kernel
theorem dJ2_getChar_3b067_53 : decode cJ2_getChar_3b067 53 = .ok (.getstatic 63, 3) := by decide +kernel
theorem dJ2_getChar_3b067_56 : decode cJ2_getChar_3b067 56 = .ok (.ishl, 1) := by decide +kernel
theorem dJ2_getChar_3b067_57 : decode cJ2_getChar_3b067 57 = .ok (.ior, 1) := by decide +kernel
theorem dJ2_getChar_3b067_58 : decode cJ2_getChar_3b067 58 = .ok (.i2c, 1) := by decide +kernel
theorem dJ2_getChar_3b067_59 : decode cJ2_getChar_3b067 59 = .ok (.ireturn, 1) := by decide +kernel
theorem dJ2_length_9d52b_0 : decode cJ2_length_9d52b 0 = .ok (.aload_n 0, 1) := by decide +kernel
theorem dJ2_length_9d52b_1 : decode cJ2_length_9d52b 1 = .ok (.arraylength, 1) := by decide +kernel
theorem dJ2_length_9d52b_2 : decode cJ2_length_9d52b 2 = .ok (.iconst 1, 1) := by decide +kernel
theorem dJ2_length_9d52b_3 : decode cJ2_length_9d52b 3 = .ok (.ishr, 1) := by decide +kernel
theorem dJ2_length_9d52b_4 : decode cJ2_length_9d52b 4 = .ok (.ireturn, 1) := by decide +kernel
theorem dJ2_charAt_3b067_0 : decode cJ2_charAt_3b067 0 = .ok (.iload_n 1, 1) := by decide +kernel
theorem dJ2_charAt_3b067_1 : decode cJ2_charAt_3b067 1 = .ok (.aload_n 0, 1) := by decide +kernel
theorem dJ2_charAt_3b067_2 : decode cJ2_charAt_3b067 2 = .ok (.invokestatic 67, 3) := by decide +kernel
theorem dJ2_charAt_3b067_5 : decode cJ2_charAt_3b067 5 = .ok (.aload_n 0, 1) := by decide +kernel
theorem dJ2_charAt_3b067_6 : decode cJ2_charAt_3b067 6 = .ok (.iload_n 1, 1) := by decide +kernel
theorem dJ2_charAt_3b067_7 : decode cJ2_charAt_3b067 7 = .ok (.invokestatic 71, 3) := by decide +kernel
theorem dJ2_charAt_3b067_10 : decode cJ2_charAt_3b067 10 = .ok (.ireturn, 1) := by decide +kernel
theorem dJ2_checkIndex_2214a_0 : decode cJ2_checkIndex_2214a 0 = .ok (.iload_n 0, 1) := by decide +kernel
theorem dJ2_checkIndex_2214a_1 : decode cJ2_checkIndex_2214a 1 = .ok (.aload_n 1, 1) := by decide +kernel
theorem dJ2_checkIndex_2214a_2 : decode cJ2_checkIndex_2214a 2 = .ok (.invokestatic 48, 3) := by decide +kernel
theorem dJ2_checkIndex_2214a_5 : decode cJ2_checkIndex_2214a 5 = .ok (.invokestatic 414, 3) := by decide +kernel
theorem dJ2_checkIndex_2214a_8 : decode cJ2_checkIndex_2214a 8 = .ok (.return_, 1) := by decide +kernel
theorem dJ3_checkIndex_8e157_0 : decode cJ3_checkIndex_8e157 0 = .ok (.iload_n 0, 1) := by decide +kernel
theorem dJ3_checkIndex_8e157_1 : decode cJ3_checkIndex_8e157 1 = .ok (.ifCond .lt 8, 3) := by decide +kernel
theorem dJ3_checkIndex_8e157_4 : decode cJ3_checkIndex_8e157 4 = .ok (.iload_n 0, 1) := by decide +kernel
theorem dJ3_checkIndex_8e157_5 : decode cJ3_checkIndex_8e157 5 = .ok (.iload_n 1, 1) := by decide +kernel
theorem dJ3_checkIndex_8e157_6 : decode cJ3_checkIndex_8e157 6 = .ok (.if_icmp .lt 10, 3) := by decide +kernel
theorem dJ3_checkIndex_8e157_9 : decode cJ3_checkIndex_8e157 9 = .ok (.aload_n 2, 1) := by decide +kernel
theorem dJ3_checkIndex_8e157_10 : decode cJ3_checkIndex_8e157 10 = .ok (.iload_n 0, 1) := by decide +kernel
theorem dJ3_checkIndex_8e157_11 : decode cJ3_checkIndex_8e157 11 = .ok (.iload_n 1, 1) := by decide +kernel
theorem dJ3_checkIndex_8e157_12 : decode cJ3_checkIndex_8e157 12 = .ok (.invokestatic 95, 3) := by decide +kernel
theorem dJ3_checkIndex_8e157_15 : decode cJ3_checkIndex_8e157 15 = .ok (.athrow, 1) := by decide +kernel
theorem dJ3_checkIndex_8e157_16 : decode cJ3_checkIndex_8e157 16 = .ok (.iload_n 0, 1) := by decide +kernel
theorem dJ3_checkIndex_8e157_17 : decode cJ3_checkIndex_8e157 17 = .ok (.ireturn, 1) := by decide +kernel
end
section
/-! the judgement gS: the machine at a frame, beside a function's rest 'o' (an Option): where o is some X, the machine comes to QX X -/
section GS
def gS {S Rt : Type} (p : Program) (l : Launch) (e : Env) (R : Room) (s : State) (m : MethodId) (args : Array Value) (below : List Frame) (meth : Method) (c : Code) (nL : Nat) (A : Nat → Prop) (Wd : S → State → Heap → Prop) (QX : Rt → State → Prop) (cells slots : Nat) (o : Option Rt) (σ : S) (pc : Nat) (lv : List (Nat × Value)) (st : List Value) : Prop :=
  ∀ X, o = some X → ∀ (H : Heap) (locs : List Loc) (ls : Array Slot), Wd σ s H → va_S A s.heap H locs → lv_has ls nL lv → W p l e R s m args below meth c H locs cells slots (QX X) (F0 m pc ls st)
def gOk (p : Program) (s : State) (m : MethodId) (args : Array Value) (meth : Method) (c : Code) (cc : ByteArray) (nL : Nat) (own : String) (Ts : List Cond) : Prop := CallFix p m c cc nL s args Ts own ∧ meth.locks = false
def okI (i : Int32) (n : Nat) : Bool := decide (¬ (i < 0 ∨ n ≤ i.toNatClampNeg))
theorem okI_in {i : Int32} {n : Nat} (h : okI i n = true) : vp_in i n := of_decide_eq_true (p := ¬ (i < 0 ∨ n ≤ i.toNatClampNeg)) h
theorem okI_iff {i : Int32} {n : Nat} : okI i n = true ↔ 0 ≤ i.toInt ∧ i.toInt < n := by rw [← vp_in_iff]; exact ⟨okI_in, fun h => decide_eq_true (p := ¬ (i < 0 ∨ n ≤ i.toNatClampNeg)) h⟩
def okZ (x : Int32) : Bool := decide (x = 0 ∨ x = 1)
theorem okZ_nar {x : Int32} (h : okZ x = true) : narrow .boolean (.int x) = .int x := by
  rcases (of_decide_eq_true h : x = 0 ∨ x = 1) with rfl | rfl <;> decide
theorem okZ_fit {x : Int32} (h : okZ x = true) : fits .boolean (.int x) = true := by
  rcases (of_decide_eq_true h : x = 0 ∨ x = 1) with rfl | rfl <;> decide
def gMv {S : Type} (Wd : S → State → Heap → Prop) : Prop := ∀ (σ : S) (u U : State) (H : Heap), u.vm.Alike U.vm → Wd σ u H → Wd σ U H
def gKw (Ke : State → Prop) : Prop := ∀ (u U : State), u.WarmedH U.vm → Ke u → Ke U
def gPre {S : Type} (Ke : State → Prop) (Wd : S → State → Heap → Prop) (av : List Value) (σ : S) : Array Value → State → Prop := va_Pc av (fun U => Wd σ U U.heap ∧ Ke U)
def bi {S Rt : Type} (o : Option (Int32 × S)) (k : Int32 → S → Option Rt) : Option Rt := match o with
  | none => none
  | some u => k u.1 u.2
def gF : Nat := 1048576
def bnd {α Rt : Type} (v : α) (k : α → Option Rt) : Option Rt := k v
def gPi {S : Type} (Wd : S → State → Heap → Prop) (A : Nat → Prop) (X : Int32 × S) : Array Value → State → Outcome → State → Prop := va_Qi (fun r u => (r, u) = X) (fun u t => Wd u t t.heap) A
def gPv {S : Type} (Wd : S → State → Heap → Prop) (A : Nat → Prop) (X : S) : Array Value → State → Outcome → State → Prop := va_Qv (fun u => u = X) (fun u t => Wd u t t.heap) A
def gCi {S : Type} (l : Launch) (y : MethodName) (cc : ByteArray) (n : Nat) (ret : Option FieldType) (rm : Room) (Ke : State → Prop) (Wd : S → State → Heap → Prop) (A : Nat → Prop) (av : List Value) (σ : S) (o : Option (Int32 × S)) : Prop := ∀ X, o = some X → Met l y (wt y cc n ret) rm (gPre Ke Wd av σ) (gPi Wd A X) rm.cells rm.slots A
def gCv {S : Type} (l : Launch) (y : MethodName) (cc : ByteArray) (n : Nat) (ret : Option FieldType) (rm : Room) (Ke : State → Prop) (Wd : S → State → Heap → Prop) (A : Nat → Prop) (av : List Value) (σ : S) (o : Option S) : Prop := ∀ X, o = some X → Met l y (wt y cc n ret) rm (gPre Ke Wd av σ) (gPv Wd A X) rm.cells rm.slots A
def gCp {S : Type} (l : Launch) (y : MethodName) (cc : ByteArray) (n : Nat) (ret : Option FieldType) (rm : Room) (Ke : State → Prop) (Wd : S → State → Heap → Prop) (A : Nat → Prop) (av : List Value) (σ : S) (o : Option Int32) : Prop := ∀ r, o = some r → Met l y (wt y cc n ret) rm (gPre Ke Wd av σ) (gPi Wd A (r, σ)) rm.cells rm.slots A
variable {p : Program} {l : Launch} {e : Env} {R : Room} {s : State} {m : MethodId} {args : Array Value} {below : List Frame} {meth : Method} {c : Code}
variable {S Rt : Type} {cc : ByteArray} {nL : Nat} {own : String} {Ts : List Cond} {A : Nat → Prop} {Wd : S → State → Heap → Prop} {QX : Rt → State → Prop} {cells slots : Nat} {o o1 o2 : Option Rt} {σ : S} {pc : Nat} {lv : List (Nat × Value)} {st : List Value}
theorem g_iconst (h : gOk p s m args meth c cc nL own Ts) {n : Int} {v : Int32} (hd : decode cc pc = .ok (.iconst n, 1)) (hv : Int32.ofInt n = v) (kk : gS p l e R s m args below meth c nL A Wd QX cells slots o σ (pc + 1) lv (.int v :: st)) : gS p l e R s m args below meth c nL A Wd QX cells slots o σ pc lv (st) := fun X hX H locs ls hw hS hl => lv_iconst h.1.1 h.1.2.1 hd hv (kk X hX H locs ls hw hS hl)
theorem g_bipush (h : gOk p s m args meth c cc nL own Ts) {n : Int} {v : Int32} (hd : decode cc pc = .ok (.bipush n, 2)) (hv : (Int8.ofInt n).toInt32 = v) (kk : gS p l e R s m args below meth c nL A Wd QX cells slots o σ (pc + 2) lv (.int v :: st)) : gS p l e R s m args below meth c nL A Wd QX cells slots o σ pc lv (st) := fun X hX H locs ls hw hS hl => lv_bipush h.1.1 h.1.2.1 hd hv (kk X hX H locs ls hw hS hl)
theorem g_sipush (h : gOk p s m args meth c cc nL own Ts) {n : Int} {v : Int32} (hd : decode cc pc = .ok (.sipush n, 3)) (hv : (Int16.ofInt n).toInt32 = v) (kk : gS p l e R s m args below meth c nL A Wd QX cells slots o σ (pc + 3) lv (.int v :: st)) : gS p l e R s m args below meth c nL A Wd QX cells slots o σ pc lv (st) := fun X hX H locs ls hw hS hl => lv_sipush h.1.1 h.1.2.1 hd hv (kk X hX H locs ls hw hS hl)
theorem g_lconst (h : gOk p s m args meth c cc nL own Ts) {n : Fin 2} {v : Int64} (hd : decode cc pc = .ok (.lconst n, 1)) (hv : Int64.ofNat (n : Nat) = v) (kk : gS p l e R s m args below meth c nL A Wd QX cells slots o σ (pc + 1) lv (.long v :: st)) : gS p l e R s m args below meth c nL A Wd QX cells slots o σ pc lv (st) := fun X hX H locs ls hw hS hl => lv_lconst h.1.1 h.1.2.1 hd hv (kk X hX H locs ls hw hS hl)
theorem g_ldc (h : gOk p s m args meth c cc nL own Ts) {index : Nat} {v : Int32} (hc : Cond.constant own index v ∈ Ts) (hd : decode cc pc = .ok (.ldc index, 2)) (kk : gS p l e R s m args below meth c nL A Wd QX cells slots o σ (pc + 2) lv (.int v :: st)) : gS p l e R s m args below meth c nL A Wd QX cells slots o σ pc lv (st) := fun X hX H locs ls hw hS hl => lv_ldc h.1.1 h.1.2.1 h.1.2.2.2.1 (h.1.2.2.2.2 _ hc) hd (kk X hX H locs ls hw hS hl)
theorem g_ldc2 (h : gOk p s m args meth c cc nL own Ts) {index : Nat} {v : Int64} (hc : Cond.constantLong own index v ∈ Ts) (hd : decode cc pc = .ok (.ldc2_w index, 3)) (kk : gS p l e R s m args below meth c nL A Wd QX cells slots o σ (pc + 3) lv (.long v :: st)) : gS p l e R s m args below meth c nL A Wd QX cells slots o σ pc lv (st) := fun X hX H locs ls hw hS hl => lv_ldc2 h.1.1 h.1.2.1 h.1.2.2.2.1 (h.1.2.2.2.2 _ hc) hd (kk X hX H locs ls hw hS hl)
theorem g_iload_n (h : gOk p s m args meth c cc nL own Ts) {k : Fin 4} {v : Int32} (i : Nat) (hd : decode cc pc = .ok (.iload_n k, 1)) (hi : lv[i]? = some ((k : Nat), .int v)) (kk : gS p l e R s m args below meth c nL A Wd QX cells slots o σ (pc + 1) lv (.int v :: st)) : gS p l e R s m args below meth c nL A Wd QX cells slots o σ pc lv (st) := fun X hX H locs ls hw hS hl => lv_iload_n h.1.1 h.1.2.1 hd rfl (lv_at hl i hi) (kk X hX H locs ls hw hS hl)
theorem g_iload (h : gOk p s m args meth c cc nL own Ts) {k : Nat} {v : Int32} (i : Nat) (hd : decode cc pc = .ok (.iload k, 2)) (hi : lv[i]? = some (k, .int v)) (kk : gS p l e R s m args below meth c nL A Wd QX cells slots o σ (pc + 2) lv (.int v :: st)) : gS p l e R s m args below meth c nL A Wd QX cells slots o σ pc lv (st) := fun X hX H locs ls hw hS hl => lv_iload h.1.1 h.1.2.1 hd (lv_at hl i hi) (kk X hX H locs ls hw hS hl)
theorem g_lload_n (h : gOk p s m args meth c cc nL own Ts) {k : Fin 4} {v : Int64} (i : Nat) (hd : decode cc pc = .ok (.lload_n k, 1)) (hi : lv[i]? = some ((k : Nat), .long v)) (kk : gS p l e R s m args below meth c nL A Wd QX cells slots o σ (pc + 1) lv (.long v :: st)) : gS p l e R s m args below meth c nL A Wd QX cells slots o σ pc lv (st) := fun X hX H locs ls hw hS hl => lv_lload_n h.1.1 h.1.2.1 hd rfl (lv_at hl i hi) (kk X hX H locs ls hw hS hl)
theorem g_lload (h : gOk p s m args meth c cc nL own Ts) {k : Nat} {v : Int64} (i : Nat) (hd : decode cc pc = .ok (.lload k, 2)) (hi : lv[i]? = some (k, .long v)) (kk : gS p l e R s m args below meth c nL A Wd QX cells slots o σ (pc + 2) lv (.long v :: st)) : gS p l e R s m args below meth c nL A Wd QX cells slots o σ pc lv (st) := fun X hX H locs ls hw hS hl => lv_lload h.1.1 h.1.2.1 hd (lv_at hl i hi) (kk X hX H locs ls hw hS hl)
theorem g_aload_n (h : gOk p s m args meth c cc nL own Ts) {k : Fin 4} {v : Nat} (i : Nat) (hd : decode cc pc = .ok (.aload_n k, 1)) (hi : lv[i]? = some ((k : Nat), .ref v)) (kk : gS p l e R s m args below meth c nL A Wd QX cells slots o σ (pc + 1) lv (.ref v :: st)) : gS p l e R s m args below meth c nL A Wd QX cells slots o σ pc lv (st) := fun X hX H locs ls hw hS hl => lv_aload_n h.1.1 h.1.2.1 hd rfl (lv_at hl i hi) (kk X hX H locs ls hw hS hl)
theorem g_aload (h : gOk p s m args meth c cc nL own Ts) {k : Nat} {v : Nat} (i : Nat) (hd : decode cc pc = .ok (.aload k, 2)) (hi : lv[i]? = some (k, .ref v)) (kk : gS p l e R s m args below meth c nL A Wd QX cells slots o σ (pc + 2) lv (.ref v :: st)) : gS p l e R s m args below meth c nL A Wd QX cells slots o σ pc lv (st) := fun X hX H locs ls hw hS hl => lv_aload h.1.1 h.1.2.1 hd (lv_at hl i hi) (kk X hX H locs ls hw hS hl)
theorem g_istore_n (h : gOk p s m args meth c cc nL own Ts) {k : Fin 4} {v : Int32} (lv' : List (Nat × Value)) (hd : decode cc pc = .ok (.istore_n k, 1)) (hn : (k : Nat) < nL) (hv : ((k : Nat), Value.int v) :: lv.filter (fun q => !(q.1 == (k : Nat)) && !(q.1 + 1 == (k : Nat) && q.2.category == 2)) = lv') (kk : gS p l e R s m args below meth c nL A Wd QX cells slots o σ (pc + 1) lv' st) : gS p l e R s m args below meth c nL A Wd QX cells slots o σ pc lv (.int v :: st) := fun X hX H locs ls hw hS hl => lv_istore_n h.1.1 h.1.2.1 hd rfl hl hn hv (fun ls' hl' => kk X hX H locs ls' hw hS hl')
theorem g_istore (h : gOk p s m args meth c cc nL own Ts) {k : Nat} {v : Int32} (lv' : List (Nat × Value)) (hd : decode cc pc = .ok (.istore k, 2)) (hn : k < nL) (hv : (k, Value.int v) :: lv.filter (fun q => !(q.1 == k) && !(q.1 + 1 == k && q.2.category == 2)) = lv') (kk : gS p l e R s m args below meth c nL A Wd QX cells slots o σ (pc + 2) lv' st) : gS p l e R s m args below meth c nL A Wd QX cells slots o σ pc lv (.int v :: st) := fun X hX H locs ls hw hS hl => lv_istore h.1.1 h.1.2.1 hd hl hn hv (fun ls' hl' => kk X hX H locs ls' hw hS hl')
theorem g_astore_n (h : gOk p s m args meth c cc nL own Ts) {k : Fin 4} {v : Nat} (lv' : List (Nat × Value)) (hd : decode cc pc = .ok (.astore_n k, 1)) (hn : (k : Nat) < nL) (hv : ((k : Nat), Value.ref v) :: lv.filter (fun q => !(q.1 == (k : Nat)) && !(q.1 + 1 == (k : Nat) && q.2.category == 2)) = lv') (kk : gS p l e R s m args below meth c nL A Wd QX cells slots o σ (pc + 1) lv' st) : gS p l e R s m args below meth c nL A Wd QX cells slots o σ pc lv (.ref v :: st) := fun X hX H locs ls hw hS hl => lv_astore_n h.1.1 h.1.2.1 hd rfl hl hn hv (fun ls' hl' => kk X hX H locs ls' hw hS hl')
theorem g_astore (h : gOk p s m args meth c cc nL own Ts) {k : Nat} {v : Nat} (lv' : List (Nat × Value)) (hd : decode cc pc = .ok (.astore k, 2)) (hn : k < nL) (hv : (k, Value.ref v) :: lv.filter (fun q => !(q.1 == k) && !(q.1 + 1 == k && q.2.category == 2)) = lv') (kk : gS p l e R s m args below meth c nL A Wd QX cells slots o σ (pc + 2) lv' st) : gS p l e R s m args below meth c nL A Wd QX cells slots o σ pc lv (.ref v :: st) := fun X hX H locs ls hw hS hl => lv_astore h.1.1 h.1.2.1 hd hl hn hv (fun ls' hl' => kk X hX H locs ls' hw hS hl')
theorem g_iinc (h : gOk p s m args meth c cc nL own Ts) {k i : Nat} {n : Int} {x v : Int32} (lv' : List (Nat × Value)) (hd : decode cc pc = .ok (.iinc k n, 3)) (hk : lv[i]? = some (k, .int x)) (hv : x + Int32.ofInt n = v) (hn : k < nL) (hl' : (k, Value.int v) :: lv.filter (fun q => !(q.1 == k) && !(q.1 + 1 == k && q.2.category == 2)) = lv') (kk : gS p l e R s m args below meth c nL A Wd QX cells slots o σ (pc + 3) lv' st) : gS p l e R s m args below meth c nL A Wd QX cells slots o σ pc lv st := fun X hX H locs ls hw hS hl => lv_iinc h.1.1 h.1.2.1 hd hl hk hv hn hl' (fun ls' hl2 => kk X hX H locs ls' hw hS hl2)
theorem g_lv (lv' : List (Nat × Value)) (ks : List Nat) (hp : lv_pick lv ks = lv') (kk : gS p l e R s m args below meth c nL A Wd QX cells slots o σ pc lv' st) : gS p l e R s m args below meth c nL A Wd QX cells slots o σ pc lv st := fun X hX H locs ls hw hS hl => kk X hX H locs ls hw hS (lv_sub hl ks hp)
theorem g_iadd (h : gOk p s m args meth c cc nL own Ts) {x y : Int32} (hd : decode cc pc = .ok (.iadd, 1)) (kk : gS p l e R s m args below meth c nL A Wd QX cells slots o σ (pc + 1) lv (.int (x + y) :: st)) : gS p l e R s m args below meth c nL A Wd QX cells slots o σ pc lv (.int y :: .int x :: st) := fun X hX H locs ls hw hS hl => lv_iadd h.1.1 h.1.2.1 hd (kk X hX H locs ls hw hS hl)
theorem g_isub (h : gOk p s m args meth c cc nL own Ts) {x y : Int32} (hd : decode cc pc = .ok (.isub, 1)) (kk : gS p l e R s m args below meth c nL A Wd QX cells slots o σ (pc + 1) lv (.int (x - y) :: st)) : gS p l e R s m args below meth c nL A Wd QX cells slots o σ pc lv (.int y :: .int x :: st) := fun X hX H locs ls hw hS hl => lv_isub h.1.1 h.1.2.1 hd (kk X hX H locs ls hw hS hl)
theorem g_imul (h : gOk p s m args meth c cc nL own Ts) {x y : Int32} (hd : decode cc pc = .ok (.imul, 1)) (kk : gS p l e R s m args below meth c nL A Wd QX cells slots o σ (pc + 1) lv (.int (x * y) :: st)) : gS p l e R s m args below meth c nL A Wd QX cells slots o σ pc lv (.int y :: .int x :: st) := fun X hX H locs ls hw hS hl => lv_imul h.1.1 h.1.2.1 hd (kk X hX H locs ls hw hS hl)
theorem g_iand (h : gOk p s m args meth c cc nL own Ts) {x y : Int32} (hd : decode cc pc = .ok (.iand, 1)) (kk : gS p l e R s m args below meth c nL A Wd QX cells slots o σ (pc + 1) lv (.int (x &&& y) :: st)) : gS p l e R s m args below meth c nL A Wd QX cells slots o σ pc lv (.int y :: .int x :: st) := fun X hX H locs ls hw hS hl => lv_iand h.1.1 h.1.2.1 hd (kk X hX H locs ls hw hS hl)
theorem g_ior (h : gOk p s m args meth c cc nL own Ts) {x y : Int32} (hd : decode cc pc = .ok (.ior, 1)) (kk : gS p l e R s m args below meth c nL A Wd QX cells slots o σ (pc + 1) lv (.int (x ||| y) :: st)) : gS p l e R s m args below meth c nL A Wd QX cells slots o σ pc lv (.int y :: .int x :: st) := fun X hX H locs ls hw hS hl => lv_ior h.1.1 h.1.2.1 hd (kk X hX H locs ls hw hS hl)
theorem g_ixor (h : gOk p s m args meth c cc nL own Ts) {x y : Int32} (hd : decode cc pc = .ok (.ixor, 1)) (kk : gS p l e R s m args below meth c nL A Wd QX cells slots o σ (pc + 1) lv (.int (x ^^^ y) :: st)) : gS p l e R s m args below meth c nL A Wd QX cells slots o σ pc lv (.int y :: .int x :: st) := fun X hX H locs ls hw hS hl => lv_ixor h.1.1 h.1.2.1 hd (kk X hX H locs ls hw hS hl)
theorem g_ishl (h : gOk p s m args meth c cc nL own Ts) {x y : Int32} (hd : decode cc pc = .ok (.ishl, 1)) (kk : gS p l e R s m args below meth c nL A Wd QX cells slots o σ (pc + 1) lv (.int (x <<< (y &&& 31)) :: st)) : gS p l e R s m args below meth c nL A Wd QX cells slots o σ pc lv (.int y :: .int x :: st) := fun X hX H locs ls hw hS hl => lv_ishl h.1.1 h.1.2.1 hd (kk X hX H locs ls hw hS hl)
theorem g_ishr (h : gOk p s m args meth c cc nL own Ts) {x y : Int32} (hd : decode cc pc = .ok (.ishr, 1)) (kk : gS p l e R s m args below meth c nL A Wd QX cells slots o σ (pc + 1) lv (.int (x >>> (y &&& 31)) :: st)) : gS p l e R s m args below meth c nL A Wd QX cells slots o σ pc lv (.int y :: .int x :: st) := fun X hX H locs ls hw hS hl => lv_ishr h.1.1 h.1.2.1 hd (kk X hX H locs ls hw hS hl)
theorem g_iushr (h : gOk p s m args meth c cc nL own Ts) {x y : Int32} (hd : decode cc pc = .ok (.iushr, 1)) (kk : gS p l e R s m args below meth c nL A Wd QX cells slots o σ (pc + 1) lv (.int ((x.toUInt32 >>> (y.toUInt32 &&& Int32.toUInt32 31)).toInt32) :: st)) : gS p l e R s m args below meth c nL A Wd QX cells slots o σ pc lv (.int y :: .int x :: st) := fun X hX H locs ls hw hS hl => lv_iushr h.1.1 h.1.2.1 hd rfl (kk X hX H locs ls hw hS hl)
theorem g_ineg (h : gOk p s m args meth c cc nL own Ts) {x : Int32} (hd : decode cc pc = .ok (.ineg, 1)) (kk : gS p l e R s m args below meth c nL A Wd QX cells slots o σ (pc + 1) lv (.int (-x) :: st)) : gS p l e R s m args below meth c nL A Wd QX cells slots o σ pc lv (.int x :: st) := fun X hX H locs ls hw hS hl => lv_ineg h.1.1 h.1.2.1 hd (kk X hX H locs ls hw hS hl)
theorem g_ladd (h : gOk p s m args meth c cc nL own Ts) {x y : Int64} (hd : decode cc pc = .ok (.ladd, 1)) (kk : gS p l e R s m args below meth c nL A Wd QX cells slots o σ (pc + 1) lv (.long (x + y) :: st)) : gS p l e R s m args below meth c nL A Wd QX cells slots o σ pc lv (.long y :: .long x :: st) := fun X hX H locs ls hw hS hl => lv_ladd h.1.1 h.1.2.1 hd (kk X hX H locs ls hw hS hl)
theorem g_lsub (h : gOk p s m args meth c cc nL own Ts) {x y : Int64} (hd : decode cc pc = .ok (.lsub, 1)) (kk : gS p l e R s m args below meth c nL A Wd QX cells slots o σ (pc + 1) lv (.long (x - y) :: st)) : gS p l e R s m args below meth c nL A Wd QX cells slots o σ pc lv (.long y :: .long x :: st) := fun X hX H locs ls hw hS hl => lv_lsub h.1.1 h.1.2.1 hd (kk X hX H locs ls hw hS hl)
theorem g_lmul (h : gOk p s m args meth c cc nL own Ts) {x y : Int64} (hd : decode cc pc = .ok (.lmul, 1)) (kk : gS p l e R s m args below meth c nL A Wd QX cells slots o σ (pc + 1) lv (.long (x * y) :: st)) : gS p l e R s m args below meth c nL A Wd QX cells slots o σ pc lv (.long y :: .long x :: st) := fun X hX H locs ls hw hS hl => lv_lmul h.1.1 h.1.2.1 hd (kk X hX H locs ls hw hS hl)
theorem g_idiv (h : gOk p s m args meth c cc nL own Ts) {x y : Int32} (hd : decode cc pc = .ok (.idiv, 1)) (hne : ¬ y = 0) (kk : gS p l e R s m args below meth c nL A Wd QX cells slots o σ (pc + 1) lv (.int (x / y) :: st)) : gS p l e R s m args below meth c nL A Wd QX cells slots o σ pc lv (.int y :: .int x :: st) := fun X hX H locs ls hw hS hl => lv_idiv h.1.1 h.1.2.1 hd hne (kk X hX H locs ls hw hS hl)
theorem g_irem (h : gOk p s m args meth c cc nL own Ts) {x y : Int32} (hd : decode cc pc = .ok (.irem, 1)) (hne : ¬ y = 0) (kk : gS p l e R s m args below meth c nL A Wd QX cells slots o σ (pc + 1) lv (.int (x - x / y * y) :: st)) : gS p l e R s m args below meth c nL A Wd QX cells slots o σ pc lv (.int y :: .int x :: st) := fun X hX H locs ls hw hS hl => lv_irem h.1.1 h.1.2.1 hd hne (kk X hX H locs ls hw hS hl)
theorem g_ldiv (h : gOk p s m args meth c cc nL own Ts) {x y : Int64} (hd : decode cc pc = .ok (.ldiv, 1)) (hne : ¬ y = 0) (kk : gS p l e R s m args below meth c nL A Wd QX cells slots o σ (pc + 1) lv (.long (x / y) :: st)) : gS p l e R s m args below meth c nL A Wd QX cells slots o σ pc lv (.long y :: .long x :: st) := fun X hX H locs ls hw hS hl => lv_ldiv h.1.1 h.1.2.1 hd hne (kk X hX H locs ls hw hS hl)
theorem g_i2l (h : gOk p s m args meth c cc nL own Ts) {x : Int32} (hd : decode cc pc = .ok (.i2l, 1)) (kk : gS p l e R s m args below meth c nL A Wd QX cells slots o σ (pc + 1) lv (.long x.toInt64 :: st)) : gS p l e R s m args below meth c nL A Wd QX cells slots o σ pc lv (.int x :: st) := fun X hX H locs ls hw hS hl => lv_i2l h.1.1 h.1.2.1 hd rfl (kk X hX H locs ls hw hS hl)
theorem g_l2i (h : gOk p s m args meth c cc nL own Ts) {x : Int64} (hd : decode cc pc = .ok (.l2i, 1)) (kk : gS p l e R s m args below meth c nL A Wd QX cells slots o σ (pc + 1) lv (.int x.toInt32 :: st)) : gS p l e R s m args below meth c nL A Wd QX cells slots o σ pc lv (.long x :: st) := fun X hX H locs ls hw hS hl => lv_l2i h.1.1 h.1.2.1 hd rfl (kk X hX H locs ls hw hS hl)
theorem g_i2b (h : gOk p s m args meth c cc nL own Ts) {x : Int32} (hd : decode cc pc = .ok (.i2b, 1)) (kk : gS p l e R s m args below meth c nL A Wd QX cells slots o σ (pc + 1) lv (.int x.toInt8.toInt32 :: st)) : gS p l e R s m args below meth c nL A Wd QX cells slots o σ pc lv (.int x :: st) := fun X hX H locs ls hw hS hl => lv_i2b h.1.1 h.1.2.1 hd rfl (kk X hX H locs ls hw hS hl)
theorem g_i2c (h : gOk p s m args meth c cc nL own Ts) {x : Int32} (hd : decode cc pc = .ok (.i2c, 1)) (kk : gS p l e R s m args below meth c nL A Wd QX cells slots o σ (pc + 1) lv (.int (x.toUInt32 % 65536).toInt32 :: st)) : gS p l e R s m args below meth c nL A Wd QX cells slots o σ pc lv (.int x :: st) := fun X hX H locs ls hw hS hl => lv_i2c h.1.1 h.1.2.1 hd rfl (kk X hX H locs ls hw hS hl)
theorem g_dup (h : gOk p s m args meth c cc nL own Ts) {v : Value} (hd : decode cc pc = .ok (.dup, 1)) (h1 : v.category = 1) (kk : gS p l e R s m args below meth c nL A Wd QX cells slots o σ (pc + 1) lv (v :: v :: st)) : gS p l e R s m args below meth c nL A Wd QX cells slots o σ pc lv (v :: st) := fun X hX H locs ls hw hS hl => lv_dup h.1.1 h.1.2.1 hd h1 (kk X hX H locs ls hw hS hl)
theorem g_pop (h : gOk p s m args meth c cc nL own Ts) {v : Value} (hd : decode cc pc = .ok (.pop, 1)) (h1 : v.category = 1) (kk : gS p l e R s m args below meth c nL A Wd QX cells slots o σ (pc + 1) lv (st)) : gS p l e R s m args below meth c nL A Wd QX cells slots o σ pc lv (v :: st) := fun X hX H locs ls hw hS hl => lv_pop h.1.1 h.1.2.1 hd h1 (kk X hX H locs ls hw hS hl)
theorem g_dup_x1 (h : gOk p s m args meth c cc nL own Ts) {v v2 : Value} (hd : decode cc pc = .ok (.dup_x1, 1)) (h1 : v.category = 1) (h2 : v2.category = 1) (kk : gS p l e R s m args below meth c nL A Wd QX cells slots o σ (pc + 1) lv (v :: v2 :: v :: st)) : gS p l e R s m args below meth c nL A Wd QX cells slots o σ pc lv (v :: v2 :: st) := fun X hX H locs ls hw hS hl => lv_dup_x1 h.1.1 h.1.2.1 hd h1 h2 (kk X hX H locs ls hw hS hl)
theorem g_dup2 (h : gOk p s m args meth c cc nL own Ts) {v v2 : Value} (hd : decode cc pc = .ok (.dup2, 1)) (h1 : v.category = 1) (h2 : v2.category = 1) (kk : gS p l e R s m args below meth c nL A Wd QX cells slots o σ (pc + 1) lv (v :: v2 :: v :: v2 :: st)) : gS p l e R s m args below meth c nL A Wd QX cells slots o σ pc lv (v :: v2 :: st) := fun X hX H locs ls hw hS hl => lv_dup2_11 h.1.1 h.1.2.1 hd h1 h2 (kk X hX H locs ls hw hS hl)
theorem g_goto (h : gOk p s m args meth c cc nL own Ts) {off : Int} (tgt : Nat) (hd : decode cc pc = .ok (.goto off, 3)) (ht : (pc : Int) + off = (tgt : Int)) (kk : gS p l e R s m args below meth c nL A Wd QX cells slots o σ tgt lv st) : gS p l e R s m args below meth c nL A Wd QX cells slots o σ pc lv st := fun X hX H locs ls hw hS hl => lv_goto h.1.1 h.1.2.1 hd ht (kk X hX H locs ls hw hS hl)
theorem g_if_eq (h : gOk p s m args meth c cc nL own Ts) {x : Int32} {off : Int} (tgt : Nat) (hd : decode cc pc = .ok (.ifCond .eq off, 3)) (ht : (pc : Int) + off = (tgt : Int)) (k1 : gS p l e R s m args below meth c nL A Wd QX cells slots o1 σ tgt lv st) (k2 : gS p l e R s m args below meth c nL A Wd QX cells slots o2 σ (pc + 3) lv st) : gS p l e R s m args below meth c nL A Wd QX cells slots (if x = 0 then o1 else o2) σ pc lv (.int x :: st) := fun X hX H locs ls hw hS hl => lv_if_eq h.1.1 h.1.2.1 hd ht (fun q => k1 X (by rw [if_pos q] at hX; exact hX) H locs ls hw hS hl) (fun q => k2 X (by rw [if_neg q] at hX; exact hX) H locs ls hw hS hl)
theorem g_if_ne (h : gOk p s m args meth c cc nL own Ts) {x : Int32} {off : Int} (tgt : Nat) (hd : decode cc pc = .ok (.ifCond .ne off, 3)) (ht : (pc : Int) + off = (tgt : Int)) (k1 : gS p l e R s m args below meth c nL A Wd QX cells slots o1 σ tgt lv st) (k2 : gS p l e R s m args below meth c nL A Wd QX cells slots o2 σ (pc + 3) lv st) : gS p l e R s m args below meth c nL A Wd QX cells slots (if x = 0 then o2 else o1) σ pc lv (.int x :: st) := fun X hX H locs ls hw hS hl => lv_if_ne h.1.1 h.1.2.1 hd ht (fun q => k1 X (by rw [if_neg q] at hX; exact hX) H locs ls hw hS hl) (fun q => k2 X (by rw [if_pos q] at hX; exact hX) H locs ls hw hS hl)
theorem g_if_lt (h : gOk p s m args meth c cc nL own Ts) {x : Int32} {off : Int} (tgt : Nat) (hd : decode cc pc = .ok (.ifCond .lt off, 3)) (ht : (pc : Int) + off = (tgt : Int)) (k1 : gS p l e R s m args below meth c nL A Wd QX cells slots o1 σ tgt lv st) (k2 : gS p l e R s m args below meth c nL A Wd QX cells slots o2 σ (pc + 3) lv st) : gS p l e R s m args below meth c nL A Wd QX cells slots (if x < 0 then o1 else o2) σ pc lv (.int x :: st) := fun X hX H locs ls hw hS hl => lv_if_lt h.1.1 h.1.2.1 hd ht (fun q => k1 X (by rw [if_pos q] at hX; exact hX) H locs ls hw hS hl) (fun q => k2 X (by rw [if_neg q] at hX; exact hX) H locs ls hw hS hl)
theorem g_if_ge (h : gOk p s m args meth c cc nL own Ts) {x : Int32} {off : Int} (tgt : Nat) (hd : decode cc pc = .ok (.ifCond .ge off, 3)) (ht : (pc : Int) + off = (tgt : Int)) (k1 : gS p l e R s m args below meth c nL A Wd QX cells slots o1 σ tgt lv st) (k2 : gS p l e R s m args below meth c nL A Wd QX cells slots o2 σ (pc + 3) lv st) : gS p l e R s m args below meth c nL A Wd QX cells slots (if 0 ≤ x then o1 else o2) σ pc lv (.int x :: st) := fun X hX H locs ls hw hS hl => lv_if_ge h.1.1 h.1.2.1 hd ht (fun q => k1 X (by rw [if_pos q] at hX; exact hX) H locs ls hw hS hl) (fun q => k2 X (by rw [if_neg q] at hX; exact hX) H locs ls hw hS hl)
theorem g_if_gt (h : gOk p s m args meth c cc nL own Ts) {x : Int32} {off : Int} (tgt : Nat) (hd : decode cc pc = .ok (.ifCond .gt off, 3)) (ht : (pc : Int) + off = (tgt : Int)) (k1 : gS p l e R s m args below meth c nL A Wd QX cells slots o1 σ tgt lv st) (k2 : gS p l e R s m args below meth c nL A Wd QX cells slots o2 σ (pc + 3) lv st) : gS p l e R s m args below meth c nL A Wd QX cells slots (if 0 < x then o1 else o2) σ pc lv (.int x :: st) := fun X hX H locs ls hw hS hl => lv_if_gt h.1.1 h.1.2.1 hd ht (fun q => k1 X (by rw [if_pos q] at hX; exact hX) H locs ls hw hS hl) (fun q => k2 X (by rw [if_neg q] at hX; exact hX) H locs ls hw hS hl)
theorem g_if_le (h : gOk p s m args meth c cc nL own Ts) {x : Int32} {off : Int} (tgt : Nat) (hd : decode cc pc = .ok (.ifCond .le off, 3)) (ht : (pc : Int) + off = (tgt : Int)) (k1 : gS p l e R s m args below meth c nL A Wd QX cells slots o1 σ tgt lv st) (k2 : gS p l e R s m args below meth c nL A Wd QX cells slots o2 σ (pc + 3) lv st) : gS p l e R s m args below meth c nL A Wd QX cells slots (if x ≤ 0 then o1 else o2) σ pc lv (.int x :: st) := fun X hX H locs ls hw hS hl => lv_if_le h.1.1 h.1.2.1 hd ht (fun q => k1 X (by rw [if_pos q] at hX; exact hX) H locs ls hw hS hl) (fun q => k2 X (by rw [if_neg q] at hX; exact hX) H locs ls hw hS hl)
theorem g_icmp_eq (h : gOk p s m args meth c cc nL own Ts) {x y : Int32} {off : Int} (tgt : Nat) (hd : decode cc pc = .ok (.if_icmp .eq off, 3)) (ht : (pc : Int) + off = (tgt : Int)) (k1 : gS p l e R s m args below meth c nL A Wd QX cells slots o1 σ tgt lv st) (k2 : gS p l e R s m args below meth c nL A Wd QX cells slots o2 σ (pc + 3) lv st) : gS p l e R s m args below meth c nL A Wd QX cells slots (if x = y then o1 else o2) σ pc lv (.int y :: .int x :: st) := fun X hX H locs ls hw hS hl => lv_icmp_eq h.1.1 h.1.2.1 hd ht (fun q => k1 X (by rw [if_pos q] at hX; exact hX) H locs ls hw hS hl) (fun q => k2 X (by rw [if_neg q] at hX; exact hX) H locs ls hw hS hl)
theorem g_icmp_ne (h : gOk p s m args meth c cc nL own Ts) {x y : Int32} {off : Int} (tgt : Nat) (hd : decode cc pc = .ok (.if_icmp .ne off, 3)) (ht : (pc : Int) + off = (tgt : Int)) (k1 : gS p l e R s m args below meth c nL A Wd QX cells slots o1 σ tgt lv st) (k2 : gS p l e R s m args below meth c nL A Wd QX cells slots o2 σ (pc + 3) lv st) : gS p l e R s m args below meth c nL A Wd QX cells slots (if x = y then o2 else o1) σ pc lv (.int y :: .int x :: st) := fun X hX H locs ls hw hS hl => lv_icmp_ne h.1.1 h.1.2.1 hd ht (fun q => k1 X (by rw [if_neg q] at hX; exact hX) H locs ls hw hS hl) (fun q => k2 X (by rw [if_pos q] at hX; exact hX) H locs ls hw hS hl)
theorem g_icmp_lt (h : gOk p s m args meth c cc nL own Ts) {x y : Int32} {off : Int} (tgt : Nat) (hd : decode cc pc = .ok (.if_icmp .lt off, 3)) (ht : (pc : Int) + off = (tgt : Int)) (k1 : gS p l e R s m args below meth c nL A Wd QX cells slots o1 σ tgt lv st) (k2 : gS p l e R s m args below meth c nL A Wd QX cells slots o2 σ (pc + 3) lv st) : gS p l e R s m args below meth c nL A Wd QX cells slots (if x < y then o1 else o2) σ pc lv (.int y :: .int x :: st) := fun X hX H locs ls hw hS hl => lv_icmp_lt h.1.1 h.1.2.1 hd ht (fun q => k1 X (by rw [if_pos q] at hX; exact hX) H locs ls hw hS hl) (fun q => k2 X (by rw [if_neg q] at hX; exact hX) H locs ls hw hS hl)
theorem g_icmp_ge (h : gOk p s m args meth c cc nL own Ts) {x y : Int32} {off : Int} (tgt : Nat) (hd : decode cc pc = .ok (.if_icmp .ge off, 3)) (ht : (pc : Int) + off = (tgt : Int)) (k1 : gS p l e R s m args below meth c nL A Wd QX cells slots o1 σ tgt lv st) (k2 : gS p l e R s m args below meth c nL A Wd QX cells slots o2 σ (pc + 3) lv st) : gS p l e R s m args below meth c nL A Wd QX cells slots (if y ≤ x then o1 else o2) σ pc lv (.int y :: .int x :: st) := fun X hX H locs ls hw hS hl => lv_icmp_ge h.1.1 h.1.2.1 hd ht (fun q => k1 X (by rw [if_pos q] at hX; exact hX) H locs ls hw hS hl) (fun q => k2 X (by rw [if_neg q] at hX; exact hX) H locs ls hw hS hl)
theorem g_icmp_gt (h : gOk p s m args meth c cc nL own Ts) {x y : Int32} {off : Int} (tgt : Nat) (hd : decode cc pc = .ok (.if_icmp .gt off, 3)) (ht : (pc : Int) + off = (tgt : Int)) (k1 : gS p l e R s m args below meth c nL A Wd QX cells slots o1 σ tgt lv st) (k2 : gS p l e R s m args below meth c nL A Wd QX cells slots o2 σ (pc + 3) lv st) : gS p l e R s m args below meth c nL A Wd QX cells slots (if y < x then o1 else o2) σ pc lv (.int y :: .int x :: st) := fun X hX H locs ls hw hS hl => lv_icmp_gt h.1.1 h.1.2.1 hd ht (fun q => k1 X (by rw [if_pos q] at hX; exact hX) H locs ls hw hS hl) (fun q => k2 X (by rw [if_neg q] at hX; exact hX) H locs ls hw hS hl)
theorem g_icmp_le (h : gOk p s m args meth c cc nL own Ts) {x y : Int32} {off : Int} (tgt : Nat) (hd : decode cc pc = .ok (.if_icmp .le off, 3)) (ht : (pc : Int) + off = (tgt : Int)) (k1 : gS p l e R s m args below meth c nL A Wd QX cells slots o1 σ tgt lv st) (k2 : gS p l e R s m args below meth c nL A Wd QX cells slots o2 σ (pc + 3) lv st) : gS p l e R s m args below meth c nL A Wd QX cells slots (if x ≤ y then o1 else o2) σ pc lv (.int y :: .int x :: st) := fun X hX H locs ls hw hS hl => lv_icmp_le h.1.1 h.1.2.1 hd ht (fun q => k1 X (by rw [if_pos q] at hX; exact hX) H locs ls hw hS hl) (fun q => k2 X (by rw [if_neg q] at hX; exact hX) H locs ls hw hS hl)
theorem g_guard {b : Bool} (kk : b = true → gS p l e R s m args below meth c nL A Wd QX cells slots o σ pc lv st) : gS p l e R s m args below meth c nL A Wd QX cells slots (if b = true then o else none) σ pc lv st := by
  intro X hX
  by_cases q : b = true
  · rw [if_pos q] at hX; exact kk q X hX
  · rw [if_neg q] at hX; cases hX
theorem g_nz {y : Int32} (kk : ¬ y = 0 → gS p l e R s m args below meth c nL A Wd QX cells slots o σ pc lv st) : gS p l e R s m args below meth c nL A Wd QX cells slots (if y = 0 then none else o) σ pc lv st := by
  intro X hX
  by_cases q : y = 0
  · rw [if_pos q] at hX; cases hX
  · rw [if_neg q] at hX; exact kk q X hX
theorem g_none : gS p l e R s m args below meth c nL A Wd QX cells slots none σ pc lv st := fun X hX => by cases hX
theorem g_bnd {v : S} {k : S → Option Rt} (kk : ∀ τ : S, gS p l e R s m args below meth c nL A Wd QX cells slots (k τ) τ pc lv st) : gS p l e R s m args below meth c nL A Wd QX cells slots (bnd v k) v pc lv st := kk v
theorem g_bndi {v : Int32} {k : Int32 → Option Rt} (kk : ∀ x : Int32, gS p l e R s m args below meth c nL A Wd QX cells slots (k x) σ pc lv (.int x :: st)) : gS p l e R s m args below meth c nL A Wd QX cells slots (bnd v k) σ pc lv (.int v :: st) := kk v
theorem g_eq (e2 : o = o1) (kk : gS p l e R s m args below meth c nL A Wd QX cells slots o1 σ pc lv st) : gS p l e R s m args below meth c nL A Wd QX cells slots o σ pc lv st := e2 ▸ kk
theorem g_case {x v : Int32} (k1 : x = v → gS p l e R s m args below meth c nL A Wd QX cells slots o1 σ pc lv (.int x :: st)) (k2 : ¬ x = v → gS p l e R s m args below meth c nL A Wd QX cells slots o2 σ pc lv (.int x :: st)) : gS p l e R s m args below meth c nL A Wd QX cells slots (if x = v then o1 else o2) σ pc lv (.int x :: st) := by
  intro X hX
  by_cases q : x = v
  · rw [if_pos q] at hX; exact k1 q X hX
  · rw [if_neg q] at hX; exact k2 q X hX
theorem g_tabIn (h : gOk p s m args meth c cc nL own Ts) {dflt lo hi : Int} {offs : Array Int} {len : Nat} {x : Int32} {off : Int} (tgt : Nat) (hd : decode cc pc = .ok (.tableswitch dflt lo hi offs, len)) (h1 : ¬ x.toInt < lo) (h2 : ¬ hi < x.toInt) (ho : offs[(x.toInt - lo).toNat]? = some off) (ht : (pc : Int) + off = (tgt : Int)) (kk : gS p l e R s m args below meth c nL A Wd QX cells slots o σ tgt lv st) : gS p l e R s m args below meth c nL A Wd QX cells slots o σ pc lv (.int x :: st) := fun X hX H locs ls hw hS hl => lv_tableIn h.1.1 h.1.2.1 hd h1 h2 ho ht (kk X hX H locs ls hw hS hl)
theorem g_tabOut (h : gOk p s m args meth c cc nL own Ts) {dflt lo hi : Int} {offs : Array Int} {len : Nat} {x : Int32} (tgt : Nat) (hd : decode cc pc = .ok (.tableswitch dflt lo hi offs, len)) (h1 : x.toInt < lo ∨ hi < x.toInt) (ht : (pc : Int) + dflt = (tgt : Int)) (kk : gS p l e R s m args below meth c nL A Wd QX cells slots o σ tgt lv st) : gS p l e R s m args below meth c nL A Wd QX cells slots o σ pc lv (.int x :: st) := fun X hX H locs ls hw hS hl => lv_tableOut h.1.1 h.1.2.1 hd h1 ht (kk X hX H locs ls hw hS hl)
theorem g_mmax (h : gOk p s m args meth c cc nL own Ts) {x y : Int32} {index : Nat} (hw1 : Cond.methodLink own index Lib.Math.max.name ∈ Ts) (hw2 : Cond.static Lib.Math.max.name ∈ Ts) (hw3 : Cond.initialized "java/lang/Math" ∈ Ts) (hw4 : Cond.code Lib.Math.max.name Lib.Math.max.code 2 (some .int) ∈ Ts) (hf : 1 ≤ R.frames) (hlo : (st.map fun v => v.category).sum + 13 ≤ R.locals) (hc : cells ≤ R.cells) (hs : slots ≤ R.slots) (hd : decode cc pc = .ok (.invokestatic index, 3)) (kk : gS p l e R s m args below meth c nL A Wd QX cells slots o σ (pc + 3) lv (.int (if x < y then y else x) :: st)) : gS p l e R s m args below meth c nL A Wd QX cells slots o σ pc lv (.int y :: .int x :: st) := fun X hX H locs ls hw hS hl => va_mmax h.1.1 h.1.2.1 (h.1.2.2.1.trans hl.1.symm) h.1.2.2.2.1 (h.1.2.2.2.2 _ hw1) (h.1.2.2.2.2 _ hw2) (h.1.2.2.2.2 _ hw3) (h.1.2.2.2.2 _ hw4) hf hlo hc hs hd (kk X hX H locs ls hw hS hl)
theorem g_mmin (h : gOk p s m args meth c cc nL own Ts) {x y : Int32} {index : Nat} (hw1 : Cond.methodLink own index Lib.Math.min.name ∈ Ts) (hw2 : Cond.static Lib.Math.min.name ∈ Ts) (hw3 : Cond.initialized "java/lang/Math" ∈ Ts) (hw4 : Cond.code Lib.Math.min.name Lib.Math.min.code 2 (some .int) ∈ Ts) (hf : 1 ≤ R.frames) (hlo : (st.map fun v => v.category).sum + 13 ≤ R.locals) (hc : cells ≤ R.cells) (hs : slots ≤ R.slots) (hd : decode cc pc = .ok (.invokestatic index, 3)) (kk : gS p l e R s m args below meth c nL A Wd QX cells slots o σ (pc + 3) lv (.int (if y < x then y else x) :: st)) : gS p l e R s m args below meth c nL A Wd QX cells slots o σ pc lv (.int y :: .int x :: st) := fun X hX H locs ls hw hS hl => va_mmin h.1.1 h.1.2.1 (h.1.2.2.1.trans hl.1.symm) h.1.2.2.2.1 (h.1.2.2.2.2 _ hw1) (h.1.2.2.2.2 _ hw2) (h.1.2.2.2.2 _ hw3) (h.1.2.2.2.2 _ hw4) hf hlo hc hs hd (kk X hX H locs ls hw hS hl)
end GS
section GR
variable {p : Program} {l : Launch} {e : Env} {R : Room} {s : State} {m : MethodId} {args : Array Value} {below : List Frame} {meth : Method} {c : Code}
variable {S : Type} {cc : ByteArray} {nL : Nat} {own : String} {Ts : List Cond} {A : Nat → Prop} {Wd : S → State → Heap → Prop} {cells slots mc ms : Nat} {σ : S} {pc : Nat} {lv : List (Nat × Value)}
theorem g_iret (h : gOk p s m args meth c cc nL own Ts) (hmv : gMv Wd) (hr : meth.sig.returnType = some .int) (hc : cells ≤ mc) (hs : slots ≤ ms) {x : Int32} (hd : decode cc pc = .ok (.ireturn, 1)) : gS p l e R s m args below meth c nL A Wd (fun X => MQ below (gPi Wd A X) args s mc ms A) cells slots (some (x, σ)) σ pc lv [.int x] := by
  intro X hX H locs ls hw hS hl
  cases hX
  exact W.widen hc hs (W.iret (v := x) h.1.1 h.1.2.1 hr (fun t ht hW => ⟨⟨x, σ, rfl, rfl, by show Wd σ t t.heap; rw [ht]; exact hmv _ _ _ _ hW.alike hw⟩, hS.F ht⟩) hS.2.2 hd h.2)
theorem g_zret (h : gOk p s m args meth c cc nL own Ts) (hmv : gMv Wd) (hr : meth.sig.returnType = some .boolean) (hc : cells ≤ mc) (hs : slots ≤ ms) {x : Int32} (hz : okZ x = true) (hd : decode cc pc = .ok (.ireturn, 1)) : gS p l e R s m args below meth c nL A Wd (fun X => MQ below (gPi Wd A X) args s mc ms A) cells slots (some (x, σ)) σ pc lv [.int x] := by
  intro X hX H locs ls hw hS hl
  cases hX
  exact W.widen hc hs (W.zret (v := x) h.1.1 h.1.2.1 hr (okZ_nar hz) (fun t ht hW => ⟨⟨x, σ, rfl, rfl, by show Wd σ t t.heap; rw [ht]; exact hmv _ _ _ _ hW.alike hw⟩, hS.F ht⟩) hS.2.2 hd h.2)
theorem g_vret (h : gOk p s m args meth c cc nL own Ts) (hmv : gMv Wd) (hr : meth.sig.returnType = none) (hc : cells ≤ mc) (hs : slots ≤ ms) (hd : decode cc pc = .ok (.return_, 1)) : gS p l e R s m args below meth c nL A Wd (fun X => MQ below (gPv Wd A X) args s mc ms A) cells slots (some σ) σ pc lv [] := by
  intro X hX H locs ls hw hS hl
  cases hX
  exact W.widen hc hs (W.vret h.1.1 h.1.2.1 hr (fun t ht hW => ⟨⟨σ, rfl, rfl, by show Wd σ t t.heap; rw [ht]; exact hmv _ _ _ _ hW.alike hw⟩, hS.F ht⟩) hS.2.2 hd h.2)
theorem g_iretp (h : gOk p s m args meth c cc nL own Ts) (hmv : gMv Wd) (hr : meth.sig.returnType = some .int) (hc : cells ≤ mc) (hs : slots ≤ ms) {x : Int32} (hd : decode cc pc = .ok (.ireturn, 1)) : gS p l e R s m args below meth c nL A Wd (fun r => MQ below (gPi Wd A (r, σ)) args s mc ms A) cells slots (some x) σ pc lv [.int x] := by
  intro X hX H locs ls hw hS hl
  cases hX
  exact g_iret (mc := mc) (ms := ms) h hmv hr hc hs hd (x, σ) rfl H locs ls hw hS hl
theorem g_zretp (h : gOk p s m args meth c cc nL own Ts) (hmv : gMv Wd) (hr : meth.sig.returnType = some .boolean) (hc : cells ≤ mc) (hs : slots ≤ ms) {x : Int32} (hz : okZ x = true) (hd : decode cc pc = .ok (.ireturn, 1)) : gS p l e R s m args below meth c nL A Wd (fun r => MQ below (gPi Wd A (r, σ)) args s mc ms A) cells slots (some x) σ pc lv [.int x] := by
  intro X hX H locs ls hw hS hl
  cases hX
  exact g_zret (mc := mc) (ms := ms) h hmv hr hc hs hz hd (x, σ) rfl H locs ls hw hS hl
end GR
section GE
variable {S : Type} {A : Nat → Prop} {Ke : State → Prop} {Wd : S → State → Heap → Prop} {σ : S}
theorem g_meti {l : Launch} {y : MethodName} {rm : Room} {cc : ByteArray} {maxL : Nat} {ret : Option FieldType} {av : List Value} {o : Option (Int32 × S)} (hy : plainName y.cls = true) (hav : (lg_sl av).length ≤ maxL)
    (body : ∀ (p : Program) (e : Env) (s : State) (m : MethodId) (below : List Frame) (meth : Method) (c : Code), gOk p s m av.toArray meth c cc maxL y.cls tb → meth.sig.returnType = ret → Ke s → gS p l e rm s m av.toArray below meth c maxL A Wd (fun X => MQ below (gPi Wd A X) av.toArray s rm.cells rm.slots A) 0 0 o σ 0 (lv_args 0 av) []) : gCi l y cc maxL ret rm Ke Wd A av σ o := by
  intro X hX
  refine Met.ofW (cc := cc) (maxL := maxL) (ret := ret) hy rfl ?_
  intro p e s m args below meth c s₁ B hml hv
  obtain ⟨rfl, hW0, hK0⟩ := hv
  have hl := lv_entry av (n := maxL) hav
  rw [lg_entry_eq]
  exact body p e s m below meth c ⟨⟨B.exec, B.bytes, hml, findClass_of_methodNamed B.named, fun w hw => atoms_spec (ws := wt y cc maxL ret) B.pre w (List.mem_cons_of_mem _ hw)⟩, B.notSynchronized⟩ B.returns hK0 X hX s.heap [] _ hW0 va_S.rf hl
theorem g_metv {l : Launch} {y : MethodName} {rm : Room} {cc : ByteArray} {maxL : Nat} {ret : Option FieldType} {av : List Value} {o : Option S} (hy : plainName y.cls = true) (hav : (lg_sl av).length ≤ maxL)
    (body : ∀ (p : Program) (e : Env) (s : State) (m : MethodId) (below : List Frame) (meth : Method) (c : Code), gOk p s m av.toArray meth c cc maxL y.cls tb → meth.sig.returnType = ret → Ke s → gS p l e rm s m av.toArray below meth c maxL A Wd (fun X => MQ below (gPv Wd A X) av.toArray s rm.cells rm.slots A) 0 0 o σ 0 (lv_args 0 av) []) : gCv l y cc maxL ret rm Ke Wd A av σ o := by
  intro X hX
  refine Met.ofW (cc := cc) (maxL := maxL) (ret := ret) hy rfl ?_
  intro p e s m args below meth c s₁ B hml hv
  obtain ⟨rfl, hW0, hK0⟩ := hv
  have hl := lv_entry av (n := maxL) hav
  rw [lg_entry_eq]
  exact body p e s m below meth c ⟨⟨B.exec, B.bytes, hml, findClass_of_methodNamed B.named, fun w hw => atoms_spec (ws := wt y cc maxL ret) B.pre w (List.mem_cons_of_mem _ hw)⟩, B.notSynchronized⟩ B.returns hK0 X hX s.heap [] _ hW0 va_S.rf hl
theorem g_metp {l : Launch} {y : MethodName} {rm : Room} {cc : ByteArray} {maxL : Nat} {ret : Option FieldType} {av : List Value} {o : Option Int32} (hy : plainName y.cls = true) (hav : (lg_sl av).length ≤ maxL)
    (body : ∀ (p : Program) (e : Env) (s : State) (m : MethodId) (below : List Frame) (meth : Method) (c : Code), gOk p s m av.toArray meth c cc maxL y.cls tb → meth.sig.returnType = ret → Ke s → gS p l e rm s m av.toArray below meth c maxL A Wd (fun X => MQ below (gPi Wd A (X, σ)) av.toArray s rm.cells rm.slots A) 0 0 o σ 0 (lv_args 0 av) []) : gCp l y cc maxL ret rm Ke Wd A av σ o := by
  intro X hX
  refine Met.ofW (cc := cc) (maxL := maxL) (ret := ret) hy rfl ?_
  intro p e s m args below meth c s₁ B hml hv
  obtain ⟨rfl, hW0, hK0⟩ := hv
  have hl := lv_entry av (n := maxL) hav
  rw [lg_entry_eq]
  exact body p e s m below meth c ⟨⟨B.exec, B.bytes, hml, findClass_of_methodNamed B.named, fun w hw => atoms_spec (ws := wt y cc maxL ret) B.pre w (List.mem_cons_of_mem _ hw)⟩, B.notSynchronized⟩ B.returns hK0 X hX s.heap [] _ hW0 va_S.rf hl
end GE
section GC
def yOkV (y : MethodName) (bytes : ByteArray) (maxL : Nat) (ret : Option FieldType) (C : String) (n : Nat) : Prop := Cond.code y bytes maxL ret ∈ tb ∧ Cond.initialized y.cls ∈ tb ∧ Cond.instanceMethod y ∈ tb ∧ Cond.selects C y y ∈ tb ∧ y.cls ≠ "java/lang/invoke/MethodHandle" ∧ y.cls ≠ "java/lang/invoke/VarHandle" ∧ (parseMethodDescriptor y.desc).map (fun d => d.parameters.length) = some n
def yOkS (y : MethodName) (bytes : ByteArray) (maxL : Nat) (ret : Option FieldType) (n : Nat) : Prop := Cond.code y bytes maxL ret ∈ tb ∧ Cond.initialized y.cls ∈ tb ∧ Cond.static y ∈ tb ∧ y.cls ≠ "java/lang/invoke/MethodHandle" ∧ y.cls ≠ "java/lang/invoke/VarHandle" ∧ (parseMethodDescriptor y.desc).map (fun d => d.parameters.length) = some n
def yRm (rm R : Room) (maxL : Nat) : Prop := rm.frames + 1 ≤ R.frames ∧ 8 + (maxL + 11) + rm.locals ≤ R.locals
variable {p : Program} {l : Launch} {e : Env} {R : Room} {s : State} {m : MethodId} {args : Array Value} {below : List Frame} {meth : Method} {c : Code}
variable {S Rt : Type} {cc : ByteArray} {nL : Nat} {own : String} {A : Nat → Prop} {Ke : State → Prop} {Wd : S → State → Heap → Prop} {QX : Rt → State → Prop} {cells slots : Nat} {σ : S} {pc : Nat} {lv : List (Nat × Value)} {st : List Value}
variable {y : MethodName} {bytes : ByteArray} {maxL n index : Nat} {ret : Option FieldType} {rm : Room}
theorem cwT {C : String} (ht : ∀ w ∈ tb, w.before args s = true) (hy : yOkV y bytes maxL ret C n) (hl : Cond.methodLink own index y ∈ tb) (hR : yRm rm R maxL) : CallW R s args own C index y bytes maxL ret (wt y bytes maxL ret) rm rm.cells rm.slots n := ⟨callB_of n ht (tb_in hy.1) rfl rfl rfl (ht _ hy.2.1) (ht _ hl) hy.2.2.2.2 hR, ht _ hy.2.2.1, ht _ hy.2.2.2.1⟩
theorem cwTS (ht : ∀ w ∈ tb, w.before args s = true) (hy : yOkS y bytes maxL ret n) (hl : Cond.methodLink own index y ∈ tb) (hR : yRm rm R maxL) : CallB R s args own index y bytes maxL ret (wt y bytes maxL ret) rm rm.cells rm.slots n ∧ (Cond.static y).before args s = true := ⟨callB_of n ht (tb_in hy.1) rfl rfl rfl (ht _ hy.2.1) (ht _ hl) hy.2.2.2 hR, ht _ hy.2.2.1⟩
theorem g_callVi (h : gOk p s m args meth c cc nL own tb) (hmv : gMv Wd) (hkw : gKw Ke) (hKs : Ke s) {C : String} {b : Nat} (As : List Value) {stk : List Value} {f : Option (Int32 × S)} {k : Int32 → S → Option Rt} (hM : gCi l y bytes maxL ret rm Ke Wd A (.ref b :: As) σ f) (hy : yOkV y bytes maxL ret C n) (hml : Cond.methodLink own index y ∈ tb) (hR : yRm rm R maxL) (hrc : ∀ H, Wd σ s H → ∃ cellB : Cell, H[b]? = some cellB ∧ cellB.vm.isStatics = false ∧ s.vm.findClass C = some cellB.cls) (hn : As.length = n) (hst : stk = As.reverse ++ .ref b :: st) (hro : (st.map fun v => v.category).sum ≤ 8) (hd : decode cc pc = .ok (.invokevirtual index, 3)) (hf : cells + rm.cells ≤ R.cells ∧ slots + rm.slots ≤ R.slots) (kk : ∀ r σ', f = some (r, σ') → gS p l e R s m args below meth c nL A Wd QX (cells + rm.cells) (slots + rm.slots) (k r σ') σ' (pc + 3) lv (.int r :: st)) : gS p l e R s m args below meth c nL A Wd QX cells slots (bi f k) σ pc lv stk := by
  intro X hX H locs ls hw hS hl
  subst hst
  cases hf0 : f with
  | none => rw [hf0] at hX; cases hX
  | some u0 =>
  rw [hf0] at hX
  refine va_calli (va_runV (As := As) (rest := st) h.1 (hM u0 hf0) (cwT h.1.2.2.2.2 hy hml hR) ⟨fun a U g mk q => ⟨q.1, hmv _ U (U.calling g mk a) _ (Vm.Alike.refl U.vm) q.2.1, hkw U (U.calling g mk a) (State.WarmedH.refl U) q.2.2⟩, hrc H hw, fun U hU hW => ⟨rfl, by rw [hU]; exact hmv _ _ _ _ hW.alike hw, hkw _ _ hW hKs⟩⟩ rfl hn hl.1 rfl (lv_room hro) hd hf) hS (fun q _ z => z) (fun q z => z) (fun r u t H1 locs1 ht hvm hp hB hz hk hS1 => ?_)
  subst hp
  exact kk r u hf0 X hX H1 locs1 ls (by rw [← ht]; exact hmv _ _ _ _ hvm.symm hB) hS1 hl
theorem g_callVv (h : gOk p s m args meth c cc nL own tb) (hmv : gMv Wd) (hkw : gKw Ke) (hKs : Ke s) {C : String} {b : Nat} (As : List Value) {stk : List Value} {f : Option (S)} {k : S → Option Rt} (hM : gCv l y bytes maxL ret rm Ke Wd A (.ref b :: As) σ f) (hy : yOkV y bytes maxL ret C n) (hml : Cond.methodLink own index y ∈ tb) (hR : yRm rm R maxL) (hrc : ∀ H, Wd σ s H → ∃ cellB : Cell, H[b]? = some cellB ∧ cellB.vm.isStatics = false ∧ s.vm.findClass C = some cellB.cls) (hn : As.length = n) (hst : stk = As.reverse ++ .ref b :: st) (hro : (st.map fun v => v.category).sum ≤ 8) (hd : decode cc pc = .ok (.invokevirtual index, 3)) (hf : cells + rm.cells ≤ R.cells ∧ slots + rm.slots ≤ R.slots) (kk : ∀ σ', f = some σ' → gS p l e R s m args below meth c nL A Wd QX (cells + rm.cells) (slots + rm.slots) (k σ') σ' (pc + 3) lv (st)) : gS p l e R s m args below meth c nL A Wd QX cells slots (f.bind k) σ pc lv stk := by
  intro X hX H locs ls hw hS hl
  subst hst
  cases hf0 : f with
  | none => rw [hf0] at hX; cases hX
  | some u0 =>
  rw [hf0] at hX
  refine va_callv (va_runV (As := As) (rest := st) h.1 (hM u0 hf0) (cwT h.1.2.2.2.2 hy hml hR) ⟨fun a U g mk q => ⟨q.1, hmv _ U (U.calling g mk a) _ (Vm.Alike.refl U.vm) q.2.1, hkw U (U.calling g mk a) (State.WarmedH.refl U) q.2.2⟩, hrc H hw, fun U hU hW => ⟨rfl, by rw [hU]; exact hmv _ _ _ _ hW.alike hw, hkw _ _ hW hKs⟩⟩ rfl hn hl.1 rfl (lv_room hro) hd hf) hS (fun q _ z => z) (fun q z => z) (fun u t H1 locs1 ht hvm hp hB hz hk hS1 => ?_)
  subst hp
  exact kk u hf0 X hX H1 locs1 ls (by rw [← ht]; exact hmv _ _ _ _ hvm.symm hB) hS1 hl
theorem g_callSi (h : gOk p s m args meth c cc nL own tb) (hmv : gMv Wd) (hkw : gKw Ke) (hKs : Ke s) (As : List Value) {stk : List Value} {f : Option (Int32 × S)} {k : Int32 → S → Option Rt} (hM : gCi l y bytes maxL ret rm Ke Wd A As σ f) (hy : yOkS y bytes maxL ret n) (hml : Cond.methodLink own index y ∈ tb) (hR : yRm rm R maxL) (hn : As.length = n) (hst : stk = As.reverse ++ st) (hro : (st.map fun v => v.category).sum ≤ 8) (hd : decode cc pc = .ok (.invokestatic index, 3)) (hf : cells + rm.cells ≤ R.cells ∧ slots + rm.slots ≤ R.slots) (kk : ∀ r σ', f = some (r, σ') → gS p l e R s m args below meth c nL A Wd QX (cells + rm.cells) (slots + rm.slots) (k r σ') σ' (pc + 3) lv (.int r :: st)) : gS p l e R s m args below meth c nL A Wd QX cells slots (bi f k) σ pc lv stk := by
  intro X hX H locs ls hw hS hl
  subst hst
  cases hf0 : f with
  | none => rw [hf0] at hX; cases hX
  | some u0 =>
  rw [hf0] at hX
  refine va_calli (va_runS (As := As) (rest := st) h.1 (hM u0 hf0) (cwTS h.1.2.2.2.2 hy hml hR) ⟨fun a U g mk q => ⟨q.1, hmv _ U (U.calling g mk a) _ (Vm.Alike.refl U.vm) q.2.1, hkw U (U.calling g mk a) (State.WarmedH.refl U) q.2.2⟩, fun U hU hW => ⟨rfl, by rw [hU]; exact hmv _ _ _ _ hW.alike hw, hkw _ _ hW hKs⟩⟩ rfl hn hl.1 rfl (lv_room hro) hd hf) hS (fun q _ z => z) (fun q z => z) (fun r u t H1 locs1 ht hvm hp hB hz hk hS1 => ?_)
  subst hp
  exact kk r u hf0 X hX H1 locs1 ls (by rw [← ht]; exact hmv _ _ _ _ hvm.symm hB) hS1 hl
theorem g_callSv (h : gOk p s m args meth c cc nL own tb) (hmv : gMv Wd) (hkw : gKw Ke) (hKs : Ke s) (As : List Value) {stk : List Value} {f : Option (S)} {k : S → Option Rt} (hM : gCv l y bytes maxL ret rm Ke Wd A As σ f) (hy : yOkS y bytes maxL ret n) (hml : Cond.methodLink own index y ∈ tb) (hR : yRm rm R maxL) (hn : As.length = n) (hst : stk = As.reverse ++ st) (hro : (st.map fun v => v.category).sum ≤ 8) (hd : decode cc pc = .ok (.invokestatic index, 3)) (hf : cells + rm.cells ≤ R.cells ∧ slots + rm.slots ≤ R.slots) (kk : ∀ σ', f = some σ' → gS p l e R s m args below meth c nL A Wd QX (cells + rm.cells) (slots + rm.slots) (k σ') σ' (pc + 3) lv (st)) : gS p l e R s m args below meth c nL A Wd QX cells slots (f.bind k) σ pc lv stk := by
  intro X hX H locs ls hw hS hl
  subst hst
  cases hf0 : f with
  | none => rw [hf0] at hX; cases hX
  | some u0 =>
  rw [hf0] at hX
  refine va_callv (va_runS (As := As) (rest := st) h.1 (hM u0 hf0) (cwTS h.1.2.2.2.2 hy hml hR) ⟨fun a U g mk q => ⟨q.1, hmv _ U (U.calling g mk a) _ (Vm.Alike.refl U.vm) q.2.1, hkw U (U.calling g mk a) (State.WarmedH.refl U) q.2.2⟩, fun U hU hW => ⟨rfl, by rw [hU]; exact hmv _ _ _ _ hW.alike hw, hkw _ _ hW hKs⟩⟩ rfl hn hl.1 rfl (lv_room hro) hd hf) hS (fun q _ z => z) (fun q z => z) (fun u t H1 locs1 ht hvm hp hB hz hk hS1 => ?_)
  subst hp
  exact kk u hf0 X hX H1 locs1 ls (by rw [← ht]; exact hmv _ _ _ _ hvm.symm hB) hS1 hl
theorem g_callV0i (h : gOk p s m args meth c cc nL own tb) (hmv : gMv Wd) (hkw : gKw Ke) (hKs : Ke s) {C : String} {b : Nat} (As : List Value) {stk : List Value} {f : Option (Int32 × S)} {k : Int32 → S → Option Rt} (hM : gCi l y bytes maxL ret rm Ke Wd A (.ref b :: As) σ f) (hy : yOkV y bytes maxL ret C n) (hml : Cond.methodLink own index y ∈ tb) (hR : yRm rm R maxL) (hrc : ∀ H, Wd σ s H → ∃ cellB : Cell, H[b]? = some cellB ∧ cellB.vm.isStatics = false ∧ s.vm.findClass C = some cellB.cls) (hn : As.length = n) (hst : stk = As.reverse ++ .ref b :: st) (h0c : rm.cells = 0) (h0s : rm.slots = 0) (hro : (st.map fun v => v.category).sum ≤ 8) (hd : decode cc pc = .ok (.invokevirtual index, 3)) (hf : cells ≤ R.cells ∧ slots ≤ R.slots) (kk : ∀ r σ', gS p l e R s m args below meth c nL A Wd QX cells slots (k r σ') σ' (pc + 3) lv (.int r :: st)) : gS p l e R s m args below meth c nL A Wd QX cells slots (bi f k) σ pc lv stk := by
  refine g_callVi h hmv hkw hKs As hM hy hml hR hrc hn hst hro hd ⟨by rw [h0c]; exact hf.1, by rw [h0s]; exact hf.2⟩ ?_
  rw [h0c, h0s]
  exact fun r σ' _ => kk r σ'
theorem g_callV0i' (h : gOk p s m args meth c cc nL own tb) (hmv : gMv Wd) (hkw : gKw Ke) (hKs : Ke s) {C : String} {b : Nat} (As : List Value) {stk : List Value} {f : Option (Int32 × S)} {k : Int32 → S → Option Rt} (hM : gCi l y bytes maxL ret rm Ke Wd A (.ref b :: As) σ f) (hy : yOkV y bytes maxL ret C n) (hml : Cond.methodLink own index y ∈ tb) (hR : yRm rm R maxL) (hrc : ∀ H, Wd σ s H → ∃ cellB : Cell, H[b]? = some cellB ∧ cellB.vm.isStatics = false ∧ s.vm.findClass C = some cellB.cls) (hn : As.length = n) (hst : stk = As.reverse ++ .ref b :: st) (h0c : rm.cells = 0) (h0s : rm.slots = 0) (hro : (st.map fun v => v.category).sum ≤ 8) (hd : decode cc pc = .ok (.invokevirtual index, 3)) (hf : cells ≤ R.cells ∧ slots ≤ R.slots) (kk : ∀ r σ', f = some (r, σ') → gS p l e R s m args below meth c nL A Wd QX cells slots (k r σ') σ' (pc + 3) lv (.int r :: st)) : gS p l e R s m args below meth c nL A Wd QX cells slots (bi f k) σ pc lv stk := by
  refine g_callVi h hmv hkw hKs As hM hy hml hR hrc hn hst hro hd ⟨by rw [h0c]; exact hf.1, by rw [h0s]; exact hf.2⟩ ?_
  rw [h0c, h0s]
  exact kk
theorem g_callV0v (h : gOk p s m args meth c cc nL own tb) (hmv : gMv Wd) (hkw : gKw Ke) (hKs : Ke s) {C : String} {b : Nat} (As : List Value) {stk : List Value} {f : Option (S)} {k : S → Option Rt} (hM : gCv l y bytes maxL ret rm Ke Wd A (.ref b :: As) σ f) (hy : yOkV y bytes maxL ret C n) (hml : Cond.methodLink own index y ∈ tb) (hR : yRm rm R maxL) (hrc : ∀ H, Wd σ s H → ∃ cellB : Cell, H[b]? = some cellB ∧ cellB.vm.isStatics = false ∧ s.vm.findClass C = some cellB.cls) (hn : As.length = n) (hst : stk = As.reverse ++ .ref b :: st) (h0c : rm.cells = 0) (h0s : rm.slots = 0) (hro : (st.map fun v => v.category).sum ≤ 8) (hd : decode cc pc = .ok (.invokevirtual index, 3)) (hf : cells ≤ R.cells ∧ slots ≤ R.slots) (kk : ∀ σ', gS p l e R s m args below meth c nL A Wd QX cells slots (k σ') σ' (pc + 3) lv (st)) : gS p l e R s m args below meth c nL A Wd QX cells slots (f.bind k) σ pc lv stk := by
  refine g_callVv h hmv hkw hKs As hM hy hml hR hrc hn hst hro hd ⟨by rw [h0c]; exact hf.1, by rw [h0s]; exact hf.2⟩ ?_
  rw [h0c, h0s]
  exact fun σ' _ => kk σ'
theorem g_callV0v' (h : gOk p s m args meth c cc nL own tb) (hmv : gMv Wd) (hkw : gKw Ke) (hKs : Ke s) {C : String} {b : Nat} (As : List Value) {stk : List Value} {f : Option (S)} {k : S → Option Rt} (hM : gCv l y bytes maxL ret rm Ke Wd A (.ref b :: As) σ f) (hy : yOkV y bytes maxL ret C n) (hml : Cond.methodLink own index y ∈ tb) (hR : yRm rm R maxL) (hrc : ∀ H, Wd σ s H → ∃ cellB : Cell, H[b]? = some cellB ∧ cellB.vm.isStatics = false ∧ s.vm.findClass C = some cellB.cls) (hn : As.length = n) (hst : stk = As.reverse ++ .ref b :: st) (h0c : rm.cells = 0) (h0s : rm.slots = 0) (hro : (st.map fun v => v.category).sum ≤ 8) (hd : decode cc pc = .ok (.invokevirtual index, 3)) (hf : cells ≤ R.cells ∧ slots ≤ R.slots) (kk : ∀ σ', f = some σ' → gS p l e R s m args below meth c nL A Wd QX cells slots (k σ') σ' (pc + 3) lv (st)) : gS p l e R s m args below meth c nL A Wd QX cells slots (f.bind k) σ pc lv stk := by
  refine g_callVv h hmv hkw hKs As hM hy hml hR hrc hn hst hro hd ⟨by rw [h0c]; exact hf.1, by rw [h0s]; exact hf.2⟩ ?_
  rw [h0c, h0s]
  exact kk
theorem g_callS0i (h : gOk p s m args meth c cc nL own tb) (hmv : gMv Wd) (hkw : gKw Ke) (hKs : Ke s) (As : List Value) {stk : List Value} {f : Option (Int32 × S)} {k : Int32 → S → Option Rt} (hM : gCi l y bytes maxL ret rm Ke Wd A As σ f) (hy : yOkS y bytes maxL ret n) (hml : Cond.methodLink own index y ∈ tb) (hR : yRm rm R maxL) (hn : As.length = n) (hst : stk = As.reverse ++ st) (h0c : rm.cells = 0) (h0s : rm.slots = 0) (hro : (st.map fun v => v.category).sum ≤ 8) (hd : decode cc pc = .ok (.invokestatic index, 3)) (hf : cells ≤ R.cells ∧ slots ≤ R.slots) (kk : ∀ r σ', gS p l e R s m args below meth c nL A Wd QX cells slots (k r σ') σ' (pc + 3) lv (.int r :: st)) : gS p l e R s m args below meth c nL A Wd QX cells slots (bi f k) σ pc lv stk := by
  refine g_callSi h hmv hkw hKs As hM hy hml hR hn hst hro hd ⟨by rw [h0c]; exact hf.1, by rw [h0s]; exact hf.2⟩ ?_
  rw [h0c, h0s]
  exact fun r σ' _ => kk r σ'
theorem g_callS0i' (h : gOk p s m args meth c cc nL own tb) (hmv : gMv Wd) (hkw : gKw Ke) (hKs : Ke s) (As : List Value) {stk : List Value} {f : Option (Int32 × S)} {k : Int32 → S → Option Rt} (hM : gCi l y bytes maxL ret rm Ke Wd A As σ f) (hy : yOkS y bytes maxL ret n) (hml : Cond.methodLink own index y ∈ tb) (hR : yRm rm R maxL) (hn : As.length = n) (hst : stk = As.reverse ++ st) (h0c : rm.cells = 0) (h0s : rm.slots = 0) (hro : (st.map fun v => v.category).sum ≤ 8) (hd : decode cc pc = .ok (.invokestatic index, 3)) (hf : cells ≤ R.cells ∧ slots ≤ R.slots) (kk : ∀ r σ', f = some (r, σ') → gS p l e R s m args below meth c nL A Wd QX cells slots (k r σ') σ' (pc + 3) lv (.int r :: st)) : gS p l e R s m args below meth c nL A Wd QX cells slots (bi f k) σ pc lv stk := by
  refine g_callSi h hmv hkw hKs As hM hy hml hR hn hst hro hd ⟨by rw [h0c]; exact hf.1, by rw [h0s]; exact hf.2⟩ ?_
  rw [h0c, h0s]
  exact kk
theorem g_callS0v (h : gOk p s m args meth c cc nL own tb) (hmv : gMv Wd) (hkw : gKw Ke) (hKs : Ke s) (As : List Value) {stk : List Value} {f : Option (S)} {k : S → Option Rt} (hM : gCv l y bytes maxL ret rm Ke Wd A As σ f) (hy : yOkS y bytes maxL ret n) (hml : Cond.methodLink own index y ∈ tb) (hR : yRm rm R maxL) (hn : As.length = n) (hst : stk = As.reverse ++ st) (h0c : rm.cells = 0) (h0s : rm.slots = 0) (hro : (st.map fun v => v.category).sum ≤ 8) (hd : decode cc pc = .ok (.invokestatic index, 3)) (hf : cells ≤ R.cells ∧ slots ≤ R.slots) (kk : ∀ σ', gS p l e R s m args below meth c nL A Wd QX cells slots (k σ') σ' (pc + 3) lv (st)) : gS p l e R s m args below meth c nL A Wd QX cells slots (f.bind k) σ pc lv stk := by
  refine g_callSv h hmv hkw hKs As hM hy hml hR hn hst hro hd ⟨by rw [h0c]; exact hf.1, by rw [h0s]; exact hf.2⟩ ?_
  rw [h0c, h0s]
  exact fun σ' _ => kk σ'
theorem g_callS0v' (h : gOk p s m args meth c cc nL own tb) (hmv : gMv Wd) (hkw : gKw Ke) (hKs : Ke s) (As : List Value) {stk : List Value} {f : Option (S)} {k : S → Option Rt} (hM : gCv l y bytes maxL ret rm Ke Wd A As σ f) (hy : yOkS y bytes maxL ret n) (hml : Cond.methodLink own index y ∈ tb) (hR : yRm rm R maxL) (hn : As.length = n) (hst : stk = As.reverse ++ st) (h0c : rm.cells = 0) (h0s : rm.slots = 0) (hro : (st.map fun v => v.category).sum ≤ 8) (hd : decode cc pc = .ok (.invokestatic index, 3)) (hf : cells ≤ R.cells ∧ slots ≤ R.slots) (kk : ∀ σ', f = some σ' → gS p l e R s m args below meth c nL A Wd QX cells slots (k σ') σ' (pc + 3) lv (st)) : gS p l e R s m args below meth c nL A Wd QX cells slots (f.bind k) σ pc lv stk := by
  refine g_callSv h hmv hkw hKs As hM hy hml hR hn hst hro hd ⟨by rw [h0c]; exact hf.1, by rw [h0s]; exact hf.2⟩ ?_
  rw [h0c, h0s]
  exact kk
theorem g_callV0p (h : gOk p s m args meth c cc nL own tb) (hmv : gMv Wd) (hkw : gKw Ke) (hKs : Ke s) {C : String} {b : Nat} (As : List Value) {stk : List Value} {f : Option Int32} {k : Int32 → Option Rt} (hM : gCp l y bytes maxL ret rm Ke Wd A (.ref b :: As) σ f) (hy : yOkV y bytes maxL ret C n) (hml : Cond.methodLink own index y ∈ tb) (hR : yRm rm R maxL) (hrc : ∀ H, Wd σ s H → ∃ cellB : Cell, H[b]? = some cellB ∧ cellB.vm.isStatics = false ∧ s.vm.findClass C = some cellB.cls) (hn : As.length = n) (hst : stk = As.reverse ++ .ref b :: st) (h0c : rm.cells = 0) (h0s : rm.slots = 0) (hro : (st.map fun v => v.category).sum ≤ 8) (hd : decode cc pc = .ok (.invokevirtual index, 3)) (hf : cells ≤ R.cells ∧ slots ≤ R.slots) (kk : ∀ r, gS p l e R s m args below meth c nL A Wd QX cells slots (k r) σ (pc + 3) lv (.int r :: st)) : gS p l e R s m args below meth c nL A Wd QX cells slots (f.bind k) σ pc lv stk := by
  cases hf0 : f with
  | none => exact g_none
  | some r0 =>
  refine g_callVi (f := some (r0, σ)) (k := fun r _ => k r) h hmv hkw hKs As (fun X hX => by cases hX; exact hM r0 hf0) hy hml hR hrc hn hst hro hd ⟨by rw [h0c]; exact hf.1, by rw [h0s]; exact hf.2⟩ ?_
  rw [h0c, h0s]
  intro r σ' e9
  cases e9
  exact kk _
theorem g_callS0p (h : gOk p s m args meth c cc nL own tb) (hmv : gMv Wd) (hkw : gKw Ke) (hKs : Ke s) (As : List Value) {stk : List Value} {f : Option Int32} {k : Int32 → Option Rt} (hM : gCp l y bytes maxL ret rm Ke Wd A As σ f) (hy : yOkS y bytes maxL ret n) (hml : Cond.methodLink own index y ∈ tb) (hR : yRm rm R maxL) (hn : As.length = n) (hst : stk = As.reverse ++ st) (h0c : rm.cells = 0) (h0s : rm.slots = 0) (hro : (st.map fun v => v.category).sum ≤ 8) (hd : decode cc pc = .ok (.invokestatic index, 3)) (hf : cells ≤ R.cells ∧ slots ≤ R.slots) (kk : ∀ r, gS p l e R s m args below meth c nL A Wd QX cells slots (k r) σ (pc + 3) lv (.int r :: st)) : gS p l e R s m args below meth c nL A Wd QX cells slots (f.bind k) σ pc lv stk := by
  cases hf0 : f with
  | none => exact g_none
  | some r0 =>
  refine g_callSi (f := some (r0, σ)) (k := fun r _ => k r) h hmv hkw hKs As (fun X hX => by cases hX; exact hM r0 hf0) hy hml hR hn hst hro hd ⟨by rw [h0c]; exact hf.1, by rw [h0s]; exact hf.2⟩ ?_
  rw [h0c, h0s]
  intro r σ' e9
  cases e9
  exact kk _
end GC
end
section
/-! the reference's world: its object's int fields and its arrays, as two functions -/
section MW
abbrev Ms : Type := (Nat → Int32) × (Nat → Nat → Int32)
def mArr (k : Nat) : Bool := match k with
  | 9 => true
  | 10 => true
  | 11 => true
  | 12 => true
  | 13 => true
  | 14 => true
  | 15 => true
  | 16 => true
  | 17 => true
  | 18 => true
  | 19 => true
  | 20 => true
  | 21 => true
  | 22 => true
  | 23 => true
  | 24 => true
  | 25 => true
  | 26 => true
  | 27 => true
  | 28 => true
  | 29 => true
  | 30 => true
  | 31 => true
  | 32 => true
  | 33 => true
  | 34 => true
  | 35 => true
  | 36 => true
  | 37 => true
  | 38 => true
  | 53 => true
  | 55 => true
  | 56 => true
  | 57 => true
  | 58 => true
  | 59 => true
  | _ => false
def mZ (k : Nat) : Bool := match k with
  | 13 => true
  | 18 => true
  | 37 => true
  | 55 => true
  | _ => false
def mLen (k : Nat) : Nat := match k with
  | 9 => 30
  | 10 => 120
  | 11 => 120
  | 12 => 240
  | 13 => 30
  | 14 => 4
  | 15 => 4
  | 16 => 40
  | 17 => 40
  | 18 => 40
  | 19 => 400
  | 20 => 400
  | 21 => 400
  | 22 => 400
  | 23 => 400
  | 24 => 8
  | 25 => 8
  | 26 => 192
  | 27 => 192
  | 28 => 192
  | 29 => 192
  | 30 => 192
  | 31 => 192
  | 32 => 192
  | 33 => 192
  | 34 => 192
  | 35 => 768
  | 36 => 768
  | 37 => 768
  | 38 => 1000
  | 53 => 24
  | 55 => 30
  | 56 => 240
  | 57 => 240
  | 58 => 240
  | 59 => 30
  | _ => 0
def mF (v : Nat → Int32) (p : Nat → Nat) (k : Nat) : Value := if mArr k = true then .ref (p k) else .int (v k)
def mFs (v : Nat → Int32) (p : Nat → Nat) : List Value := (List.range 60).map (mF v p)
theorem mFs_get {v : Nat → Int32} {p : Nat → Nat} {k : Nat} (hk : k < 60) : (mFs v p)[k]? = some (mF v p k) := by simp [mFs, hk]
theorem mFs_len {v : Nat → Int32} {p : Nat → Nat} : (mFs v p).length = 60 := by simp [mFs]
theorem mFs_set {v : Nat → Int32} {p : Nat → Nat} {k : Nat} {x : Int32} (ha : mArr k = false) : (mFs v p).set k (.int x) = mFs (upd v k x) p := by
  apply List.ext_getElem?
  intro j
  by_cases hj : j < 60
  · by_cases e : k = j
    · subst e
      rw [List.getElem?_set_self (by rw [mFs_len]; exact hj), mFs_get hj, mF, if_neg (by rw [ha]; decide)]
      simp [upd]
    · rw [List.getElem?_set_ne e, mFs_get hj, mFs_get hj, mF, mF]
      by_cases hm : mArr j = true
      · rw [if_pos hm, if_pos hm]
      · rw [if_neg hm, if_neg hm]
        simp [upd, Ne.symm e]
  · rw [List.getElem?_eq_none (by rw [List.length_set, mFs_len]; omega), List.getElem?_eq_none (by rw [mFs_len]; omega)]
def mCA (cI cZ : ClassId) (k : Nat) : ClassId := if mZ k = true then cZ else cI
def mSet (σ : Ms) (k : Nat) (x : Int32) : Ms := (upd σ.1 k x, σ.2)
def mSto (σ : Ms) (k j : Nat) (x : Int32) : Ms := (σ.1, va_up σ.2 k (upd (σ.2 k) j x))
def mEok (E : State → Heap → Prop) (A : Nat → Prop) : Prop := (∀ (u U : State) (H : Heap), u.vm.Alike U.vm → E u H → E U H) ∧ ∀ (U : State) (H H1 : Heap), (∀ a : Nat, a < H.size → ¬ A a → H1[a]? = H[a]?) → E U H → E U H1
def MW (D : va_G) (cI cZ : ClassId) (E : State → Heap → Prop) (A : Nat → Prop) (h0 : Nat) (p : Nat → Nat) (σ : Ms) (U : State) (H : Heap) : Prop :=
  va_K D vwCl [(cI, .int), (cZ, .boolean)] U ∧ E U H ∧ A h0 ∧ va_at D vwCl (h0, .inr (9, mFs σ.1 p)) H ∧ (∀ k, mArr k = true → A (p k) ∧ p k ≠ h0 ∧ va_at D vwCl (p k, .inl (mCA cI cZ k, mLen k, .inl (σ.2 k))) H) ∧ ∀ i j, mArr i = true → mArr j = true → p i = p j → i = j
theorem MW_mv {D : va_G} {cI cZ : ClassId} {E : State → Heap → Prop} {A : Nat → Prop} {h0 : Nat} {p : Nat → Nat} (hE : mEok E A) : gMv (MW D cI cZ E A h0 p) := fun σ u U H hvm h => ⟨h.1.moved hvm, hE.1 _ _ _ hvm h.2.1, h.2.2⟩
theorem va_P1 {D : va_G} {cl : List vw_C} {q : Nat × va_E} {H : Heap} (h : va_at D cl q H) : va_P D cl [q] H := fun k x hx => by
  cases k with
  | zero => cases hx; exact h
  | succ k => simp at hx
theorem MW_recv {D : va_G} {cI cZ : ClassId} {E : State → Heap → Prop} {A : Nat → Prop} {h0 : Nat} {p : Nat → Nat} {σ : Ms} {s : State} : ∀ H, MW D cI cZ E A h0 p σ s H → ∃ cellB : Cell, H[h0]? = some cellB ∧ cellB.vm.isStatics = false ∧ s.vm.findClass RX10 = some cellB.cls := fun H h => va_recv (q := (RX10, TX10, 60)) (ci := 9) (q0 := 0) h.1 (va_P1 h.2.2.2.1) rfl rfl

variable {p : Program} {l : Launch} {e : Env} {R : Room} {s : State} {m : MethodId} {args : Array Value} {below : List Frame} {meth : Method} {c : Code}
variable {Rt : Type} {cc : ByteArray} {nL : Nat} {own : String} {Ts : List Cond} {A : Nat → Prop} {D : va_G} {cI cZ : ClassId} {E : State → Heap → Prop} {h0 : Nat} {ps : Nat → Nat} {QX : Rt → State → Prop} {cells slots : Nat} {o : Option Rt} {σ : Ms} {pc : Nat} {lv : List (Nat × Value)} {st : List Value}
theorem m_get (h : gOk p s m args meth c cc nL own Ts) (hin : ∀ w ∈ wsX100, w ∈ Ts) (k : Nat) (hk : k < 60) (ha : mArr k = false) {index : Nat} (hlk : Cond.fieldLink own index (TX10 k).1 (TX10 k).2.1 (TX10 k).2.2.1 ∈ Ts) (hd : decode cc pc = .ok (.getfield index, 3)) (kk : gS p l e R s m args below meth c nL A (MW D cI cZ E A h0 ps) QX cells slots o σ (pc + 3) lv (.int (σ.1 k) :: st)) : gS p l e R s m args below meth c nL A (MW D cI cZ E A h0 ps) QX cells slots o σ pc lv (.ref h0 :: st) := fun X hX H locs ls hw hS hl =>
  va_get (D := D) (cl := vwCl) (ws := [(h0, .inr (9, mFs σ.1 ps))]) (ci := 9) (C := RX10) (T := TX10) (N := 60) (v := .int (σ.1 k)) h.1.1 h.1.2.1 h.1.2.2.2.2 hin h.1.2.2.2.1 hw.1 (va_P1 hw.2.2.2.1) 0 rfl rfl k hk (h.1.2.2.2.2 _ hlk) (fun _ q => q) (by rw [mFs_get hk, mF, if_neg (by rw [ha]; decide)]) hd (kk X hX H locs ls hw hS hl)
theorem m_geta (h : gOk p s m args meth c cc nL own Ts) (hin : ∀ w ∈ wsX100, w ∈ Ts) (k : Nat) (hk : k < 60) (ha : mArr k = true) {index : Nat} (hlk : Cond.fieldLink own index (TX10 k).1 (TX10 k).2.1 (TX10 k).2.2.1 ∈ Ts) (hd : decode cc pc = .ok (.getfield index, 3)) (kk : gS p l e R s m args below meth c nL A (MW D cI cZ E A h0 ps) QX cells slots o σ (pc + 3) lv (.ref (ps k) :: st)) : gS p l e R s m args below meth c nL A (MW D cI cZ E A h0 ps) QX cells slots o σ pc lv (.ref h0 :: st) := fun X hX H locs ls hw hS hl =>
  va_get (D := D) (cl := vwCl) (ws := [(h0, .inr (9, mFs σ.1 ps))]) (ci := 9) (C := RX10) (T := TX10) (N := 60) (v := .ref (ps k)) h.1.1 h.1.2.1 h.1.2.2.2.2 hin h.1.2.2.2.1 hw.1 (va_P1 hw.2.2.2.1) 0 rfl rfl k hk (h.1.2.2.2.2 _ hlk) (fun _ q => q) (by rw [mFs_get hk, mF, if_pos ha]) hd (kk X hX H locs ls hw hS hl)
theorem m_put (h : gOk p s m args meth c cc nL own Ts) (hE : mEok E A) (hin : ∀ w ∈ wsX100, w ∈ Ts) (k : Nat) (hk : k < 60) (ha : mArr k = false) (hfin : (TX10 k).2.2.2 = false) (hty : tyX10 k = .int) {index : Nat} {x : Int32} (hlk : Cond.fieldLink own index (TX10 k).1 (TX10 k).2.1 (TX10 k).2.2.1 ∈ Ts) (hd : decode cc pc = .ok (.putfield index, 3)) (kk : gS p l e R s m args below meth c nL A (MW D cI cZ E A h0 ps) QX cells slots o (mSet σ k x) (pc + 3) lv st) : gS p l e R s m args below meth c nL A (MW D cI cZ E A h0 ps) QX cells slots o σ pc lv (.int x :: .ref h0 :: st) := by
  intro X hX H locs ls hw hS hl
  obtain ⟨hK, hE0, hA0, hO, hArr, hinj⟩ := hw
  have hts := h.1.2.2.2.2
  have hap := va_apart (own := own) (D := D) (cl := vwCl) (ci := 9) hts hin tyX10 tyX10_ok nmX10 hK rfl
  obtain ⟨r, h1, cell, q1, q2, q3, q4⟩ := hO
  have hr : r = (RX10, TX10, 60) := Option.some.inj (h1.symm.trans rfl)
  subst hr
  obtain ⟨hSl, hfc, kC, hkC, hkind⟩ := hK.1 9 _ rfl
  obtain ⟨cf, kf, fi, f, hi, hsl⟩ := hSl k hk
  have hlay := hts _ (hin _ (u_in_lay hk))
  unfold u_lay at hlay
  rw [if_neg (by rw [hfin]; decide)] at hlay
  have hst := (u_facts hfc hkC (u_lays hts hin hk) hi).1
  have h6 := u_store (v := .int x) hfc hkC hkind hlay hi ((tyX10_ok k hk).trans (by rw [hty])) rfl rfl
  refine W.putK h.1.1 h.1.2.1 (f := f) ⟨h.1.2.2.2.1, hts _ hlk, ⟨_, _, _, hi⟩, hst⟩ (by rw [q2]; exact h6) q1 q3 (by rw [hsl]; exact k2_hasslot (q4 k hk)) rfl rfl hd fun H' e1 e2 e3 => ?_
  rw [hsl] at e1 ⊢
  refine kk X hX H' _ ls ⟨hK, hE.2 _ _ _ (fun a _ hnA => e3 a (fun q => hnA (q ▸ hA0))) hE0, hA0, ⟨_, rfl, ?_⟩, fun j hj => ⟨(hArr j hj).1, (hArr j hj).2.1, (hArr j hj).2.2.kept (e3 _ (hArr j hj).2.1)⟩, hinj⟩ (hS.put e2 e3 hA0) hl
  exact t_OB.to (V := updV (vp_V (mFs σ.1 ps)) k (.int x)) ⟨_, e1, q2, q3, t_set q4 hap hk _⟩ (fun j _ => (vp_updV_set (by rw [mFs_len]; exact hk) _ j).trans (by rw [mFs_set ha]; rfl))

theorem m_iald (h : gOk p s m args meth c cc nL own Ts) (k : Nat) (hk : mArr k = true) (hz : mZ k = false) (n : Nat) (hn : mLen k = n) {i : Int32} (hd : decode cc pc = .ok (.iaload, 1)) (kk : gS p l e R s m args below meth c nL A (MW D cI cZ E A h0 ps) QX cells slots o σ (pc + 1) lv (.int (σ.2 k i.toNatClampNeg) :: st)) : gS p l e R s m args below meth c nL A (MW D cI cZ E A h0 ps) QX cells slots (if okI i n = true then o else none) σ pc lv (.int i :: .ref (ps k) :: st) :=
  g_guard fun hi => fun X hX H locs ls hw hS hl => va_iald (D := D) (cl := vwCl) (ws := [(ps k, .inl (mCA cI cZ k, mLen k, .inl (σ.2 k)))]) h.1.1 h.1.2.1 hw.1 (va_P1 (hw.2.2.2.2.1 k hk).2.2) 0 0 rfl (by simp [mCA, hz]) (by rw [hn]; exact okI_in hi) hd (kk X hX H locs ls hw hS hl)

theorem m_zald (h : gOk p s m args meth c cc nL own Ts) (k : Nat) (hk : mArr k = true) (hz : mZ k = true) (n : Nat) (hn : mLen k = n) {i : Int32} (hd : decode cc pc = .ok (.baload, 1)) (kk : gS p l e R s m args below meth c nL A (MW D cI cZ E A h0 ps) QX cells slots o σ (pc + 1) lv (.int (σ.2 k i.toNatClampNeg) :: st)) : gS p l e R s m args below meth c nL A (MW D cI cZ E A h0 ps) QX cells slots (if okI i n = true then o else none) σ pc lv (.int i :: .ref (ps k) :: st) :=
  g_guard fun hi => fun X hX H locs ls hw hS hl => va_zald (D := D) (cl := vwCl) (ws := [(ps k, .inl (mCA cI cZ k, mLen k, .inl (σ.2 k)))]) h.1.1 h.1.2.1 hw.1 (va_P1 (hw.2.2.2.2.1 k hk).2.2) 0 1 rfl (by simp [mCA, hz]) (by rw [hn]; exact okI_in hi) hd (kk X hX H locs ls hw hS hl)

theorem m_iast (h : gOk p s m args meth c cc nL own Ts) (hE : mEok E A) (k : Nat) (hk : mArr k = true) (hz : mZ k = false) (n : Nat) (hn : mLen k = n) {i x : Int32} (hd : decode cc pc = .ok (.iastore, 1)) (kk : gS p l e R s m args below meth c nL A (MW D cI cZ E A h0 ps) QX cells slots o (mSto σ k i.toNatClampNeg x) (pc + 1) lv st) : gS p l e R s m args below meth c nL A (MW D cI cZ E A h0 ps) QX cells slots (if okI i n = true then o else none) σ pc lv (.int x :: .int i :: .ref (ps k) :: st) := by
  refine g_guard fun hi => ?_
  intro X hX H locs ls hw hS hl
  obtain ⟨hK, hE0, hA0, hO, hArr, hinj⟩ := hw
  obtain ⟨hAk, hne, hc⟩ := hArr k hk
  subst hn
  have hin := okI_in hi
  refine W.iast h.1.1 h.1.2.1 hc ((hK.2 0 (mCA cI cZ k, .int) (by simp [mCA, hz])).1 (mLen k) (fun j => .int (σ.2 k j))) (fun q => by cases q) (by show ¬ (i < 0 ∨ (arrV _ _ _).slots.size ≤ _); rw [arrV_size]; exact hin) rfl rfl hd fun H1 e z oq => ?_
  refine kk X hX H1 _ ls ⟨hK, hE.2 _ _ _ (fun a _ hnA => oq a (fun q => hnA (q ▸ hAk))) hE0, hA0, hO.kept (oq _ (Ne.symm hne)), fun j hj => ⟨(hArr j hj).1, (hArr j hj).2.1, ?_⟩, hinj⟩ (hS.put z oq hAk) hl
  by_cases hjk : j = k
  · subst hjk
    show H1[ps j]? = some (vp_cell _ (mLen j, .inl ((mSto σ j i.toNatClampNeg x).2 j)))
    rw [e, vp_cell_i, vp_cell_i, arrV_store]
    congr 2
    funext q
    by_cases hq : q = i.toNatClampNeg
    · subst hq
      simp [mSto, va_up, updV, upd]
    · simp [mSto, va_up, updV, upd, hq]
  · have e9 : (mSto σ k i.toNatClampNeg x).2 j = σ.2 j := by simp [mSto, va_up, hjk]
    rw [e9]
    exact (hArr j hj).2.2.kept (oq _ (fun q => hjk (hinj j k hj hk q)))

theorem m_zast (h : gOk p s m args meth c cc nL own Ts) (hE : mEok E A) (k : Nat) (hk : mArr k = true) (hz : mZ k = true) (n : Nat) (hn : mLen k = n) {i x : Int32} (hok : okZ x = true) (hd : decode cc pc = .ok (.bastore, 1)) (kk : gS p l e R s m args below meth c nL A (MW D cI cZ E A h0 ps) QX cells slots o (mSto σ k i.toNatClampNeg x) (pc + 1) lv st) : gS p l e R s m args below meth c nL A (MW D cI cZ E A h0 ps) QX cells slots (if okI i n = true then o else none) σ pc lv (.int x :: .int i :: .ref (ps k) :: st) := by
  refine g_guard fun hi => ?_
  intro X hX H locs ls hw hS hl
  obtain ⟨hK, hE0, hA0, hO, hArr, hinj⟩ := hw
  obtain ⟨hAk, hne, hc⟩ := hArr k hk
  subst hn
  have hin := okI_in hi
  refine W.zast h.1.1 h.1.2.1 hc ((hK.2 1 (mCA cI cZ k, .boolean) (by simp [mCA, hz])).1 (mLen k) (fun j => .int (σ.2 k j))) (fun q => by cases q) (by show ¬ (i < 0 ∨ (arrV _ _ _).slots.size ≤ _); rw [arrV_size]; exact hin) rfl rfl hd fun H1 e z oq => ?_
  refine kk X hX H1 _ ls ⟨hK, hE.2 _ _ _ (fun a _ hnA => oq a (fun q => hnA (q ▸ hAk))) hE0, hA0, hO.kept (oq _ (Ne.symm hne)), fun j hj => ⟨(hArr j hj).1, (hArr j hj).2.1, ?_⟩, hinj⟩ (hS.put z oq hAk) hl
  by_cases hjk : j = k
  · subst hjk
    show H1[ps j]? = some (vp_cell _ (mLen j, .inl ((mSto σ j i.toNatClampNeg x).2 j)))
    rw [e, vp_cell_i, vp_cell_i, arrV_store]
    congr 2
    funext q
    by_cases hq : q = i.toNatClampNeg
    · subst hq
      simp [mSto, va_up, updV, upd, okZ_nar hok]
    · simp [mSto, va_up, updV, upd, hq]
  · have e9 : (mSto σ k i.toNatClampNeg x).2 j = σ.2 j := by simp [mSto, va_up, hjk]
    rw [e9]
    exact (hArr j hj).2.2.kept (oq _ (fun q => hjk (hinj j k hj hk q)))

end MW
end
section
section STR
def sAt (A : Nat → Prop) (a v : Nat) (w : List Int32) (U : State) (H : Heap) : Prop := va_O "java/lang/String" a A U H ∧ va_OF "java/lang/String" "coder" "B" (.int 0) a A U H ∧ va_OF "java/lang/String" "value" "[B" (.ref v) a A U H ∧ va_T .byte v w.length (fun j => .int (w.getD j 0)) A U H
theorem sAt.moved {A : Nat → Prop} {a v : Nat} {w : List Int32} {u U : State} {H : Heap} (hvm : u.vm.Alike U.vm) (h : sAt A a v w u H) : sAt A a v w U H := ⟨va_O.moved hvm h.1, va_OF.moved hvm h.2.1, va_OF.moved hvm h.2.2.1, va_T.moved hvm h.2.2.2⟩
theorem sAt.kept {A : Nat → Prop} {a v : Nat} {w : List Int32} {U : State} {H H1 : Heap} (h : sAt A a v w U H) (hq : ∀ q : Nat, q < H.size → ¬ A q → H1[q]? = H[q]?) : sAt A a v w U H1 := ⟨h.1.kept hq, h.2.1.kept hq, h.2.2.1.kept hq, h.2.2.2.kept hq⟩
def sKn {S : Type} (A : Nat → Prop) (Wd : S → State → Heap → Prop) : Prop := ∀ (σ : S) (U : State) (H : Heap), Wd σ U H → va_Z "java/lang/String" "COMPACT_STRINGS" "Z" (.int 1) A U H ∧ va_Zq "jdk/internal/util/Preconditions" "SIOOBE_FORMATTER" "Ljava/util/function/BiFunction;" A U H
def sIs {S : Type} (A : Nat → Prop) (Wd : S → State → Heap → Prop) (a v : Nat) (w : List Int32) : Prop := ∀ (σ : S) (U : State) (H : Heap), Wd σ U H → sAt A a v w U H
variable {p : Program} {l : Launch} {e : Env} {R : Room} {s : State} {m : MethodId} {args : Array Value} {below : List Frame} {meth : Method} {c : Code}
variable {S Rt : Type} {cc : ByteArray} {nL : Nat} {own : String} {Ts : List Cond} {A : Nat → Prop} {Ke : State → Prop} {Wd : S → State → Heap → Prop} {QX : Rt → State → Prop} {cells slots mc ms : Nat} {o : Option Rt} {σ : S} {pc : Nat} {lv : List (Nat × Value)} {st : List Value}
theorem g_gets (h : gOk p s m args meth c cc nL own Ts) {C n d : String} {v : Value} {index : Nat} (hZ : ∀ H, Wd σ s H → va_Z C n d v A s H) (hlk : Cond.fieldLink own index C n d ∈ Ts) (hd : decode cc pc = .ok (.getstatic index, 3)) (kk : gS p l e R s m args below meth c nL A Wd QX cells slots o σ (pc + 3) lv (v :: st)) : gS p l e R s m args below meth c nL A Wd QX cells slots o σ pc lv st := fun X hX H locs ls hw hS hl => by
  obtain ⟨cf, kf, fi, f, a, cell, h1, h2, h3, h4, h5, h6, h7, h8⟩ := hZ H hw
  exact W.gets h.1.1 h.1.2.1 h.1.2.2.2.1 (h.1.2.2.2.2 _ hlk) h1 h2 h3 h4 h5 (fun e => by rw [e] at h6; cases h6) h7 rfl hd (kk X hX H locs ls hw hS hl)
theorem g_getsq (h : gOk p s m args meth c cc nL own Ts) {C n d : String} {index : Nat} (hZ : ∀ H, Wd σ s H → va_Zq C n d A s H) (hlk : Cond.fieldLink own index C n d ∈ Ts) (hd : decode cc pc = .ok (.getstatic index, 3)) (kk : ∀ r : Option Nat, gS p l e R s m args below meth c nL A Wd QX cells slots o σ (pc + 3) lv (va_rf r :: st)) : gS p l e R s m args below meth c nL A Wd QX cells slots o σ pc lv st := fun X hX H locs ls hw hS hl => by
  have key : ∃ r : Option Nat, va_Z C n d (va_rf r) A s H := by
    rcases hZ H hw with q | ⟨t, q⟩
    · exact ⟨none, q⟩
    · exact ⟨some t, q⟩
  obtain ⟨r, cf, kf, fi, f, a, cell, h1, h2, h3, h4, h5, h6, h7, h8⟩ := key
  exact W.gets h.1.1 h.1.2.1 h.1.2.2.2.1 (h.1.2.2.2.2 _ hlk) h1 h2 h3 h4 h5 (fun e => by rw [e] at h6; cases h6) h7 rfl hd (kk r X hX H locs ls hw hS hl)
theorem g_getO (h : gOk p s m args meth c cc nL own Ts) {C n d : String} {v : Value} {index q : Nat} (hZ : ∀ H, Wd σ s H → va_OF C n d v q A s H) (hlk : Cond.fieldLink own index C n d ∈ Ts) (hd : decode cc pc = .ok (.getfield index, 3)) (kk : gS p l e R s m args below meth c nL A Wd QX cells slots o σ (pc + 3) lv (v :: st)) : gS p l e R s m args below meth c nL A Wd QX cells slots o σ pc lv (.ref q :: st) := fun X hX H locs ls hw hS hl => by
  obtain ⟨cf, k, fi, f, cell, h1, h2, h3, h4, h5, h6⟩ := hZ H hw
  exact W.getf h.1.1 h.1.2.1 h.1.2.2.2.1 (h.1.2.2.2.2 _ hlk) h1 h2 h3 h4 (v := v) h5 rfl rfl hd (kk X hX H locs ls hw hS hl)
theorem g_tlen (h : gOk p s m args meth c cc nL own Ts) {ty : FieldType} {t N : Nat} {f : Nat → Value} (hT : ∀ H, Wd σ s H → va_T ty t N f A s H) (hd : decode cc pc = .ok (.arraylength, 1)) (kk : gS p l e R s m args below meth c nL A Wd QX cells slots o σ (pc + 1) lv (.int (nI N) :: st)) : gS p l e R s m args below meth c nL A Wd QX cells slots o σ pc lv (.ref t :: st) := fun X hX H locs ls hw hS hl => by
  obtain ⟨cell, h1, h2, h3, h4, h5, h6, h7⟩ := hT H hw
  exact W.alen (n := Int32.ofNat N) h.1.1 h.1.2.1 h1 h2 h5 rfl rfl hd (kk X hX H locs ls hw hS hl)
theorem g_tb (h : gOk p s m args meth c cc nL own Ts) {t N : Nat} {f : Nat → Int32} (hT : ∀ H, Wd σ s H → va_T .byte t N (fun j => .int (f j)) A s H) {i : Int32} (hin : vp_in i N) (hd : decode cc pc = .ok (.baload, 1)) (kk : gS p l e R s m args below meth c nL A Wd QX cells slots o σ (pc + 1) lv (.int (f i.toNatClampNeg) :: st)) : gS p l e R s m args below meth c nL A Wd QX cells slots o σ pc lv (.int i :: .ref t :: st) := fun X hX H locs ls hw hS hl => by
  obtain ⟨cell, h1, h2, h3, h4, h5, h6, h7⟩ := hT H hw
  have hlt : i.toNatClampNeg < N := Nat.not_le.mp fun q => hin (Or.inr q)
  have hin' : ¬ (i < 0 ∨ cell.slots.size ≤ i.toNatClampNeg) := by
    intro q
    rcases q with q | q
    · exact hin (Or.inl q)
    · omega
  exact W.bald (v := .int (f i.toNatClampNeg)) h.1.1 h.1.2.1 h1 h2 h3 hin' (by rw [h6 _ hlt]) rfl rfl hd (kk X hX H locs ls hw hS hl)
theorem g_ti (h : gOk p s m args meth c cc nL own Ts) {t N : Nat} {f : Nat → Int32} (hT : ∀ H, Wd σ s H → va_T .int t N (fun j => .int (f j)) A s H) {i : Int32} (hin : vp_in i N) (hd : decode cc pc = .ok (.iaload, 1)) (kk : gS p l e R s m args below meth c nL A Wd QX cells slots o σ (pc + 1) lv (.int (f i.toNatClampNeg) :: st)) : gS p l e R s m args below meth c nL A Wd QX cells slots o σ pc lv (.int i :: .ref t :: st) := fun X hX H locs ls hw hS hl => by
  obtain ⟨cell, h1, h2, h3, h4, h5, h6, h7⟩ := hT H hw
  have hlt : i.toNatClampNeg < N := Nat.not_le.mp fun q => hin (Or.inr q)
  have hin' : ¬ (i < 0 ∨ cell.slots.size ≤ i.toNatClampNeg) := by
    intro q
    rcases q with q | q
    · exact hin (Or.inl q)
    · omega
  exact W.iald (v := .int (f i.toNatClampNeg)) h.1.1 h.1.2.1 h1 h2 h3 hin' (by rw [h6 _ hlt]) rfl rfl hd (kk X hX H locs ls hw hS hl)
theorem g_ldcS (h : gOk p s m args meth c cc nL own Ts) {tx : String} {index q : Nat} (hZ : vk_R own index tx q s) (hd : decode cc pc = .ok (.ldc index, 2)) (kk : gS p l e R s m args below meth c nL A Wd QX cells slots o σ (pc + 2) lv (.ref q :: st)) : gS p l e R s m args below meth c nL A Wd QX cells slots o σ pc lv st := fun X hX H locs ls hw hS hl => va_ldcS h.1.1 h.1.2.1 h.1.2.2.2.1 hZ hd (kk X hX H locs ls hw hS hl)
theorem s_ldcw {T : State} {locs : List Loc} (X : Stand p l e R s m args below meth c T locs cells slots) (hexec : p.tables.exec = Jvm.exec) {text : String} {index : Nat} {a : Addr} (hown : s.vm.findClass own = some m.cls)
    (hconst : (Cond.stringRef own index text).before args s = true) (hev : (Term.string own index).eval args s none [] s = some (.ref a)) {g : JFrame} (hg : g.method = m) (hdg : decode c.code g.pc = .ok (.ldc_w index, 3)) :
    ∀ target, Steps p.tables e below (T.setTop { g with pc := g.pc + 3, stack := .ref a :: g.stack }) target → Steps p.tables e below (T.setTop g) target := by
  obtain ⟨k, cf, i, a', hk, hcf, hcp, -, hr, hev'⟩ := Cond.stringRef_spec hown hconst
  cases hev.symm.trans hev'
  obtain ⟨k', hk', he⟩ := X.warmed.alike.2.2 _ _ hk
  have hr' : k'.resolved[index]? = some (some (.string a)) := by
    rcases X.warmed.entry hk hk' index with h | ⟨h, -⟩
    · rw [h]; exact hr
    · rw [hr] at h; cases h
  intro target hrest
  subst hg
  jvm_step X.here [hexec, hdg, ldc_w.wp_string (e := e) (s := T) (f := g) X.here.top hk' (by rw [he]; exact hcf) hcp hr']
  exact hrest
theorem g_ldcwS (h : gOk p s m args meth c cc nL own Ts) {tx : String} {index q : Nat} (hZ : vk_R own index tx q s) (hd : decode cc pc = .ok (.ldc_w index, 3)) (kk : gS p l e R s m args below meth c nL A Wd QX cells slots o σ (pc + 3) lv (.ref q :: st)) : gS p l e R s m args below meth c nL A Wd QX cells slots o σ pc lv st := fun X hX H locs ls hw hS hl => by
  intro T hT Y
  obtain ⟨t, a1, b1⟩ := kk X hX H locs ls hw hS hl T hT Y
  exact ⟨t, s_ldcw (own := own) Y h.1.1 h.1.2.2.2.1 (text := tx) (a := q) hZ.1 hZ.2 (g := F0 m pc ls st) rfl (by rw [h.1.2.1]; exact hd) t a1, b1⟩
theorem g_nretp (h : gOk p s m args meth c cc nL own Ts) (hmv : gMv Wd) {ty : FieldType} (hr : meth.sig.returnType = some ty) (hc : cells ≤ mc) (hs : slots ≤ ms) {x : Int32} (hn : narrow ty (.int x) = .int x) (hd : decode cc pc = .ok (.ireturn, 1)) : gS p l e R s m args below meth c nL A Wd (fun r => MQ below (gPi Wd A (r, σ)) args s mc ms A) cells slots (some x) σ pc lv [.int x] := by
  intro X hX H locs ls hw hS hl
  cases hX
  exact W.widen hc hs (W.zret (v := x) h.1.1 h.1.2.1 hr hn (fun t ht hW => ⟨⟨x, σ, rfl, rfl, by show Wd σ t t.heap; rw [ht]; exact hmv _ _ _ _ hW.alike hw⟩, hS.F ht⟩) hS.2.2 hd h.2)
end STR
/-! the words that the two readers compare with: 0 to 11 the reference's, then the class's -/
def sO (j : Nat) : String := match j with
  | 0 => "KeepForgetModel"
  | 1 => "KeepForgetModel"
  | 2 => "KeepForgetModel"
  | 3 => "KeepForgetModel"
  | 4 => "KeepForgetModel"
  | 5 => "KeepForgetModel"
  | 6 => "KeepForgetModel"
  | 7 => "KeepForgetModel"
  | 8 => "KeepForgetModel"
  | 9 => "KeepForgetModel"
  | 10 => "KeepForgetModel"
  | 11 => "KeepForgetModel"
  | 12 => "KeepForget$RuleReader"
  | 13 => "KeepForget$RuleReader"
  | 14 => "KeepForget$RuleReader"
  | 15 => "KeepForget$RuleReader"
  | 16 => "KeepForget$RuleReader"
  | 17 => "KeepForget$RuleReader"
  | 18 => "KeepForget$RuleReader"
  | 19 => "KeepForget$RuleReader"
  | 20 => "KeepForget$RuleReader"
  | 21 => "KeepForget$RuleReader"
  | 22 => "KeepForget$RuleReader"
  | 23 => "KeepForget$RuleReader"
  | _ => ""
def sI (j : Nat) : Nat := match j with
  | 0 => 248
  | 1 => 250
  | 2 => 273
  | 3 => 231
  | 4 => 239
  | 5 => 255
  | 6 => 257
  | 7 => 259
  | 8 => 261
  | 9 => 241
  | 10 => 246
  | 11 => 269
  | 12 => 78
  | 13 => 84
  | 14 => 86
  | 15 => 88
  | 16 => 97
  | 17 => 111
  | 18 => 113
  | 19 => 115
  | 20 => 120
  | 21 => 131
  | 22 => 136
  | 23 => 152
  | _ => 0
def sT (j : Nat) : String := match j with
  | 0 => "keep"
  | 1 => "end"
  | 2 => "place"
  | 3 => "any"
  | 4 => "all"
  | 5 => "days"
  | 6 => "months"
  | 7 => "years"
  | 8 => "from"
  | 9 => "if"
  | 10 => "and"
  | 11 => "rank"
  | 12 => "keep"
  | 13 => "end"
  | 14 => "place"
  | 15 => "any"
  | 16 => "all"
  | 17 => "days"
  | 18 => "months"
  | 19 => "years"
  | 20 => "from"
  | 21 => "if"
  | 22 => "and"
  | 23 => "rank"
  | _ => ""
def sW (j : Nat) : List Int32 := match j with
  | 0 => [107, 101, 101, 112]
  | 1 => [101, 110, 100]
  | 2 => [112, 108, 97, 99, 101]
  | 3 => [97, 110, 121]
  | 4 => [97, 108, 108]
  | 5 => [100, 97, 121, 115]
  | 6 => [109, 111, 110, 116, 104, 115]
  | 7 => [121, 101, 97, 114, 115]
  | 8 => [102, 114, 111, 109]
  | 9 => [105, 102]
  | 10 => [97, 110, 100]
  | 11 => [114, 97, 110, 107]
  | 12 => [107, 101, 101, 112]
  | 13 => [101, 110, 100]
  | 14 => [112, 108, 97, 99, 101]
  | 15 => [97, 110, 121]
  | 16 => [97, 108, 108]
  | 17 => [100, 97, 121, 115]
  | 18 => [109, 111, 110, 116, 104, 115]
  | 19 => [121, 101, 97, 114, 115]
  | 20 => [102, 114, 111, 109]
  | 21 => [105, 102]
  | 22 => [97, 110, 100]
  | 23 => [114, 97, 110, 107]
  | _ => []
def sSt {S : Type} (Ke : State → Prop) (A : Nat → Prop) (Wd : S → State → Heap → Prop) (adS adV : Nat → Nat) : Prop := sKn A Wd ∧ (∀ j, j < 24 → sIs A Wd (adS j) (adV j) (sW j)) ∧ ∀ U : State, Ke U → ∀ j, j < 24 → vk_R (sO j) (sI j) (sT j) (adS j) U
section STM
variable {l : Launch} {S : Type} {A : Nat → Prop} {Ke : State → Prop} {Wd : S → State → Heap → Prop}
def rm_J3_checkIndex_8e157 : Room := { frames := 0, cells := 0, slots := 0, locals := 0 }
theorem yk_J3_checkIndex_8e157 : yOkS yJ3_checkIndex_8e157 cJ3_checkIndex_8e157 3 (some .int) 3 := ⟨tW_480, tW_16, tW_479, by decide, by decide, by decide +kernel⟩
set_option maxHeartbeats 4000000 in
set_option maxRecDepth 100000 in
theorem c_J3_checkIndex_8e157 (hmv : gMv Wd) (σ : S) (i n : Int32) (r : Option Nat) (h1 : ¬ i < 0) (h2 : i < n) : gCp l yJ3_checkIndex_8e157 cJ3_checkIndex_8e157 3 (some .int) rm_J3_checkIndex_8e157 Ke Wd A [.int i, .int n, va_rf r] σ (some i) := by
  refine g_metp (by decide) (by cases r <;> simp [lg_sl, va_rf, Value.category]) ?_
  intro p e s m below meth c h hr hKs
  refine g_lv [(0, .int i), (1, .int n)] [0, 1] (by cases r <;> rfl) ?_
  refine g_iload_n h 0 dJ3_checkIndex_8e157_0 rfl ?_
  refine g_eq (o1 := if i < 0 then none else some i) (by rw [if_neg h1]) ?_
  refine g_if_lt h 9 dJ3_checkIndex_8e157_1 (by decide) g_none ?_
  refine g_iload_n h 0 dJ3_checkIndex_8e157_4 rfl ?_
  refine g_iload_n h 1 dJ3_checkIndex_8e157_5 rfl ?_
  refine g_eq (o1 := if i < n then some i else none) (by rw [if_pos h2]) ?_
  refine g_icmp_lt h 16 dJ3_checkIndex_8e157_6 (by decide) ?_ g_none
  refine g_iload_n h 0 dJ3_checkIndex_8e157_16 rfl ?_
  exact g_iretp h hmv hr (Nat.le_refl _) (Nat.le_refl _) dJ3_checkIndex_8e157_17
def rm_J0_checkIndex_df160 : Room := { frames := 1, cells := 0, slots := 0, locals := 22 }
theorem yk_J0_checkIndex_df160 : yOkS yJ0_checkIndex_df160 cJ0_checkIndex_df160 2 (none) 2 := ⟨tW_475, tW_14, tW_474, by decide, by decide, by decide +kernel⟩
set_option maxHeartbeats 4000000 in
set_option maxRecDepth 100000 in
theorem c_J0_checkIndex_df160 (hmv : gMv Wd) (hkw : gKw Ke) (hK : sKn A Wd) (σ : S) (i n : Int32) (h1 : ¬ i < 0) (h2 : i < n) : gCv l yJ0_checkIndex_df160 cJ0_checkIndex_df160 2 none rm_J0_checkIndex_df160 Ke Wd A [.int i, .int n] σ (some σ) := by
  refine g_metv (by decide) (by simp [lg_sl, Value.category]) ?_
  intro p e s m below meth c h hr hKs
  refine g_lv [(0, .int i), (1, .int n)] [0, 1] rfl ?_
  refine g_iload_n h 0 dJ0_checkIndex_df160_0 rfl ?_
  refine g_iload_n h 1 dJ0_checkIndex_df160_1 rfl ?_
  refine g_getsq h (fun H hw => (hK _ _ _ hw).2) tW_476 dJ0_checkIndex_df160_2 (fun r => ?_)
  refine g_eq (o1 := (some i).bind (fun _ => some σ)) rfl ?_
  refine g_callS0p h hmv hkw hKs [.int i, .int n, va_rf r] (c_J3_checkIndex_8e157 hmv σ i n r h1 h2) yk_J3_checkIndex_8e157 tW_478 ⟨(Nat.le_of_ble_eq_true rfl), (Nat.le_of_ble_eq_true rfl)⟩ rfl rfl rfl rfl (Nat.le_of_ble_eq_true rfl) dJ0_checkIndex_df160_5 ⟨Nat.zero_le _, Nat.zero_le _⟩ (fun r9 => ?_)
  refine g_pop h dJ0_checkIndex_df160_8 rfl ?_
  exact g_vret h hmv hr (Nat.le_refl _) (Nat.le_refl _) dJ0_checkIndex_df160_9
def rm_J1_charAt_3b067 : Room := { frames := 2, cells := 0, slots := 0, locals := 43 }
theorem yk_J1_charAt_3b067 : yOkS yJ1_charAt_3b067 cJ1_charAt_3b067 2 (some .char) 2 := ⟨tW_472, tW_15, tW_471, by decide, by decide, by decide +kernel⟩
set_option maxHeartbeats 4000000 in
set_option maxRecDepth 100000 in
theorem c_J1_charAt_3b067 (hmv : gMv Wd) (hkw : gKw Ke) (hK : sKn A Wd) (σ : S) (v : Nat) (w : List Int32) (i : Int32) (hw1 : w.length < 2 ^ 31) (hT : ∀ U H, Wd σ U H → va_T .byte v w.length (fun j => .int (w.getD j 0)) A U H) (hi : okI i w.length = true) : gCp l yJ1_charAt_3b067 cJ1_charAt_3b067 2 (some .char) rm_J1_charAt_3b067 Ke Wd A [.ref v, .int i] σ (some (w.getD i.toNatClampNeg 0 &&& 255)) := by
  refine g_metp (by decide) (by simp [lg_sl, Value.category]) ?_
  intro p e s m below meth c h hr hKs
  have hin := okI_iff.mp hi
  have h1 : ¬ i < 0 := fun q => (okI_in hi) (Or.inl q)
  have h2 : i < nI w.length := by rw [Int32.lt_iff_toInt_lt, nI_toInt hw1]; exact hin.2
  refine g_lv [(0, .ref v), (1, .int i)] [0, 1] rfl ?_
  refine g_iload_n h 1 dJ1_charAt_3b067_0 rfl ?_
  refine g_aload_n h 0 dJ1_charAt_3b067_1 rfl ?_
  refine g_tlen h (fun H hw => hT _ _ hw) dJ1_charAt_3b067_2 ?_
  refine g_eq (o1 := (some σ).bind (fun _ => some (w.getD i.toNatClampNeg 0 &&& 255))) rfl ?_
  refine g_callS0v' h hmv hkw hKs [.int i, .int (nI w.length)] (c_J0_checkIndex_df160 hmv hkw hK σ i _ h1 h2) yk_J0_checkIndex_df160 tW_473 ⟨(Nat.le_of_ble_eq_true rfl), (Nat.le_of_ble_eq_true rfl)⟩ rfl rfl rfl rfl (Nat.le_of_ble_eq_true rfl) dJ1_charAt_3b067_3 ⟨Nat.zero_le _, Nat.zero_le _⟩ (fun s9 e9 => ?_)
  cases e9
  refine g_aload_n h 0 dJ1_charAt_3b067_6 rfl ?_
  refine g_iload_n h 1 dJ1_charAt_3b067_7 rfl ?_
  refine g_tb h (fun H hw => hT _ _ hw) (okI_in hi) dJ1_charAt_3b067_8 ?_
  refine g_sipush (v := 255) h dJ1_charAt_3b067_9 (by decide) ?_
  refine g_iand h dJ1_charAt_3b067_12 ?_
  refine g_i2c h dJ1_charAt_3b067_13 ?_
  rw [sc_c2]
  exact g_nretp h hmv hr (Nat.le_refl _) (Nat.le_refl _) (sc_nar _) dJ1_charAt_3b067_14
def rm_J0_coder_7d493 : Room := { frames := 0, cells := 0, slots := 0, locals := 0 }
theorem yk_J0_coder_7d493 : yOkV yJ0_coder_7d493 cJ0_coder_7d493 1 (some .byte) "java/lang/String" 0 := ⟨tW_459, tW_14, tW_457, tW_458, by decide, by decide, by decide +kernel⟩
set_option maxHeartbeats 4000000 in
set_option maxRecDepth 100000 in
theorem c_J0_coder_7d493 (hmv : gMv Wd) (hK : sKn A Wd) (σ : S) (a v : Nat) (w : List Int32) (hs : sIs A Wd a v w) : gCp l yJ0_coder_7d493 cJ0_coder_7d493 1 (some .byte) rm_J0_coder_7d493 Ke Wd A [.ref a] σ (some 0) := by
  refine g_metp (by decide) (by simp [lg_sl, Value.category]) ?_
  intro p e s m below meth c h hr hKs
  refine g_lv [(0, .ref a)] [0] rfl ?_
  refine g_gets h (fun H hw => (hK _ _ _ hw).1) tW_460 dJ0_coder_7d493_0 ?_
  refine g_eq (o1 := if (1 : Int32) = 0 then none else some 0) (by rw [if_neg (by decide)]) ?_
  refine g_if_eq h 13 dJ0_coder_7d493_3 (by decide) g_none ?_
  refine g_aload_n h 0 dJ0_coder_7d493_6 rfl ?_
  refine g_getO h (fun H hw => (hs _ _ _ hw).2.1) tW_1365 dJ0_coder_7d493_7 ?_
  refine g_goto h 14 dJ0_coder_7d493_10 (by decide) ?_
  exact g_nretp h hmv hr (Nat.le_refl _) (Nat.le_refl _) (by decide) dJ0_coder_7d493_14
def rm_J0_isLatin1_aae02 : Room := { frames := 0, cells := 0, slots := 0, locals := 0 }
theorem yk_J0_isLatin1_aae02 : yOkV yJ0_isLatin1_aae02 cJ0_isLatin1_aae02 1 (some .boolean) "java/lang/String" 0 := ⟨tW_469, tW_14, tW_467, tW_468, by decide, by decide, by decide +kernel⟩
set_option maxHeartbeats 4000000 in
set_option maxRecDepth 100000 in
theorem c_J0_isLatin1_aae02 (hmv : gMv Wd) (hK : sKn A Wd) (σ : S) (a v : Nat) (w : List Int32) (hs : sIs A Wd a v w) : gCp l yJ0_isLatin1_aae02 cJ0_isLatin1_aae02 1 (some .boolean) rm_J0_isLatin1_aae02 Ke Wd A [.ref a] σ (some 1) := by
  refine g_metp (by decide) (by simp [lg_sl, Value.category]) ?_
  intro p e s m below meth c h hr hKs
  refine g_lv [(0, .ref a)] [0] rfl ?_
  refine g_gets h (fun H hw => (hK _ _ _ hw).1) tW_460 dJ0_isLatin1_aae02_0 ?_
  refine g_eq (o1 := if (1 : Int32) = 0 then none else some 1) (by rw [if_neg (by decide)]) ?_
  refine g_if_eq h 17 dJ0_isLatin1_aae02_3 (by decide) g_none ?_
  refine g_aload_n h 0 dJ0_isLatin1_aae02_6 rfl ?_
  refine g_getO h (fun H hw => (hs _ _ _ hw).2.1) tW_1365 dJ0_isLatin1_aae02_7 ?_
  refine g_eq (o1 := if (0 : Int32) = 0 then some 1 else none) (by rw [if_pos rfl]) ?_
  refine g_if_ne h 17 dJ0_isLatin1_aae02_10 (by decide) g_none ?_
  refine g_iconst (v := 1) h dJ0_isLatin1_aae02_13 (by decide) ?_
  refine g_goto h 18 dJ0_isLatin1_aae02_14 (by decide) ?_
  exact g_zretp h hmv hr (Nat.le_refl _) (Nat.le_refl _) (by decide) dJ0_isLatin1_aae02_18
def rm_J0_length_8abf5 : Room := { frames := 1, cells := 0, slots := 0, locals := 20 }
theorem yk_J0_length_8abf5 : yOkV yJ0_length_8abf5 cJ0_length_8abf5 1 (some .int) "java/lang/String" 0 := ⟨tW_455, tW_14, tW_453, tW_454, by decide, by decide, by decide +kernel⟩
set_option maxHeartbeats 4000000 in
set_option maxRecDepth 100000 in
theorem c_J0_length_8abf5 (hmv : gMv Wd) (hkw : gKw Ke) (hK : sKn A Wd) (σ : S) (a v : Nat) (w : List Int32) (hs : sIs A Wd a v w) : gCp l yJ0_length_8abf5 cJ0_length_8abf5 1 (some .int) rm_J0_length_8abf5 Ke Wd A [.ref a] σ (some (nI w.length)) := by
  refine g_metp (by decide) (by simp [lg_sl, Value.category]) ?_
  intro p e s m below meth c h hr hKs
  refine g_lv [(0, .ref a)] [0] rfl ?_
  refine g_aload_n h 0 dJ0_length_8abf5_0 rfl ?_
  refine g_getO h (fun H hw => (hs _ _ _ hw).2.2.1) tW_1364 dJ0_length_8abf5_1 ?_
  refine g_tlen h (fun H hw => (hs _ _ _ hw).2.2.2) dJ0_length_8abf5_4 ?_
  refine g_aload_n h 0 dJ0_length_8abf5_5 rfl ?_
  refine g_eq (o1 := (some (0 : Int32)).bind (fun q => some (nI w.length >>> (q &&& 31)))) (by rw [Option.bind_some, sb_shr0]) ?_
  refine g_callV0p h hmv hkw hKs [] (c_J0_coder_7d493 hmv hK σ a v w hs) yk_J0_coder_7d493 tW_456 ⟨(Nat.le_of_ble_eq_true rfl), (Nat.le_of_ble_eq_true rfl)⟩ (fun H hw => by obtain ⟨cell, q1, q2, q3, -⟩ := (hs _ _ _ hw).1; exact ⟨cell, q1, q2, q3⟩) rfl rfl rfl rfl (Nat.le_of_ble_eq_true rfl) dJ0_length_8abf5_6 ⟨Nat.zero_le _, Nat.zero_le _⟩ (fun r9 => ?_)
  refine g_ishr h dJ0_length_8abf5_9 ?_
  exact g_iretp h hmv hr (Nat.le_refl _) (Nat.le_refl _) dJ0_length_8abf5_10
def rm_J0_charAt_5068e : Room := { frames := 3, cells := 0, slots := 0, locals := 64 }
theorem yk_J0_charAt_5068e : yOkV yJ0_charAt_5068e cJ0_charAt_5068e 2 (some .char) "java/lang/String" 1 := ⟨tW_465, tW_14, tW_463, tW_464, by decide, by decide, by decide +kernel⟩
set_option maxHeartbeats 4000000 in
set_option maxRecDepth 100000 in
theorem c_J0_charAt_5068e (hmv : gMv Wd) (hkw : gKw Ke) (hK : sKn A Wd) (σ : S) (a v : Nat) (w : List Int32) (hs : sIs A Wd a v w) (hw1 : w.length < 2 ^ 31) (i : Int32) (hi : okI i w.length = true) : gCp l yJ0_charAt_5068e cJ0_charAt_5068e 2 (some .char) rm_J0_charAt_5068e Ke Wd A [.ref a, .int i] σ (some (w.getD i.toNatClampNeg 0 &&& 255)) := by
  refine g_metp (by decide) (by simp [lg_sl, Value.category]) ?_
  intro p e s m below meth c h hr hKs
  refine g_lv [(0, .ref a), (1, .int i)] [0, 1] rfl ?_
  refine g_aload_n h 0 dJ0_charAt_5068e_0 rfl ?_
  refine g_eq (o1 := (some (1 : Int32)).bind (fun q => if q = 0 then none else some (w.getD i.toNatClampNeg 0 &&& 255))) rfl ?_
  refine g_callV0p h hmv hkw hKs [] (c_J0_isLatin1_aae02 hmv hK σ a v w hs) yk_J0_isLatin1_aae02 tW_466 ⟨(Nat.le_of_ble_eq_true rfl), (Nat.le_of_ble_eq_true rfl)⟩ (fun H hw => by obtain ⟨cell, q1, q2, q3, -⟩ := (hs _ _ _ hw).1; exact ⟨cell, q1, q2, q3⟩) rfl rfl rfl rfl (Nat.le_of_ble_eq_true rfl) dJ0_charAt_5068e_1 ⟨Nat.zero_le _, Nat.zero_le _⟩ (fun r9 => ?_)
  refine g_if_eq h 16 dJ0_charAt_5068e_4 (by decide) g_none ?_
  refine g_aload_n h 0 dJ0_charAt_5068e_7 rfl ?_
  refine g_getO h (fun H hw => (hs _ _ _ hw).2.2.1) tW_1364 dJ0_charAt_5068e_8 ?_
  refine g_iload_n h 1 dJ0_charAt_5068e_11 rfl ?_
  refine g_eq (o1 := (some (w.getD i.toNatClampNeg 0 &&& 255)).bind (fun q => if decide (q = w.getD i.toNatClampNeg 0 &&& 255) = true then some q else none)) (by rw [Option.bind_some, if_pos (by simp)]) ?_
  refine g_callS0p h hmv hkw hKs [.ref v, .int i] (c_J1_charAt_3b067 hmv hkw hK σ v w i hw1 (fun U H hw => (hs _ _ _ hw).2.2.2) hi) yk_J1_charAt_3b067 tW_470 ⟨(Nat.le_of_ble_eq_true rfl), (Nat.le_of_ble_eq_true rfl)⟩ rfl rfl rfl rfl (Nat.le_of_ble_eq_true rfl) dJ0_charAt_5068e_12 ⟨Nat.zero_le _, Nat.zero_le _⟩ (fun r9 => ?_)
  refine g_guard (fun hz => ?_)
  exact g_nretp h hmv hr (Nat.le_refl _) (Nat.le_refl _) (by rw [of_decide_eq_true hz]; exact sc_nar _) dJ0_charAt_5068e_15
end STM
end
section
section GQ
def om {Rt : Type} (r : Option Nat) (o1 : Option Rt) (k : Nat → Option Rt) : Option Rt := match r with
  | none => o1
  | some a => k a
def gPq {S : Type} (Wd : S → State → Heap → Prop) (A : Nat → Prop) (X : Option Nat × S) : Array Value → State → Outcome → State → Prop := va_Qq (fun r u => (r, u) = X) (fun u t => Wd u t t.heap) A
def gCq {S : Type} (l : Launch) (y : MethodName) (cc : ByteArray) (n : Nat) (ret : Option FieldType) (rm : Room) (Ke : State → Prop) (Wd : S → State → Heap → Prop) (A : Nat → Prop) (av : List Value) (σ : S) (o : Option (Option Nat)) : Prop := ∀ r, o = some r → Met l y (wt y cc n ret) rm (gPre Ke Wd av σ) (gPq Wd A (r, σ)) rm.cells rm.slots A
variable {p : Program} {l : Launch} {e : Env} {R : Room} {s : State} {m : MethodId} {args : Array Value} {below : List Frame} {meth : Method} {c : Code}
variable {S Rt : Type} {cc : ByteArray} {nL : Nat} {own : String} {Ts : List Cond} {A : Nat → Prop} {Ke : State → Prop} {Wd : S → State → Heap → Prop} {QX : Rt → State → Prop} {cells slots mc ms : Nat} {o o1 o2 : Option Rt} {σ : S} {pc : Nat} {lv : List (Nat × Value)} {st : List Value}
theorem g_wid (c2 s2 : Nat) (h1 : cells ≤ c2) (h2 : slots ≤ s2) (kk : gS p l e R s m args below meth c nL A Wd QX c2 s2 o σ pc lv st) : gS p l e R s m args below meth c nL A Wd QX cells slots o σ pc lv st := fun X hX H locs ls hw hS hl => W.widen h1 h2 (kk X hX H locs ls hw hS hl)
theorem g_ob {r : Option Nat} {k : Nat → Option Rt} (kk : ∀ b : Nat, gS p l e R s m args below meth c nL A Wd QX cells slots (k b) σ pc lv (.ref b :: st)) : gS p l e R s m args below meth c nL A Wd QX cells slots (r.bind k) σ pc lv (va_rf r :: st) := by
  cases r with
  | none => exact g_none
  | some b => exact kk b
theorem g_aload_nq (h : gOk p s m args meth c cc nL own Ts) {k : Fin 4} {r : Option Nat} (i : Nat) (hd : decode cc pc = .ok (.aload_n k, 1)) (hi : lv[i]? = some ((k : Nat), va_rf r)) (kk : gS p l e R s m args below meth c nL A Wd QX cells slots o σ (pc + 1) lv (va_rf r :: st)) : gS p l e R s m args below meth c nL A Wd QX cells slots o σ pc lv st := fun X hX H locs ls hw hS hl => by
  cases r with
  | none => exact lv_aload_nN h.1.1 h.1.2.1 hd rfl (lv_at hl i hi) (kk X hX H locs ls hw hS hl)
  | some b => exact lv_aload_n h.1.1 h.1.2.1 hd rfl (lv_at hl i hi) (kk X hX H locs ls hw hS hl)
theorem g_aloadq (h : gOk p s m args meth c cc nL own Ts) {k : Nat} {r : Option Nat} (i : Nat) (hd : decode cc pc = .ok (.aload k, 2)) (hi : lv[i]? = some (k, va_rf r)) (kk : gS p l e R s m args below meth c nL A Wd QX cells slots o σ (pc + 2) lv (va_rf r :: st)) : gS p l e R s m args below meth c nL A Wd QX cells slots o σ pc lv st := fun X hX H locs ls hw hS hl => by
  cases r with
  | none => exact lv_aloadN h.1.1 h.1.2.1 hd (lv_at hl i hi) (kk X hX H locs ls hw hS hl)
  | some b => exact lv_aload h.1.1 h.1.2.1 hd (lv_at hl i hi) (kk X hX H locs ls hw hS hl)
theorem g_astore_nq (h : gOk p s m args meth c cc nL own Ts) {k : Fin 4} {r : Option Nat} (lv' : List (Nat × Value)) (hd : decode cc pc = .ok (.astore_n k, 1)) (hn : (k : Nat) < nL) (hv : ((k : Nat), va_rf r) :: lv.filter (fun q => !(q.1 == (k : Nat)) && !(q.1 + 1 == (k : Nat) && q.2.category == 2)) = lv') (kk : gS p l e R s m args below meth c nL A Wd QX cells slots o σ (pc + 1) lv' st) : gS p l e R s m args below meth c nL A Wd QX cells slots o σ pc lv (va_rf r :: st) := fun X hX H locs ls hw hS hl => by
  cases r with
  | none => exact lv_astore_nN h.1.1 h.1.2.1 hd rfl hl hn hv (fun ls' hl' => kk X hX H locs ls' hw hS hl')
  | some b => exact lv_astore_n h.1.1 h.1.2.1 hd rfl hl hn hv (fun ls' hl' => kk X hX H locs ls' hw hS hl')
theorem g_astoreq (h : gOk p s m args meth c cc nL own Ts) {k : Nat} {r : Option Nat} (lv' : List (Nat × Value)) (hd : decode cc pc = .ok (.astore k, 2)) (hn : k < nL) (hv : (k, va_rf r) :: lv.filter (fun q => !(q.1 == k) && !(q.1 + 1 == k && q.2.category == 2)) = lv') (kk : gS p l e R s m args below meth c nL A Wd QX cells slots o σ (pc + 2) lv' st) : gS p l e R s m args below meth c nL A Wd QX cells slots o σ pc lv (va_rf r :: st) := fun X hX H locs ls hw hS hl => by
  cases r with
  | none => exact lv_astoreN h.1.1 h.1.2.1 hd hl hn hv (fun ls' hl' => kk X hX H locs ls' hw hS hl')
  | some b => exact lv_astore h.1.1 h.1.2.1 hd hl hn hv (fun ls' hl' => kk X hX H locs ls' hw hS hl')
theorem g_ifnonnull (h : gOk p s m args meth c cc nL own Ts) {r : Option Nat} {k : Nat → Option Rt} {off : Int} (L : Option Nat → List (Nat × Value)) (tgt : Nat) (hd : decode cc pc = .ok (.ifnonnull off, 3)) (ht : (pc : Int) + off = (tgt : Int)) (k1 : gS p l e R s m args below meth c nL A Wd QX cells slots o1 σ (pc + 3) (L none) st) (k2 : ∀ a : Nat, gS p l e R s m args below meth c nL A Wd QX cells slots (k a) σ tgt (L (some a)) st) : gS p l e R s m args below meth c nL A Wd QX cells slots (om r o1 k) σ pc (L r) (va_rf r :: st) := by
  cases r with
  | none => exact fun X hX H locs ls hw hS hl => lv_ifnonnullN h.1.1 h.1.2.1 hd (k1 X hX H locs ls hw hS hl)
  | some a => exact fun X hX H locs ls hw hS hl => lv_ifnonnull h.1.1 h.1.2.1 hd ht (k2 a X hX H locs ls hw hS hl)
theorem g_ifnull (h : gOk p s m args meth c cc nL own Ts) {r : Option Nat} {k : Nat → Option Rt} {off : Int} (L : Option Nat → List (Nat × Value)) (tgt : Nat) (hd : decode cc pc = .ok (.ifnull off, 3)) (ht : (pc : Int) + off = (tgt : Int)) (k1 : gS p l e R s m args below meth c nL A Wd QX cells slots o1 σ tgt (L none) st) (k2 : ∀ a : Nat, gS p l e R s m args below meth c nL A Wd QX cells slots (k a) σ (pc + 3) (L (some a)) st) : gS p l e R s m args below meth c nL A Wd QX cells slots (om r o1 k) σ pc (L r) (va_rf r :: st) := by
  cases r with
  | none => exact fun X hX H locs ls hw hS hl => lv_ifnullN h.1.1 h.1.2.1 hd ht (k1 X hX H locs ls hw hS hl)
  | some a => exact fun X hX H locs ls hw hS hl => lv_ifnull h.1.1 h.1.2.1 hd (k2 a X hX H locs ls hw hS hl)
theorem g_acmp_ne (h : gOk p s m args meth c cc nL own Ts) {x y : Nat} {off : Int} (tgt : Nat) (hd : decode cc pc = .ok (.if_acmp .ne off, 3)) (ht : (pc : Int) + off = (tgt : Int)) (k1 : gS p l e R s m args below meth c nL A Wd QX cells slots o1 σ tgt lv st) (k2 : gS p l e R s m args below meth c nL A Wd QX cells slots o2 σ (pc + 3) lv st) : gS p l e R s m args below meth c nL A Wd QX cells slots (if x = y then o2 else o1) σ pc lv (.ref y :: .ref x :: st) := fun X hX H locs ls hw hS hl =>
  lv_acmp_ne (rx := some x) (ry := some y) h.1.1 h.1.2.1 hd ht (fun q => k1 X (by rw [if_neg (fun z => q (by rw [z]))] at hX; exact hX) H locs ls hw hS hl) (fun q => k2 X (by rw [if_pos (Option.some.inj q)] at hX; exact hX) H locs ls hw hS hl)
theorem g_null (h : gOk p s m args meth c cc nL own Ts) (hd : decode cc pc = .ok (.aconst_null, 1)) (kk : gS p l e R s m args below meth c nL A Wd QX cells slots o σ (pc + 1) lv (.null :: st)) : gS p l e R s m args below meth c nL A Wd QX cells slots o σ pc lv st := fun X hX H locs ls hw hS hl => lv_null h.1.1 h.1.2.1 hd (kk X hX H locs ls hw hS hl)
theorem g_objInit (h : gOk p s m args meth c cc nL own Ts) {a idx : Nat} (hw1 : Cond.methodLink own idx Lib.objectInit ∈ Ts) (hw2 : Cond.instanceMethod Lib.objectInit ∈ Ts) (hw3 : Cond.code Lib.objectInit ⟨#[0xb1]⟩ 1 none ∈ Ts) (hf : 1 ≤ R.frames) (hlo : (st.map fun v => v.category).sum + 12 ≤ R.locals) (hd : decode cc pc = .ok (.invokespecial idx, 3)) (kk : gS p l e R s m args below meth c nL A Wd QX cells slots o σ (pc + 3) lv st) : gS p l e R s m args below meth c nL A Wd QX cells slots o σ pc lv (.ref a :: st) := fun X hX H locs ls hw hS hl =>
  W.objInit h.1.1 h.1.2.1 h.1.2.2.2.1 (h.1.2.2.2.2 _ hw1) (h.1.2.2.2.2 _ hw2) (h.1.2.2.2.2 _ hw3) rfl (hl.1.trans h.1.2.2.1.symm) rfl hd hf (by show 2 * 0 + _ + 12 ≤ _; omega) (kk X hX H locs ls hw hS hl)
theorem g_qret (h : gOk p s m args meth c cc nL own Ts) (hmv : gMv Wd) {rt : FieldType} (hr : meth.sig.returnType = some rt) (href : rt.isReference = true) (hc : cells ≤ mc) (hs : slots ≤ ms) {r : Option Nat} (hd : decode cc pc = .ok (.areturn, 1)) : gS p l e R s m args below meth c nL A Wd (fun r => MQ below (gPq Wd A (r, σ)) args s mc ms A) cells slots (some r) σ pc lv [va_rf r] := by
  intro X hX H locs ls hw hS hl
  cases hX
  refine W.widen hc hs (W.aret (v := va_rf r) (rt := rt) h.1.1 h.1.2.1 hr ?_ ?_ (fun t ht hW => ⟨⟨r, σ, rfl, rfl, by show Wd σ t t.heap; rw [ht]; exact hmv _ _ _ _ hW.alike hw⟩, hS.F ht⟩) hS.2.2 hd h.2)
  all_goals (cases r <;> cases rt <;> first | (cases href; done) | rfl | exact Or.inl rfl | exact Or.inr ⟨_, rfl⟩ | exact Or.inl ⟨_, rfl⟩ | exact Or.inr rfl)
theorem g_metq {l : Launch} {y : MethodName} {rm : Room} {cc : ByteArray} {maxL : Nat} {ret : Option FieldType} {av : List Value} {o : Option (Option Nat)} (hy : plainName y.cls = true) (hav : (lg_sl av).length ≤ maxL)
    (body : ∀ (p : Program) (e : Env) (s : State) (m : MethodId) (below : List Frame) (meth : Method) (c : Code), gOk p s m av.toArray meth c cc maxL y.cls tb → meth.sig.returnType = ret → Ke s → gS p l e rm s m av.toArray below meth c maxL A Wd (fun X => MQ below (gPq Wd A (X, σ)) av.toArray s rm.cells rm.slots A) 0 0 o σ 0 (lv_args 0 av) []) : gCq l y cc maxL ret rm Ke Wd A av σ o := by
  intro X hX
  refine Met.ofW (cc := cc) (maxL := maxL) (ret := ret) hy rfl ?_
  intro p e s m args below meth c s₁ B hml hv
  obtain ⟨rfl, hW0, hK0⟩ := hv
  have hl := lv_entry av (n := maxL) hav
  rw [lg_entry_eq]
  exact body p e s m below meth c ⟨⟨B.exec, B.bytes, hml, findClass_of_methodNamed B.named, fun w hw => atoms_spec (ws := wt y cc maxL ret) B.pre w (List.mem_cons_of_mem _ hw)⟩, B.notSynchronized⟩ B.returns hK0 X hX s.heap [] _ hW0 va_S.rf hl
theorem g_metI {l : Launch} {y : MethodName} {rm : Room} {cc : ByteArray} {maxL : Nat} {av : List Value} {o : Option S} (hy : plainName y.cls = true) (hyn : y.name = "<init>") (hav : (lg_sl av).length ≤ maxL)
    (body : ∀ (p : Program) (e : Env) (s : State) (m : MethodId) (below : List Frame) (meth : Method) (c : Code), gOk p s m av.toArray meth c cc maxL y.cls tb → meth.sig.returnType = none → meth.name = "<init>" → Ke s → gS p l e rm s m av.toArray below meth c maxL A Wd (fun X => MQ below (gPv Wd A X) av.toArray s rm.cells rm.slots A) 0 0 o σ 0 (lv_args 0 av) []) : gCv l y cc maxL none rm Ke Wd A av σ o := by
  intro X hX
  refine Met.ofW (cc := cc) (maxL := maxL) (ret := none) hy rfl ?_
  intro p e s m args below meth c s₁ B hml hv
  obtain ⟨rfl, hW0, hK0⟩ := hv
  have hl := lv_entry av (n := maxL) hav
  rw [lg_entry_eq]
  exact body p e s m below meth c ⟨⟨B.exec, B.bytes, hml, findClass_of_methodNamed B.named, fun w hw => atoms_spec (ws := wt y cc maxL none) B.pre w (List.mem_cons_of_mem _ hw)⟩, B.notSynchronized⟩ B.returns ((name_of_methodNamed B.named B.method).1.trans hyn) hK0 X hX s.heap [] _ hW0 va_S.rf hl
variable {y : MethodName} {bytes : ByteArray} {maxL n index : Nat} {ret : Option FieldType} {rm : Room}
def yOkI (y : MethodName) (bytes : ByteArray) (maxL : Nat) (n : Nat) : Prop := Cond.code y bytes maxL none ∈ tb ∧ Cond.initialized y.cls ∈ tb ∧ Cond.instanceMethod y ∈ tb ∧ y.name = "<init>" ∧ y.cls ≠ "java/lang/invoke/MethodHandle" ∧ y.cls ≠ "java/lang/invoke/VarHandle" ∧ (parseMethodDescriptor y.desc).map (fun d => d.parameters.length) = some n
theorem g_callIv (h : gOk p s m args meth c cc nL own tb) (hmv : gMv Wd) (hkw : gKw Ke) (hKs : Ke s) {b : Nat} (As : List Value) {stk : List Value} {f : Option S} {k : S → Option Rt} (hM : gCv l y bytes maxL none rm Ke Wd A (.ref b :: As) σ f) (hy : yOkI y bytes maxL n) (hml : Cond.methodLink own index y ∈ tb) (hR : yRm rm R maxL) (hn : As.length = n) (hst : stk = As.reverse ++ .ref b :: st) (hro : (st.map fun v => v.category).sum ≤ 8) (hd : decode cc pc = .ok (.invokespecial index, 3)) (hf : cells + rm.cells ≤ R.cells ∧ slots + rm.slots ≤ R.slots) (kk : ∀ σ', f = some σ' → gS p l e R s m args below meth c nL A Wd QX (cells + rm.cells) (slots + rm.slots) (k σ') σ' (pc + 3) lv st) : gS p l e R s m args below meth c nL A Wd QX cells slots (f.bind k) σ pc lv stk := by
  intro X hX H locs ls hw hS hl
  subst hst
  cases hf0 : f with
  | none => rw [hf0] at hX; cases hX
  | some u0 =>
  rw [hf0] at hX
  refine va_callv (va_runI (As := As) (rest := st) h.1 (hM u0 hf0) ⟨callB_of n h.1.2.2.2.2 (tb_in hy.1) rfl rfl rfl (h.1.2.2.2.2 _ hy.2.1) (h.1.2.2.2.2 _ hml) hy.2.2.2.2 hR, hy.2.2.2.1, h.1.2.2.2.2 _ hy.2.2.1⟩ ⟨fun a U g mk q => ⟨q.1, hmv _ U (U.calling g mk a) _ (Vm.Alike.refl U.vm) q.2.1, hkw U (U.calling g mk a) (State.WarmedH.refl U) q.2.2⟩, fun U hU hW => ⟨rfl, by rw [hU]; exact hmv _ _ _ _ hW.alike hw, hkw _ _ hW hKs⟩⟩ rfl hn hl.1 rfl (lv_room hro) hd hf) hS (fun q _ z => z) (fun q z => z) (fun u t H1 locs1 ht hvm hp hB hz hk hS1 => ?_)
  subst hp
  exact kk u hf0 X hX H1 locs1 ls (by rw [← ht]; exact hmv _ _ _ _ hvm.symm hB) hS1 hl
theorem g_callV0q (h : gOk p s m args meth c cc nL own tb) (hmv : gMv Wd) (hkw : gKw Ke) (hKs : Ke s) {C : String} {b : Nat} (As : List Value) {stk : List Value} {f : Option (Option Nat)} {k : Option Nat → Option Rt} (hM : gCq l y bytes maxL ret rm Ke Wd A (.ref b :: As) σ f) (hy : yOkV y bytes maxL ret C n) (hml : Cond.methodLink own index y ∈ tb) (hR : yRm rm R maxL) (hrc : ∀ H, Wd σ s H → ∃ cellB : Cell, H[b]? = some cellB ∧ cellB.vm.isStatics = false ∧ s.vm.findClass C = some cellB.cls) (hn : As.length = n) (hst : stk = As.reverse ++ .ref b :: st) (h0c : rm.cells = 0) (h0s : rm.slots = 0) (hro : (st.map fun v => v.category).sum ≤ 8) (hd : decode cc pc = .ok (.invokevirtual index, 3)) (hf : cells ≤ R.cells ∧ slots ≤ R.slots) (kk : ∀ r, gS p l e R s m args below meth c nL A Wd QX cells slots (k r) σ (pc + 3) lv (va_rf r :: st)) : gS p l e R s m args below meth c nL A Wd QX cells slots (f.bind k) σ pc lv stk := by
  intro X hX H locs ls hw hS hl
  subst hst
  cases hf0 : f with
  | none => rw [hf0] at hX; cases hX
  | some u0 =>
  rw [hf0] at hX
  refine va_callq (va_runV (As := As) (rest := st) h.1 (hM u0 hf0) (cwT h.1.2.2.2.2 hy hml hR) ⟨fun a U g mk q => ⟨q.1, hmv _ U (U.calling g mk a) _ (Vm.Alike.refl U.vm) q.2.1, hkw U (U.calling g mk a) (State.WarmedH.refl U) q.2.2⟩, hrc H hw, fun U hU hW => ⟨rfl, by rw [hU]; exact hmv _ _ _ _ hW.alike hw, hkw _ _ hW hKs⟩⟩ rfl hn hl.1 rfl (lv_room hro) hd ⟨by rw [h0c]; exact hf.1, by rw [h0s]; exact hf.2⟩) hS (fun q _ z => z) (fun q z => z) (fun r u t H1 locs1 ht hvm hp hB hz hk hS1 => ?_)
  cases hp
  rw [h0c, h0s]
  exact kk _ X hX H1 locs1 ls (by rw [← ht]; exact hmv _ _ _ _ hvm.symm hB) hS1 hl
end GQ
section KW
abbrev Km : Type := (Nat → Nat) × (Nat → Nat → Int32) × (Nat → Nat → Option Nat) × (Nat → Nat) × Nat
def kK (μ : Km) (a : Nat) : Nat := μ.1 a
def kI (μ : Km) (a j : Nat) : Int32 := μ.2.1 a j
def kR (μ : Km) (a j : Nat) : Option Nat := μ.2.2.1 a j
def kN (μ : Km) (a : Nat) : Nat := μ.2.2.2.1 a
def kn (μ : Km) : Nat := μ.2.2.2.2
def kSetI (μ : Km) (a j : Nat) (x : Int32) : Km := (μ.1, va_up μ.2.1 a (upd (μ.2.1 a) j x), μ.2.2)
def kSetR (μ : Km) (a j : Nat) (r : Option Nat) : Km := (μ.1, μ.2.1, va_up μ.2.2.1 a (va_up (μ.2.2.1 a) j r), μ.2.2.2)
def kNew (μ : Km) (k z : Nat) : Km := (va_up μ.1 μ.2.2.2.2 k, va_up μ.2.1 μ.2.2.2.2 (fun _ => 0), va_up μ.2.2.1 μ.2.2.2.2 (fun _ => none), va_up μ.2.2.2.1 μ.2.2.2.2 z, μ.2.2.2.2 + 1)
def ksn (μ : Km) (n : Nat) : Km := (μ.1, μ.2.1, μ.2.2.1, μ.2.2.2.1, n)
def kL (ci : Nat) : List Bool := match ci with
  | 0 => [true, false, false]
  | 1 => [true, false, false]
  | 2 => [false, false, false, false, false, false, false, false, false, true, true, true]
  | 3 => [true, false, false, false, false, false, false]
  | 4 => [false, true, false, true, false]
  | 5 => [false, false, false, false, true, false, false, false]
  | 6 => [false, false]
  | 7 => [false, true, true, true, false, false]
  | 8 => [true, false, false, true, false, true, false, true, true, false, true, true, false]
  | 9 => [false, false, false, false, false, false, false, false, false, true, true, true, true, true, true, true, true, true, true, true, true, true, true, true, true, true, true, true, true, true, true, true, true, true, true, true, true, true, true, false, false, false, false, false, false, false, false, false, false, false, false, false, false, true, false, true, true, true, true, true]
  | _ => []
def kFl (μ : Km) (a : Nat) : Nat → List Bool → List Value
  | _, [] => []
  | j, b :: L => (if b = true then va_rf (kR μ a j) else .int (kI μ a j)) :: kFl μ a (j + 1) L
theorem kFl_get {μ : Km} {a : Nat} : ∀ (L : List Bool) (j i : Nat), (kFl μ a j L)[i]? = (L[i]?).map (fun b => if b = true then va_rf (kR μ a (j + i)) else .int (kI μ a (j + i)))
  | [], j, i => by simp [kFl]
  | b :: L, j, 0 => by simp [kFl]
  | b :: L, j, i + 1 => by
    rw [kFl, List.getElem?_cons_succ, List.getElem?_cons_succ, kFl_get L (j + 1) i, show j + 1 + i = j + (i + 1) by omega]
theorem kFl_len {μ : Km} {a : Nat} : ∀ (L : List Bool) (j : Nat), (kFl μ a j L).length = L.length
  | [], j => rfl
  | b :: L, j => by rw [kFl, List.length_cons, List.length_cons, kFl_len L (j + 1)]
theorem kFl_cong {μ ν : Km} {a : Nat} {L : List Bool} (h1 : ∀ j, kI μ a j = kI ν a j) (h2 : ∀ j, kR μ a j = kR ν a j) : kFl μ a 0 L = kFl ν a 0 L := by
  apply List.ext_getElem?
  intro i
  rw [kFl_get, kFl_get]
  simp [h1, h2]
theorem kI_set {μ : Km} {a j : Nat} {x : Int32} (b i : Nat) : kI (kSetI μ a j x) b i = if b = a ∧ i = j then x else kI μ b i := by
  by_cases h : b = a
  · subst h
    by_cases h2 : i = j
    · subst h2; simp [kI, kSetI, va_up, upd]
    · simp [kI, kSetI, va_up, upd, h2]
  · simp [kI, kSetI, va_up, h]
theorem kR_set {μ : Km} {a j : Nat} {x : Option Nat} (b i : Nat) : kR (kSetR μ a j x) b i = if b = a ∧ i = j then x else kR μ b i := by
  by_cases h : b = a
  · subst h
    by_cases h2 : i = j
    · subst h2; simp [kR, kSetR, va_up]
    · simp [kR, kSetR, va_up, h2]
  · simp [kR, kSetR, va_up, h]
theorem kFl_setI {μ : Km} {a k : Nat} {x : Int32} {L : List Bool} (h : L[k]? = some false) : kFl (kSetI μ a k x) a 0 L = (kFl μ a 0 L).set k (.int x) := by
  have hl : k < L.length := (List.getElem?_eq_some_iff.mp h).1
  apply List.ext_getElem?
  intro i
  by_cases e : k = i
  · subst e
    rw [List.getElem?_set_self (by rw [kFl_len]; exact hl), kFl_get, h]
    simp [kI_set]
  · rw [List.getElem?_set_ne e, kFl_get, kFl_get]
    have e2 : ¬ i = k := fun z => e z.symm
    simp only [Nat.zero_add, kI_set, e2, and_false, if_false]
    rfl
theorem kFl_setR {μ : Km} {a k : Nat} {x : Option Nat} {L : List Bool} (h : L[k]? = some true) : kFl (kSetR μ a k x) a 0 L = (kFl μ a 0 L).set k (va_rf x) := by
  have hl : k < L.length := (List.getElem?_eq_some_iff.mp h).1
  apply List.ext_getElem?
  intro i
  by_cases e : k = i
  · subst e
    rw [List.getElem?_set_self (by rw [kFl_len]; exact hl), kFl_get, h]
    simp [kR_set]
  · rw [List.getElem?_set_ne e, kFl_get, kFl_get]
    have e2 : ¬ i = k := fun z => e z.symm
    simp only [Nat.zero_add, kR_set, e2, and_false, if_false]
    rfl
def kE (cA : Nat → ClassId) (μ : Km) (a : Nat) : va_E := if kK μ a ≤ 10 then .inr (kK μ a - 1, kFl μ a 0 (kL (kK μ a - 1))) else if kK μ a ≤ 13 then .inl (cA (kK μ a), kN μ a, .inl (kI μ a)) else .inl (cA (kK μ a), kN μ a, .inr (.inr (.inr (.inr (kR μ a)))))
theorem kE_obj {cA : Nat → ClassId} {μ : Km} {a ci : Nat} (h : kK μ a = ci + 1) (hc : ci < 10) : kE cA μ a = .inr (ci, kFl μ a 0 (kL ci)) := by
  unfold kE
  rw [h, if_pos (by omega), show ci + 1 - 1 = ci by omega]
theorem kE_int {cA : Nat → ClassId} {μ : Km} {a k : Nat} (h : kK μ a = k) (h1 : 10 < k) (h2 : k ≤ 13) : kE cA μ a = .inl (cA k, kN μ a, .inl (kI μ a)) := by
  unfold kE
  rw [h, if_neg (by omega), if_pos h2]
theorem kE_ref {cA : Nat → ClassId} {μ : Km} {a k : Nat} (h : kK μ a = k) (h1 : 13 < k) : kE cA μ a = .inl (cA k, kN μ a, .inr (.inr (.inr (.inr (kR μ a))))) := by
  unfold kE
  rw [h, if_neg (by omega), if_neg (by omega)]
theorem kE_cong {cA : Nat → ClassId} {μ ν : Km} {a : Nat} (h0 : kK μ a = kK ν a) (h1 : kI μ a = kI ν a) (h2 : kR μ a = kR ν a) (h3 : kN μ a = kN ν a) : kE cA μ a = kE cA ν a := by
  unfold kE
  rw [h0, h1, h2, h3, kFl_cong (ν := ν) (fun j => by rw [h1]) (fun j => by rw [h2])]
def kTys (cA : Nat → ClassId) : List (ClassId × FieldType) := [(cA 11, .byte), (cA 12, .int), (cA 13, .boolean), (cA 14, .object "KeepForget$Hold"), (cA 15, .object "KeepForget$Rule"), (cA 16, .object "KeepForget$RuleSet"), (cA 17, .object "KeepForget$Sweeper"), (cA 18, .object "KeepForget$Thing")]
def KW (D : va_G) (cA : Nat → ClassId) (E : State → Heap → Prop) (A : Nat → Prop) (μ : Km) (U : State) (H : Heap) : Prop :=
  va_K D vwCl (kTys cA) U ∧ E U H ∧ kn μ = H.size ∧ (∀ q, H.size ≤ q → A q) ∧ ∀ a, kK μ a ≠ 0 → A a ∧ va_at D vwCl (a, kE cA μ a) H
theorem KW_mv {D : va_G} {cA : Nat → ClassId} {E : State → Heap → Prop} {A : Nat → Prop} (hE : mEok E A) : gMv (KW D cA E A) := fun μ u U H hvm h => ⟨h.1.moved hvm, hE.1 _ _ _ hvm h.2.1, h.2.2⟩
theorem KW_obj {D : va_G} {cA : Nat → ClassId} {E : State → Heap → Prop} {A : Nat → Prop} {μ : Km} {U : State} {H : Heap} (h : KW D cA E A μ U H) {a ci : Nat} (hk : kK μ a = ci + 1) (hc : ci < 10) : A a ∧ va_at D vwCl (a, .inr (ci, kFl μ a 0 (kL ci))) H := by
  have := h.2.2.2.2 a (by rw [hk]; omega)
  rw [kE_obj hk hc] at this
  exact this
theorem KW_recv {D : va_G} {cA : Nat → ClassId} {E : State → Heap → Prop} {A : Nat → Prop} {μ : Km} {s : State} (a ci : Nat) {r : vw_C} (hk : kK μ a = ci + 1) (hc : ci < 10) (hr : vwCl[ci]? = some r) : ∀ H, KW D cA E A μ s H → ∃ cellB : Cell, H[a]? = some cellB ∧ cellB.vm.isStatics = false ∧ s.vm.findClass r.1 = some cellB.cls := fun H h => va_recv (ci := ci) (q0 := 0) h.1 (va_P1 (KW_obj h hk hc).2) hr rfl
/-- one cell is written, all else stays -/
theorem KW_put {D : va_G} {cA : Nat → ClassId} {E : State → Heap → Prop} {A : Nat → Prop} {μ ν : Km} {U : State} {H H1 : Heap} {a : Nat} (hE : mEok E A) (h : KW D cA E A μ U H) (ha : kK μ a ≠ 0) (hz : H1.size = H.size) (oq : ∀ q, q ≠ a → H1[q]? = H[q]?) (hn : kn ν = kn μ) (hk : ∀ b, kK ν b = kK μ b) (hc : ∀ b, b ≠ a → kE cA ν b = kE cA μ b) (hat : va_at D vwCl (a, kE cA ν a) H1) : KW D cA E A ν U H1 := by
  obtain ⟨h1, h2, h3, h4, h5⟩ := h
  have hA := (h5 a ha).1
  refine ⟨h1, hE.2 _ _ _ (fun q _ hq => oq q (fun z => hq (z ▸ hA))) h2, by rw [hn, hz]; exact h3, fun q hq => h4 q (by omega), fun b hb => ?_⟩
  rw [hk] at hb
  by_cases e : b = a
  · subst e; exact ⟨hA, hat⟩
  · refine ⟨(h5 b hb).1, ?_⟩
    rw [hc b e]
    exact (h5 b hb).2.kept (oq b e)
theorem kSetI_ne {cA : Nat → ClassId} {μ : Km} {a k : Nat} {x : Int32} (b : Nat) (h : b ≠ a) : kE cA (kSetI μ a k x) b = kE cA μ b := kE_cong rfl (by funext j; simp [kI, kSetI, va_up, h]) rfl rfl
theorem kSetR_ne {cA : Nat → ClassId} {μ : Km} {a k : Nat} {x : Option Nat} (b : Nat) (h : b ≠ a) : kE cA (kSetR μ a k x) b = kE cA μ b := kE_cong rfl rfl (by funext j; simp [kR, kSetR, va_up, h]) rfl
theorem kNew_ne {cA : Nat → ClassId} {μ : Km} {k z : Nat} (b : Nat) (h : b ≠ kn μ) : kE cA (kNew μ k z) b = kE cA μ b := by
  have h : ¬ b = μ.2.2.2.2 := h
  exact kE_cong (by simp [kK, kNew, va_up, h]) (by funext j; simp [kI, kNew, va_up, h]) (by funext j; simp [kR, kNew, va_up, h]) (by simp [kN, kNew, va_up, h])
/-- one cell more -/
theorem KW_new {D : va_G} {cA : Nat → ClassId} {E : State → Heap → Prop} {A : Nat → Prop} {μ : Km} {U : State} {H H1 : Heap} {k z : Nat} (hE : mEok E A) (h : KW D cA E A μ U H) (hz : H1.size = H.size + 1) (oq : ∀ q, q < H.size → H1[q]? = H[q]?) (hat : va_at D vwCl (kn μ, kE cA (kNew μ k z) (kn μ)) H1) : KW D cA E A (kNew μ k z) U H1 := by
  obtain ⟨h1, h2, h3, h4, h5⟩ := h
  refine ⟨h1, hE.2 _ _ _ (fun q hq _ => oq q hq) h2, by rw [hz, ← h3]; rfl, fun q hq => h4 q (by omega), fun b hb => ?_⟩
  by_cases e : b = kn μ
  · subst e; exact ⟨h4 _ (by omega), hat⟩
  · have e9 : ¬ b = μ.2.2.2.2 := e
    have hb2 : kK μ b ≠ 0 := by
      have : kK (kNew μ k z) b = kK μ b := by simp [kK, kNew, va_up, e9]
      rw [this] at hb; exact hb
    refine ⟨(h5 b hb2).1, ?_⟩
    rw [kNew_ne b e]
    exact (h5 b hb2).2.kept (oq b (h5 b hb2).2.lt)
theorem kNew_K {μ : Km} {k z : Nat} : kK (kNew μ k z) (kn μ) = k := by simp [kK, kNew, kn, va_up]
theorem kNew_I {μ : Km} {k z j : Nat} : kI (kNew μ k z) (kn μ) j = 0 := by simp [kI, kNew, kn, va_up]
theorem kNew_R {μ : Km} {k z j : Nat} : kR (kNew μ k z) (kn μ) j = none := by simp [kR, kNew, kn, va_up]
theorem kNew_N {μ : Km} {k z : Nat} : kN (kNew μ k z) (kn μ) = z := by simp [kN, kNew, kn, va_up]
variable {p : Program} {l : Launch} {e : Env} {R : Room} {s : State} {m : MethodId} {args : Array Value} {below : List Frame} {meth : Method} {c : Code}
variable {Rt : Type} {cc : ByteArray} {nL : Nat} {own : String} {Ts : List Cond} {A : Nat → Prop} {D : va_G} {cA : Nat → ClassId} {E : State → Heap → Prop} {QX : Rt → State → Prop} {cells slots : Nat} {o : Option Rt} {μ : Km} {pc : Nat} {lv : List (Nat × Value)} {st : List Value}
theorem k_geti (h : gOk p s m args meth c cc nL own Ts) (r : vw_C) (ci : Nat) (hc : ci < 10) (hr : vwCl[ci]? = some r) (hin : ∀ w ∈ u_ws r.1 r.2.1 r.2.2, w ∈ Ts) (k : Nat) (hk : k < r.2.2) (hL : (kL ci)[k]? = some false) {index : Nat} (hlk : Cond.fieldLink own index (r.2.1 k).1 (r.2.1 k).2.1 (r.2.1 k).2.2.1 ∈ Ts) {a : Nat} (hd : decode cc pc = .ok (.getfield index, 3)) (hK : kK μ a = ci + 1) (kk : gS p l e R s m args below meth c nL A (KW D cA E A) QX cells slots o μ (pc + 3) lv (.int (kI μ a k) :: st)) : gS p l e R s m args below meth c nL A (KW D cA E A) QX cells slots o μ pc lv (.ref a :: st) := fun X hX H locs ls hw hS hl =>
  va_get (D := D) (cl := vwCl) (ws := [(a, .inr (ci, kFl μ a 0 (kL ci)))]) (ci := ci) (C := r.1) (T := r.2.1) (N := r.2.2) (v := .int (kI μ a k)) h.1.1 h.1.2.1 h.1.2.2.2.2 hin h.1.2.2.2.1 hw.1 (va_P1 (KW_obj hw hK hc).2) 0 rfl hr k hk (h.1.2.2.2.2 _ hlk) (fun _ q => q) (by rw [kFl_get, hL]; simp) hd (kk X hX H locs ls hw hS hl)
theorem k_getr (h : gOk p s m args meth c cc nL own Ts) (r : vw_C) (ci : Nat) (hc : ci < 10) (hr : vwCl[ci]? = some r) (hin : ∀ w ∈ u_ws r.1 r.2.1 r.2.2, w ∈ Ts) (k : Nat) (hk : k < r.2.2) (hL : (kL ci)[k]? = some true) {index : Nat} (hlk : Cond.fieldLink own index (r.2.1 k).1 (r.2.1 k).2.1 (r.2.1 k).2.2.1 ∈ Ts) {a : Nat} (hd : decode cc pc = .ok (.getfield index, 3)) (hK : kK μ a = ci + 1) (kk : gS p l e R s m args below meth c nL A (KW D cA E A) QX cells slots o μ (pc + 3) lv (va_rf (kR μ a k) :: st)) : gS p l e R s m args below meth c nL A (KW D cA E A) QX cells slots o μ pc lv (.ref a :: st) := fun X hX H locs ls hw hS hl =>
  va_get (D := D) (cl := vwCl) (ws := [(a, .inr (ci, kFl μ a 0 (kL ci)))]) (ci := ci) (C := r.1) (T := r.2.1) (N := r.2.2) (v := va_rf (kR μ a k)) h.1.1 h.1.2.1 h.1.2.2.2.2 hin h.1.2.2.2.1 hw.1 (va_P1 (KW_obj hw hK hc).2) 0 rfl hr k hk (h.1.2.2.2.2 _ hlk) (fun _ q => q) (by rw [kFl_get, hL]; simp) hd (kk X hX H locs ls hw hS hl)
theorem k_kind {a k : Nat} {o : Option Rt} (kk : kK μ a = k → gS p l e R s m args below meth c nL A (KW D cA E A) QX cells slots o μ pc lv st) : gS p l e R s m args below meth c nL A (KW D cA E A) QX cells slots (if kK μ a = k then o else none) μ pc lv st := by
  intro X hX
  by_cases q : kK μ a = k
  · rw [if_pos q] at hX; exact kk q X hX
  · rw [if_neg q] at hX; cases hX
theorem k_puti (h : gOk p s m args meth c cc nL own Ts) (hE : mEok E A) (r : vw_C) (ci : Nat) (hc : ci < 10) (hr : vwCl[ci]? = some r) (hin : ∀ w ∈ u_ws r.1 r.2.1 r.2.2, w ∈ Ts) (k : Nat) (hk : k < r.2.2) (hL : (kL ci)[k]? = some false) (ty0 : Nat → FieldType) (hty : ∀ k, k < r.2.2 → parseFieldDescriptor (r.2.1 k).2.2.1 = some (ty0 k)) (hnmx : ∀ a, a < r.2.2 → ∀ b, b < r.2.2 → a ≠ b → (r.2.1 a).2.1 ≠ (r.2.1 b).2.1) (hfin : (r.2.1 k).2.2.2 = false) {index : Nat} (hlk : Cond.fieldLink own index (r.2.1 k).1 (r.2.1 k).2.1 (r.2.1 k).2.2.1 ∈ Ts) {a : Nat} {x : Int32} (hnar : narrow (ty0 k) (.int x) = .int x) (hfit : fits (ty0 k) (.int x) = true) (hd : decode cc pc = .ok (.putfield index, 3)) (hK : kK μ a = ci + 1) (kk : gS p l e R s m args below meth c nL A (KW D cA E A) QX cells slots o (kSetI μ a k x) (pc + 3) lv st) : gS p l e R s m args below meth c nL A (KW D cA E A) QX cells slots o μ pc lv (.int x :: .ref a :: st) := by
  intro X hX H locs ls hw hS hl
  have hw0 := hw
  obtain ⟨hA0, hO⟩ := KW_obj hw hK hc
  have hKa := hw.1
  have hts := h.1.2.2.2.2
  have hap := va_apart (own := own) (D := D) (cl := vwCl) (ci := ci) hts hin ty0 hty hnmx hKa hr
  obtain ⟨r', h1, cell, q1, q2, q3, q4⟩ := hO
  have hr' : r' = r := Option.some.inj (h1.symm.trans hr)
  subst hr'
  obtain ⟨hSl, hfc, kC, hkC, hkind⟩ := hKa.1 ci _ hr
  obtain ⟨cf, kf, fi, f, hi, hsl⟩ := hSl k hk
  have hlay := hts _ (hin _ (u_in_lay hk))
  unfold u_lay at hlay
  rw [if_neg (by rw [hfin]; decide)] at hlay
  have hst := (u_facts hfc hkC (u_lays hts hin hk) hi).1
  have h6 := u_store (v := .int x) hfc hkC hkind hlay hi (hty k hk) hnar hfit
  refine W.putK h.1.1 h.1.2.1 (f := f) ⟨h.1.2.2.2.1, hts _ hlk, ⟨_, _, _, hi⟩, hst⟩ (by rw [q2]; exact h6) q1 q3 (by rw [hsl]; exact k2_hasslot (q4 k hk)) rfl rfl hd fun H' e1 e2 e3 => ?_
  rw [hsl] at e1 ⊢
  refine kk X hX H' _ ls (KW_put hE hw0 (by rw [hK]; omega) e2 e3 rfl (fun _ => rfl) (fun b hb => kSetI_ne b hb) ?_) (hS.put e2 e3 hA0) hl
  rw [kE_obj (show kK (kSetI μ a k x) a = ci + 1 from hK) hc]
  refine ⟨_, hr, ?_⟩
  have hlen : k < (kFl μ a 0 (kL ci)).length := by rw [kFl_len]; exact (List.getElem?_eq_some_iff.mp hL).1
  exact t_OB.to (V := updV (vp_V (kFl μ a 0 (kL ci))) k (.int x)) ⟨_, e1, q2, q3, t_set q4 hap hk _⟩ (fun j _ => (vp_updV_set hlen _ j).trans (by rw [kFl_setI hL]))
theorem k_putFi (h : gOk p s m args meth c cc nL own Ts) (hE : mEok E A) (r : vw_C) (ci : Nat) (hc : ci < 10) (hr : vwCl[ci]? = some r) (hin : ∀ w ∈ u_ws r.1 r.2.1 r.2.2, w ∈ Ts) (k : Nat) (hk : k < r.2.2) (hL : (kL ci)[k]? = some false) (ty0 : Nat → FieldType) (hty : ∀ k, k < r.2.2 → parseFieldDescriptor (r.2.1 k).2.2.1 = some (ty0 k)) (hnmx : ∀ a, a < r.2.2 → ∀ b, b < r.2.2 → a ≠ b → (r.2.1 a).2.1 ≠ (r.2.1 b).2.1) (hfin : (r.2.1 k).2.2.2 = true) (hnm : meth.name = "<init>") (hdecl : (r.2.1 k).1 = own) {index : Nat} (hlk : Cond.fieldLink own index (r.2.1 k).1 (r.2.1 k).2.1 (r.2.1 k).2.2.1 ∈ Ts) {a : Nat} {x : Int32} (hnar : narrow (ty0 k) (.int x) = .int x) (hfit : fits (ty0 k) (.int x) = true) (hd : decode cc pc = .ok (.putfield index, 3)) (hK : kK μ a = ci + 1) (kk : gS p l e R s m args below meth c nL A (KW D cA E A) QX cells slots o (kSetI μ a k x) (pc + 3) lv st) : gS p l e R s m args below meth c nL A (KW D cA E A) QX cells slots o μ pc lv (.int x :: .ref a :: st) := by
  intro X hX H locs ls hw hS hl
  have hw0 := hw
  obtain ⟨hA0, hO⟩ := KW_obj hw hK hc
  have hKa := hw.1
  have hts := h.1.2.2.2.2
  have hap := va_apart (own := own) (D := D) (cl := vwCl) (ci := ci) hts hin ty0 hty hnmx hKa hr
  obtain ⟨r', h1, cell, q1, q2, q3, q4⟩ := hO
  have hr' : r' = r := Option.some.inj (h1.symm.trans hr)
  subst hr'
  obtain ⟨hSl, hfc, kC, hkC, hkind⟩ := hKa.1 ci _ hr
  obtain ⟨cf, kf, fi, f, hi, hsl⟩ := hSl k hk
  have hlay := hts _ (hin _ (u_in_lay hk))
  unfold u_lay at hlay
  rw [if_pos hfin] at hlay
  have hst := (u_facts hfc hkC (u_lays hts hin hk) hi).1
  have h6 := u_fits (v := .int x) hfc hkC hkind (Or.inr hlay) hi (hty k hk) hnar hfit
  have hcf : m.cls = cf := by
    obtain ⟨_, _, c', _, _, _, -, -, hf', -, -, -, hown2, -⟩ := Cond.laysFinal_spec hlay
    have e1 : c' = cf := by have := hi.symm.trans hf'; simp at this; exact this.1.symm
    rw [hdecl] at hown2
    rw [← e1]; exact Option.some.inj (h.1.2.2.2.1.symm.trans hown2)
  refine W.putFinK h.1.1 h.1.2.1 h.1.2.2.2.1 (hts _ hlk) hi hst hcf hnm (by rw [q2]; exact h6) q1 q3 (by rw [hsl]; exact k2_hasslot (q4 k hk)) rfl rfl hd fun H' e1 e2 e3 => ?_
  rw [hsl] at e1 ⊢
  refine kk X hX H' _ ls (KW_put hE hw0 (by rw [hK]; omega) e2 e3 rfl (fun _ => rfl) (fun b hb => kSetI_ne b hb) ?_) (hS.put e2 e3 hA0) hl
  rw [kE_obj (show kK (kSetI μ a k x) a = ci + 1 from hK) hc]
  refine ⟨_, hr, ?_⟩
  have hlen : k < (kFl μ a 0 (kL ci)).length := by rw [kFl_len]; exact (List.getElem?_eq_some_iff.mp hL).1
  exact t_OB.to (V := updV (vp_V (kFl μ a 0 (kL ci))) k (.int x)) ⟨_, e1, q2, q3, t_set q4 hap hk _⟩ (fun j _ => (vp_updV_set hlen _ j).trans (by rw [kFl_setI hL]))
theorem k_putFr (h : gOk p s m args meth c cc nL own Ts) (hE : mEok E A) (r : vw_C) (ci : Nat) (hc : ci < 10) (hr : vwCl[ci]? = some r) (hin : ∀ w ∈ u_ws r.1 r.2.1 r.2.2, w ∈ Ts) (k : Nat) (hk : k < r.2.2) (hL : (kL ci)[k]? = some true) (ty0 : Nat → FieldType) (hty : ∀ k, k < r.2.2 → parseFieldDescriptor (r.2.1 k).2.2.1 = some (ty0 k)) (hnmx : ∀ a, a < r.2.2 → ∀ b, b < r.2.2 → a ≠ b → (r.2.1 a).2.1 ≠ (r.2.1 b).2.1) (hfin : (r.2.1 k).2.2.2 = true) (hnm : meth.name = "<init>") (hdecl : (r.2.1 k).1 = own) {index : Nat} (hlk : Cond.fieldLink own index (r.2.1 k).1 (r.2.1 k).2.1 (r.2.1 k).2.2.1 ∈ Ts) {a : Nat} {x : Option Nat} (hnar : narrow (ty0 k) (va_rf x) = va_rf x) (hfit : fits (ty0 k) (va_rf x) = true) (hd : decode cc pc = .ok (.putfield index, 3)) (hK : kK μ a = ci + 1) (kk : gS p l e R s m args below meth c nL A (KW D cA E A) QX cells slots o (kSetR μ a k x) (pc + 3) lv st) : gS p l e R s m args below meth c nL A (KW D cA E A) QX cells slots o μ pc lv (va_rf x :: .ref a :: st) := by
  intro X hX H locs ls hw hS hl
  have hw0 := hw
  obtain ⟨hA0, hO⟩ := KW_obj hw hK hc
  have hKa := hw.1
  have hts := h.1.2.2.2.2
  have hap := va_apart (own := own) (D := D) (cl := vwCl) (ci := ci) hts hin ty0 hty hnmx hKa hr
  obtain ⟨r', h1, cell, q1, q2, q3, q4⟩ := hO
  have hr' : r' = r := Option.some.inj (h1.symm.trans hr)
  subst hr'
  obtain ⟨hSl, hfc, kC, hkC, hkind⟩ := hKa.1 ci _ hr
  obtain ⟨cf, kf, fi, f, hi, hsl⟩ := hSl k hk
  have hlay := hts _ (hin _ (u_in_lay hk))
  unfold u_lay at hlay
  rw [if_pos hfin] at hlay
  have hst := (u_facts hfc hkC (u_lays hts hin hk) hi).1
  have h6 := u_fits (v := va_rf x) hfc hkC hkind (Or.inr hlay) hi (hty k hk) hnar hfit
  have hcf : m.cls = cf := by
    obtain ⟨_, _, c', _, _, _, -, -, hf', -, -, -, hown2, -⟩ := Cond.laysFinal_spec hlay
    have e1 : c' = cf := by have := hi.symm.trans hf'; simp at this; exact this.1.symm
    rw [hdecl] at hown2
    rw [← e1]; exact Option.some.inj (h.1.2.2.2.1.symm.trans hown2)
  refine W.putFinK h.1.1 h.1.2.1 h.1.2.2.2.1 (hts _ hlk) hi hst hcf hnm (by rw [q2]; exact h6) q1 q3 (by rw [hsl]; exact k2_hasslot (q4 k hk)) rfl rfl hd fun H' e1 e2 e3 => ?_
  rw [hsl] at e1 ⊢
  refine kk X hX H' _ ls (KW_put hE hw0 (by rw [hK]; omega) e2 e3 rfl (fun _ => rfl) (fun b hb => kSetR_ne b hb) ?_) (hS.put e2 e3 hA0) hl
  rw [kE_obj (show kK (kSetR μ a k x) a = ci + 1 from hK) hc]
  refine ⟨_, hr, ?_⟩
  have hlen : k < (kFl μ a 0 (kL ci)).length := by rw [kFl_len]; exact (List.getElem?_eq_some_iff.mp hL).1
  exact t_OB.to (V := updV (vp_V (kFl μ a 0 (kL ci))) k (va_rf x)) ⟨_, e1, q2, q3, t_set q4 hap hk _⟩ (fun j _ => (vp_updV_set hlen _ j).trans (by rw [kFl_setR hL]))
theorem k_iald (h : gOk p s m args meth c cc nL own Ts) {a : Nat} {i : Int32} (hd : decode cc pc = .ok (.iaload, 1)) (hK : kK μ a = 12) (kk : gS p l e R s m args below meth c nL A (KW D cA E A) QX cells slots o μ (pc + 1) lv (.int (kI μ a i.toNatClampNeg) :: st)) : gS p l e R s m args below meth c nL A (KW D cA E A) QX cells slots (if okI i (kN μ a) = true then o else none) μ pc lv (.int i :: .ref a :: st) :=
  g_guard fun hi => fun X hX H locs ls hw hS hl => by
    have hc := (hw.2.2.2.2 a (by rw [hK]; decide)).2
    rw [kE_int hK (by decide) (by decide)] at hc
    exact va_iald (D := D) (cl := vwCl) (ws := [(a, .inl (cA 12, kN μ a, .inl (kI μ a)))]) h.1.1 h.1.2.1 hw.1 (va_P1 hc) 0 1 rfl rfl (okI_in hi) hd (kk X hX H locs ls hw hS hl)
theorem k_bald (h : gOk p s m args meth c cc nL own Ts) {a : Nat} {i : Int32} (hd : decode cc pc = .ok (.baload, 1)) (hK : kK μ a = 11) (kk : gS p l e R s m args below meth c nL A (KW D cA E A) QX cells slots o μ (pc + 1) lv (.int (kI μ a i.toNatClampNeg) :: st)) : gS p l e R s m args below meth c nL A (KW D cA E A) QX cells slots (if okI i (kN μ a) = true then o else none) μ pc lv (.int i :: .ref a :: st) :=
  g_guard fun hi => fun X hX H locs ls hw hS hl => by
    have hc := (hw.2.2.2.2 a (by rw [hK]; decide)).2
    rw [kE_int hK (by decide) (by decide)] at hc
    exact va_bald (D := D) (cl := vwCl) (ws := [(a, .inl (cA 11, kN μ a, .inl (kI μ a)))]) h.1.1 h.1.2.1 hw.1 (va_P1 hc) 0 0 rfl rfl (okI_in hi) hd (kk X hX H locs ls hw hS hl)
theorem k_zald (h : gOk p s m args meth c cc nL own Ts) {a : Nat} {i : Int32} (hd : decode cc pc = .ok (.baload, 1)) (hK : kK μ a = 13) (kk : gS p l e R s m args below meth c nL A (KW D cA E A) QX cells slots o μ (pc + 1) lv (.int (kI μ a i.toNatClampNeg) :: st)) : gS p l e R s m args below meth c nL A (KW D cA E A) QX cells slots (if okI i (kN μ a) = true then o else none) μ pc lv (.int i :: .ref a :: st) :=
  g_guard fun hi => fun X hX H locs ls hw hS hl => by
    have hc := (hw.2.2.2.2 a (by rw [hK]; decide)).2
    rw [kE_int hK (by decide) (by decide)] at hc
    exact va_zald (D := D) (cl := vwCl) (ws := [(a, .inl (cA 13, kN μ a, .inl (kI μ a)))]) h.1.1 h.1.2.1 hw.1 (va_P1 hc) 0 2 rfl rfl (okI_in hi) hd (kk X hX H locs ls hw hS hl)
theorem k_aald (h : gOk p s m args meth c cc nL own Ts) (kd t0 : Nat) (h13 : 13 < kd) (C : String) (ht : (kTys cA)[t0]? = some (cA kd, .object C)) {a : Nat} {i : Int32} (hd : decode cc pc = .ok (.aaload, 1)) (hK : kK μ a = kd) (kk : gS p l e R s m args below meth c nL A (KW D cA E A) QX cells slots o μ (pc + 1) lv (va_rf (kR μ a i.toNatClampNeg) :: st)) : gS p l e R s m args below meth c nL A (KW D cA E A) QX cells slots (if okI i (kN μ a) = true then o else none) μ pc lv (.int i :: .ref a :: st) :=
  g_guard fun hi => fun X hX H locs ls hw hS hl => by
    have hc := (hw.2.2.2.2 a (by rw [hK]; omega)).2
    rw [kE_ref hK h13] at hc
    exact va_aldq (D := D) (cl := vwCl) (ws := [(a, .inl (cA kd, kN μ a, .inr (.inr (.inr (.inr (kR μ a))))))]) (C := C) h.1.1 h.1.2.1 hw.1 (va_P1 hc) 0 t0 rfl ht (okI_in hi) hd (kk X hX H locs ls hw hS hl)
theorem k_alenI (h : gOk p s m args meth c cc nL own Ts) (kd t0 : Nat) (h10 : 10 < kd) (h13 : kd ≤ 13) (ty : FieldType) (ht : (kTys cA)[t0]? = some (cA kd, ty)) {a : Nat} (hd : decode cc pc = .ok (.arraylength, 1)) (hK : kK μ a = kd) (kk : gS p l e R s m args below meth c nL A (KW D cA E A) QX cells slots o μ (pc + 1) lv (.int (nI (kN μ a)) :: st)) : gS p l e R s m args below meth c nL A (KW D cA E A) QX cells slots o μ pc lv (.ref a :: st) := fun X hX H locs ls hw hS hl => by
  have hc := (hw.2.2.2.2 a (by rw [hK]; omega)).2
  rw [kE_int hK h10 h13] at hc
  exact va_alen (D := D) (cl := vwCl) (ws := [(a, .inl (cA kd, kN μ a, .inl (kI μ a)))]) h.1.1 h.1.2.1 hw.1 (va_P1 hc) 0 t0 rfl ht rfl hd (kk X hX H locs ls hw hS hl)
theorem k_iast (h : gOk p s m args meth c cc nL own Ts) (hE : mEok E A) {a : Nat} {i x : Int32} (hd : decode cc pc = .ok (.iastore, 1)) (hK : kK μ a = 12) (kk : gS p l e R s m args below meth c nL A (KW D cA E A) QX cells slots o (kSetI μ a i.toNatClampNeg x) (pc + 1) lv st) : gS p l e R s m args below meth c nL A (KW D cA E A) QX cells slots (if okI i (kN μ a) = true then o else none) μ pc lv (.int x :: .int i :: .ref a :: st) := by
  refine g_guard fun hi => ?_
  intro X hX H locs ls hw hS hl
  obtain ⟨hA0, hc⟩ := hw.2.2.2.2 a (by rw [hK]; decide)
  rw [kE_int hK (by decide) (by decide)] at hc
  have hin := okI_in hi
  refine W.iast h.1.1 h.1.2.1 hc ((hw.1.2 1 (cA 12, .int) rfl).1 (kN μ a) (fun j => .int (kI μ a j))) (fun q => by cases q) (by show ¬ (i < 0 ∨ (arrV _ _ _).slots.size ≤ _); rw [arrV_size]; exact hin) rfl rfl hd fun H1 e z oq => ?_
  refine kk X hX H1 _ ls (KW_put hE hw (by rw [hK]; decide) z oq rfl (fun _ => rfl) (fun b hb => kSetI_ne b hb) ?_) (hS.put z oq hA0) hl
  rw [kE_int (show kK (kSetI μ a i.toNatClampNeg x) a = 12 from hK) (by decide) (by decide)]
  show H1[a]? = some (vp_cell _ (kN μ a, .inl (kI (kSetI μ a i.toNatClampNeg x) a)))
  rw [e, vp_cell_i, vp_cell_i, arrV_store]
  congr 2
  funext q
  by_cases hq : q = i.toNatClampNeg
  · subst hq
    simp [kI_set, updV]
    try rfl
  · simp [kI_set, updV, hq]
theorem k_bast (h : gOk p s m args meth c cc nL own Ts) (hE : mEok E A) {a : Nat} {i x : Int32} (hd : decode cc pc = .ok (.bastore, 1)) (hK : kK μ a = 11) (kk : gS p l e R s m args below meth c nL A (KW D cA E A) QX cells slots o (kSetI μ a i.toNatClampNeg (vp_nar .byte x)) (pc + 1) lv st) : gS p l e R s m args below meth c nL A (KW D cA E A) QX cells slots (if okI i (kN μ a) = true then o else none) μ pc lv (.int x :: .int i :: .ref a :: st) := by
  refine g_guard fun hi => ?_
  intro X hX H locs ls hw hS hl
  obtain ⟨hA0, hc⟩ := hw.2.2.2.2 a (by rw [hK]; decide)
  rw [kE_int hK (by decide) (by decide)] at hc
  have hin := okI_in hi
  refine W.bast h.1.1 h.1.2.1 hc ((hw.1.2 0 (cA 11, .byte) rfl).1 (kN μ a) (fun j => .int (kI μ a j))) (fun q => by cases q) (by show ¬ (i < 0 ∨ (arrV _ _ _).slots.size ≤ _); rw [arrV_size]; exact hin) rfl rfl hd fun H1 e z oq => ?_
  refine kk X hX H1 _ ls (KW_put hE hw (by rw [hK]; decide) z oq rfl (fun _ => rfl) (fun b hb => kSetI_ne b hb) ?_) (hS.put z oq hA0) hl
  rw [kE_int (show kK (kSetI μ a i.toNatClampNeg (vp_nar .byte x)) a = 11 from hK) (by decide) (by decide)]
  show H1[a]? = some (vp_cell _ (kN μ a, .inl (kI (kSetI μ a i.toNatClampNeg (vp_nar .byte x)) a)))
  rw [e, vp_cell_i, vp_cell_i, arrV_store]
  congr 2
  funext q
  by_cases hq : q = i.toNatClampNeg
  · subst hq
    simp [kI_set, updV, vp_nar]
    try rfl
  · simp [kI_set, updV, hq]
theorem k_zast (h : gOk p s m args meth c cc nL own Ts) (hE : mEok E A) {a : Nat} {i x : Int32} (hok : okZ x = true) (hd : decode cc pc = .ok (.bastore, 1)) (hK : kK μ a = 13) (kk : gS p l e R s m args below meth c nL A (KW D cA E A) QX cells slots o (kSetI μ a i.toNatClampNeg x) (pc + 1) lv st) : gS p l e R s m args below meth c nL A (KW D cA E A) QX cells slots (if okI i (kN μ a) = true then o else none) μ pc lv (.int x :: .int i :: .ref a :: st) := by
  refine g_guard fun hi => ?_
  intro X hX H locs ls hw hS hl
  obtain ⟨hA0, hc⟩ := hw.2.2.2.2 a (by rw [hK]; decide)
  rw [kE_int hK (by decide) (by decide)] at hc
  have hin := okI_in hi
  refine W.zast h.1.1 h.1.2.1 hc ((hw.1.2 2 (cA 13, .boolean) rfl).1 (kN μ a) (fun j => .int (kI μ a j))) (fun q => by cases q) (by show ¬ (i < 0 ∨ (arrV _ _ _).slots.size ≤ _); rw [arrV_size]; exact hin) rfl rfl hd fun H1 e z oq => ?_
  refine kk X hX H1 _ ls (KW_put hE hw (by rw [hK]; decide) z oq rfl (fun _ => rfl) (fun b hb => kSetI_ne b hb) ?_) (hS.put z oq hA0) hl
  rw [kE_int (show kK (kSetI μ a i.toNatClampNeg x) a = 13 from hK) (by decide) (by decide)]
  show H1[a]? = some (vp_cell _ (kN μ a, .inl (kI (kSetI μ a i.toNatClampNeg x) a)))
  rw [e, vp_cell_i, vp_cell_i, arrV_store]
  congr 2
  funext q
  by_cases hq : q = i.toNatClampNeg
  · subst hq
    simp [kI_set, updV, okZ_nar hok]
    try rfl
  · simp [kI_set, updV, hq]
theorem k_aast (h : gOk p s m args meth c cc nL own Ts) (hE : mEok E A) (kd t0 ci : Nat) (h13 : 13 < kd) (hc10 : ci < 10) (r : vw_C) (hr : vwCl[ci]? = some r) (ht : (kTys cA)[t0]? = some (cA kd, .object r.1)) {a b : Nat} {i : Int32} (hd : decode cc pc = .ok (.aastore, 1)) (hK : kK μ a = kd) (hKb : kK μ b = ci + 1) (kk : gS p l e R s m args below meth c nL A (KW D cA E A) QX cells slots o (kSetR μ a i.toNatClampNeg (some b)) (pc + 1) lv st) : gS p l e R s m args below meth c nL A (KW D cA E A) QX cells slots (if okI i (kN μ a) = true then o else none) μ pc lv (.ref b :: .int i :: .ref a :: st) := by
  refine g_guard fun hi => ?_
  intro X hX H locs ls hw hS hl
  obtain ⟨hA0, hc⟩ := hw.2.2.2.2 a (by rw [hK]; omega)
  rw [kE_ref hK h13] at hc
  have hin := okI_in hi
  have hlt : i.toNatClampNeg < kN μ a := Nat.not_le.mp fun q => hin (Or.inr q)
  have h0 : ¬ i < 0 := fun q => hin (Or.inl q)
  obtain ⟨r', hr', cellV, g1, g2, g3, -⟩ := (KW_obj hw hKb hc10).2
  have hcls := (hw.1.1 ci r hr).2
  obtain ⟨kA, comp, k1, k2, k3, -⟩ := (hw.1.2 t0 _ ht).2
  have hcomp : comp = D.1 ci := Option.some.inj (k3.symm.trans hcls.1)
  subst hcomp
  obtain ⟨kC, hkC, -⟩ := hcls.2
  refine W.aast h.1.1 h.1.2.1 hc (fun q h => by cases h) (fun h => by cases h) k1 k2 rfl hkC ⟨h0, by show _ < (arrV _ _ _).slots.size; rw [arrV_size]; exact hlt⟩ g1 (fun q h => by rw [g3] at h; cases h) (by rw [g2]; exact hkC) (by rw [g2]; exact va_assign hcls) rfl rfl hd fun H1 e z oq => ?_
  refine kk X hX H1 _ ls (KW_put hE hw (by rw [hK]; omega) z oq rfl (fun _ => rfl) (fun b hb => kSetR_ne b hb) ?_) (hS.put z oq hA0) hl
  rw [kE_ref (show kK (kSetR μ a i.toNatClampNeg (some b)) a = kd from hK) h13]
  show H1[a]? = some (vp_cell _ (kN μ a, .inr (.inr (.inr (.inr (kR (kSetR μ a i.toNatClampNeg (some b)) a))))))
  rw [e, vp_cell_q, vp_cell_q, arrV_store]
  congr 2
  funext q
  by_cases hq : q = i.toNatClampNeg
  · subst hq
    simp [kR_set, updV, va_rf]
  · simp [kR_set, updV, hq]
theorem k_new (h : gOk p s m args meth c cc nL own Ts) (hE : mEok E A) (r : vw_C) (ci : Nat) (hc : ci < 10) (hr : vwCl[ci]? = some r) (hin : ∀ w ∈ u_ws r.1 r.2.1 r.2.2, w ∈ Ts) (ty0 : Nat → FieldType) (hty : ∀ k, k < r.2.2 → parseFieldDescriptor (r.2.1 k).2.2.1 = some (ty0 k)) (hdf : ∀ k, k < r.2.2 → ((kL ci)[k]?).map (fun b => if b = true then Value.null else Value.int 0) = some (defaultValue (ty0 k))) {index : Nat} (hcl : Cond.classLink own index r.1 ∈ Ts) (hinst : Cond.instantiable r.1 r.2.2 ∈ Ts) (hini : Cond.initialized r.1 ∈ Ts) (hcells : cells + 1 ≤ R.cells) (hslots : slots + r.2.2 ≤ R.slots) (hd : decode cc pc = .ok (.new index, 3)) (kk : gS p l e R s m args below meth c nL A (KW D cA E A) QX (cells + 1) (slots + r.2.2) o (kNew μ (ci + 1) 0) (pc + 3) lv (.ref (kn μ) :: st)) : gS p l e R s m args below meth c nL A (KW D cA E A) QX cells slots o μ pc lv st := by
  intro X hX H locs ls hw hS hl
  have hts := h.1.2.2.2.2
  have hKn := hw.1.1 ci _ hr
  refine W.newcK (h := kn μ) h.1.1 h.1.2.1 h.1.2.2.2.1 (hts _ hcl) (hts _ hinst) (hts _ hini) rfl hd hcells hslots hKn.2.1 hw.2.2.1.symm fun H1 kC hkC e1 z1 o1 => ?_
  have hnH : kn μ = H.size := hw.2.2.1
  refine kk X hX H1 locs ls (KW_new hE hw (by rw [z1, hnH]) (fun q hq => o1 q (by rw [hnH]; exact hq)) ?_) ⟨Nat.le_trans hS.1 (by omega), fun x h1 h2 => (o1 x (by rw [hnH]; exact Nat.lt_of_lt_of_le h1 hS.1)).trans (hS.2.1 x h1 h2), hS.2.2⟩ hl
  rw [kE_obj kNew_K hc]
  refine ⟨_, hr, (u_born ty0 hts hin hKn hkC e1 hty).to (fun j hj => ?_)⟩
  have hj2 := hdf j hj
  unfold vp_V
  rw [List.getD_eq_getElem?_getD, kFl_get]
  cases hb : (kL ci)[j]? with
  | none => rw [hb] at hj2; cases hj2
  | some b =>
    rw [hb] at hj2
    have := Option.some.inj hj2
    rw [← this]
    cases b <;> simp [kNew_I, kNew_R, va_rf]
theorem k_newi (h : gOk p s m args meth c cc nL own Ts) (hE : mEok E A) (kd t0 : Nat) (h10 : 10 < kd) (h13 : kd ≤ 13) {atype : ArrayType} (ty : FieldType) (hty : newarray.typeOf atype = ty) (hdf : defaultValue ty = .int 0) (ht : (kTys cA)[t0]? = some (cA kd, ty)) (hra : ∀ U c, va_RA U c ty → U.vm.findClass ("[" ++ ty.toString) = some c) (harr : Cond.arrayClass ty ∈ Ts) {n : Int32} (z : Nat) (hn : ¬ n < 0) (hz : n.toNatClampNeg = z) (hby : z * componentBytes ty ≤ 536870912) (hcells : cells + 1 ≤ R.cells) (hslots : slots + z ≤ R.slots) (hd : decode cc pc = .ok (.newarray atype, 2)) (kk : gS p l e R s m args below meth c nL A (KW D cA E A) QX (cells + 1) (slots + z) o (kNew μ kd z) (pc + 2) lv (.ref (kn μ) :: st)) : gS p l e R s m args below meth c nL A (KW D cA E A) QX cells slots o μ pc lv (.int n :: st) := by
  intro X hX H locs ls hw hS hl
  subst hty
  have hnH : kn μ = H.size := hw.2.2.1
  refine va_newaK (h := kn μ) h.1.1 h.1.2.1 (h.1.2.2.2.2 _ harr) rfl hd rfl hn hz hby hcells hslots hnH.symm fun H1 c9 e1 z1 o1 hAr hNm => ?_
  have hcc : c9 = cA kd := Option.some.inj (hNm.symm.trans (hra _ _ (hw.1.2 t0 _ ht).2))
  subst hcc
  refine kk X hX H1 locs ls (KW_new hE hw (by rw [z1, hnH]) (fun q hq => o1 q (by rw [hnH]; exact hq)) ?_) ⟨Nat.le_trans hS.1 (by omega), fun x h1 h2 => (o1 x (by rw [hnH]; exact Nat.lt_of_lt_of_le h1 hS.1)).trans (hS.2.1 x h1 h2), hS.2.2⟩ hl
  rw [kE_int kNew_K h10 h13]
  show H1[kn μ]? = some (vp_cell _ _)
  rw [vp_cell_i, kNew_N, e1, hdf]
  congr 2
  funext q
  rw [kNew_I]
theorem k_newq (h : gOk p s m args meth c cc nL own Ts) (hE : mEok E A) (kd t0 : Nat) (h13 : 13 < kd) (C : String) (ht : (kTys cA)[t0]? = some (cA kd, .object C)) {index : Nat} (hcl : Cond.classLink own index C ∈ Ts) (hov : va_AO C s) {n : Int32} (z : Nat) (hn : ¬ n < 0) (hz : n.toNatClampNeg = z) (hby : z * 4 ≤ 536870912) (hcells : cells + 1 ≤ R.cells) (hslots : slots + z ≤ R.slots) (hd : decode cc pc = .ok (.anewarray index, 3)) (kk : gS p l e R s m args below meth c nL A (KW D cA E A) QX (cells + 1) (slots + z) o (kNew μ kd z) (pc + 3) lv (.ref (kn μ) :: st)) : gS p l e R s m args below meth c nL A (KW D cA E A) QX cells slots o μ pc lv (.int n :: st) := by
  intro X hX H locs ls hw hS hl
  subst hz
  have hnH : kn μ = H.size := hw.2.2.1
  refine W.anew h.1.1 h.1.2.1 h.1.2.2.2.1 (h.1.2.2.2.2 _ hcl) (va_AO.use hov) rfl hd rfl hn hby hcells hslots fun c9 kA comp f1 f2 f3 f4 => ?_
  have hcc : c9 = cA kd := by
    obtain ⟨kA', comp', -, -, -, g4⟩ := (hw.1.2 t0 _ ht).2
    exact Option.some.inj (f1.symm.trans g4)
  subst hcc
  generalize hH1 : H.push ({ cls := cA kd, slots := Array.replicate n.toNatClampNeg .null, vm := .none } : Cell) = H1
  have z1 : H1.size = H.size + 1 := by rw [← hH1, Array.size_push]
  have e1 : H1[H.size]? = some (arrV (cA kd) n.toNatClampNeg (fun _ => .null)) := by rw [← hH1, Array.getElem?_push_size, ← arrV_new]
  have o1 : ∀ q : Nat, q < H.size → H1[q]? = H[q]? := fun q hq => by rw [← hH1, Array.getElem?_push, if_neg (Nat.ne_of_lt hq)]
  have kk2 := kk X hX H1 locs ls (KW_new hE hw z1 o1 ?_) ⟨Nat.le_trans hS.1 (by omega), fun x h1 h2 => (o1 x (Nat.lt_of_lt_of_le h1 hS.1)).trans (hS.2.1 x h1 h2), hS.2.2⟩ hl
  · rw [hnH] at kk2
    exact kk2
  · rw [kE_ref kNew_K h13]
    show H1[kn μ]? = some (vp_cell _ _)
    rw [vp_cell_q, kNew_N, hnH, e1]
    congr 2
    funext q
    rw [← hnH, kNew_R]
    rfl
end KW
end
section
section XCT
variable {p : Program} {l : Launch} {e : Env} {R : Room} {s : State} {m : MethodId} {args : Array Value} {below : List Frame} {meth : Method} {c : Code} {locs : List Loc} {cells slots : Nat}
def xOwn (own : String) (ic : Nat) (X Y0 : String) (i0 : Nat) (b0 : ByteArray) (names : List String) : List Cond :=
  Bundle.throwableAtoms ++ Bundle.throwableSAtoms ++ Bundle.passSAtoms X Y0 i0 b0 ++ Bundle.chainSAtoms Y0 names ++
  [.methodLink own ic (Bundle.initS X), .instantiable X 6, .castable X X, .selects X Bundle.tFill0 Bundle.tFill0, .selects X Bundle.tFill Bundle.tFill,
   .lays X Bundle.tN "cause" "Ljava/lang/Throwable;", .lays X Bundle.tN "stackTrace" Bundle.steD, .lays X Bundle.tN "suppressedExceptions" Bundle.listD, .lays X Bundle.tN "detailMessage" "Ljava/lang/String;",
   .isRef (.static Bundle.tN "UNASSIGNED_STACK" Bundle.steD), .isRef (.static Bundle.tN "SUPPRESSED_SENTINEL" Bundle.listD),
   .fieldLink Bundle.tN 198 Bundle.tN "backtrace" "Ljava/lang/Object;", .lays Bundle.tN Bundle.tN "backtrace" "Ljava/lang/Object;", .lays X Bundle.tN "backtrace" "Ljava/lang/Object;"]
def xAt (own : String) (ic : Nat) (X Y0 : String) (i0 : Nat) (b0 : ByteArray) (names : List String) : List Cond := (xOwn own ic X Y0 i0 b0 names).filter vx_no
set_option maxHeartbeats 1000000 in
/-- 'new X(text)' and its throw, where X's constructor hands the text on by an index of its own (the library's law has index 7; NoSuchElementException's is 13); after JvmDerived/BundleOwnThrow.lean -/
theorem x_ctor {W : State} (X : Stand p l e R s m args below meth c W locs cells slots) (hexec : p.tables.exec = Jvm.exec) (htr : e.platform.stackTraces = false) {own cls Y0 : String} {names : List String} {ic i0 : Nat} {b0 : ByteArray}
    (hb0 : decode b0 0 = .ok (.aload_n 0, 1)) (hb1 : decode b0 1 = .ok (.aload_n 1, 1)) (hb2 : decode b0 2 = .ok (.invokespecial i0, 3)) (hb5 : decode b0 5 = .ok (.return_, 1))
    (hown : s.vm.findClass own = some m.cls) (hcls : Bundle.fit cls = true) (hY0 : Bundle.fit Y0 = true) (hnames : ∀ n ∈ names, Bundle.fit n = true)
    (h : ∀ a ∈ xOwn own ic cls Y0 i0 b0 names, a.before args s = true)
    (hlocs : ∀ x ∈ locs, ∀ cell, s.heap[x.base]? = some cell → cell.vm.isStatics = false)
    {a : Addr} {cX : ClassId} {kX : Class} (hfoundX : s.vm.findClass cls = some cX) (hkX : s.vm.classes[cX]? = some kX) (hcell : W.heap[a]? = some (freshCell cX kX)) (hnew : s.heap.size ≤ a)
    {msg : Value} (hmsg : msg.isRef = true)
    {g : JFrame} (hg : g.method = m) (hsize : g.locals.size = c.maxLocals) (hlocked : g.locked = none) (hentered : g.entered = []) {rest : List Value} (hstack : g.stack = msg :: .ref a :: .ref a :: rest)
    (hd6 : decode c.code g.pc = .ok (.invokespecial ic, 3)) (hd9 : decode c.code (g.pc + 3) = .ok (.athrow, 1)) (hout : ∀ x ∈ c.exceptionTable.toList, covers x (g.pc + 3) = false)
    (hRframes : names.length + 4 < R.frames) (hRlocals : 2 * g.monitorRoom + ((Value.ref a :: rest).map fun v => v.category).sum + (13 * (names.length + 1 + 1) + 42) ≤ R.locals) (hlocks : meth.locks = false) :
    ∃ U : State, Steps p.tables e below (W.setTop g) U ∧ U.status = .running ∧ Ended U below (.threw a) ∧ s.WarmedH U.vm ∧ s.sameButNew ({ U with vm := s.vm } : State) locs cells slots ∧
      ∃ ce, U.heap[a]? = some ce ∧ ce.vm = .none ∧ s.vm.findClass cls = some ce.cls := by
  have howns : e.platform.frameOwnsMonitors = true := by rw [X.admits.platform]
  have hfin : e.platform.finalization = false := by rw [X.admits.platform]
  have hpl : e.platform.magicAccessors = ({} : Platform).magicAccessors := by rw [X.admits.platform]
  have a' : ∀ x, x ∈ xOwn own ic cls Y0 i0 b0 names → x.holds args s none s [] = true := fun x hx => h x hx
  obtain ⟨T, Z0, L, -, Y⟩ := ThrowableC.of_atoms (args := args) howns hfin hpl (fun x hx => h x (by simp [xOwn, hx]))
  obtain ⟨Z, M, LZ, LM, hnZ⟩ := Init0T.ofS_atoms (args := args) hpl L Y (fun x hx => h x (by simp [xOwn, hx]))
  obtain ⟨P0, Ps0, hlen0, L0, hL0, hP0m, hlink00, hlink0⟩ := Bundle.chainS (args := args) hpl hnZ names Y0 hY0 hnames (fun x hx => h x (by simp [xOwn, hx]))
  obtain ⟨P1, L1, hP1m, hsup⟩ := PassC.ofS_atoms (args := args) (s := s) hpl (X := cls) (Y := Y0) (Bundle.fit_spec hcls).1 (Bundle.fit_spec hY0).2 hb0 hb1 hb2 hb5 (fun x hx => h x (by simp [xOwn, hx]))
  obtain ⟨Ps, hPs⟩ : ∃ z, z = P0 :: Ps0 := ⟨_, rfl⟩
  have hlen : Ps.length = names.length + 1 := by rw [hPs, List.length_cons, hlen0]
  have hL : ∀ P, P ∈ Ps → P.LinksS e.platform s := fun P hP => by
    rw [hPs] at hP
    rcases List.mem_cons.mp hP with rfl | hP
    · exact L0
    · exact hL0 P hP
  have hsup0 : P1.sup = P0.m := Option.some.inj (hsup.symm.trans hP0m)
  have hlinks : PassesOn (Z.m T.toThrowableT) ((P1 :: Ps).map (·.toPassT)) := by rw [hPs]; exact ⟨hsup0, hlink00, hlink0⟩
  have hfound : s.vm.findClass cls = some P1.m.cls := findClass_of_methodNamed hP1m
  cases Option.some.inj (hfoundX.symm.trans hfound)
  obtain ⟨c1, kX', hc1, hk, hord, -, -, hn6⟩ := Cond.instantiable_spec (a' (.instantiable cls 6) (by simp [xOwn]))
  cases Option.some.inj (hc1.symm.trans hfound)
  cases Option.some.inj (hkX.symm.trans hk)
  have hsel0 : selectMethod e.platform s.vm P1.m.cls T.fill0 = .method T.fill0 := by
    obtain ⟨c2, r2, m2, q1, q2, q3, q4, -⟩ := Cond.selects_spec (a' (.selects cls Bundle.tFill0 Bundle.tFill0) (by simp [xOwn]))
    cases Option.some.inj (q1.symm.trans hfound)
    cases Option.some.inj (q2.symm.trans (State.methodFound?_of_named Y.fill0 (by decide)))
    cases Option.some.inj (q3.symm.trans Y.fill0)
    rw [Launch.admits_selectMethod X.admits]; exact q4
  have hselF : selectMethod e.platform s.vm P1.m.cls T.fill = .method T.fill := by
    obtain ⟨c2, r2, m2, q1, q2, q3, q4, -⟩ := Cond.selects_spec (a' (.selects cls Bundle.tFill Bundle.tFill) (by simp [xOwn]))
    cases Option.some.inj (q1.symm.trans hfound)
    cases Option.some.inj (q2.symm.trans (State.methodFound?_of_named Y.fill (by decide)))
    cases Option.some.inj (q3.symm.trans Y.fill)
    rw [Launch.admits_selectMethod X.admits]; exact q4
  obtain ⟨cellS0, hcS0, hiss⟩ := Y.statics
  obtain ⟨u0, hu0⟩ := Cond.staticRefV Y.unassigned L.unassignedStatic L.statics hcS0 hiss (a' (.isRef (.static Bundle.tN "UNASSIGNED_STACK" Bundle.steD)) (by simp [xOwn]))
  obtain ⟨sen, hsen⟩ := Cond.staticRefV Y.sentinel L.sentinelStatic L.statics hcS0 hiss (a' (.isRef (.static Bundle.tN "SUPPRESSED_SENTINEL" Bundle.listD)) (by simp [xOwn]))
  obtain ⟨ci198, i198, fB, hk198, hg198, ha198, hsB, -, hnB, htB, hffB⟩ := Cond.ownField (t := .object "java/lang/Object") Y.found L.cls (by decide +kernel) (a' (.fieldLink Bundle.tN 198 Bundle.tN "backtrace" "Ljava/lang/Object;") (by simp [xOwn])) (a' (.lays Bundle.tN Bundle.tN "backtrace" "Ljava/lang/Object;") (by simp [xOwn])) e.platform hpl
  obtain ⟨cellS, hcS', heS, -, hkeep⟩ := X.same.2.2.2.2.2 T.aS cellS0 hcS0
  have hcellS : W.heap[T.aS]? = some cellS := hcS'
  have hout' : ∀ i, (⟨T.aS, i⟩ : Loc) ∉ locs := fun i hmem => by
    have := hlocs _ hmem cellS0 hcS0
    rw [hiss] at this; cases this
  have hknownS : cellS.vm ≠ .unknown := by
    rw [heS]; intro hu
    rw [show cellS0.vm = .unknown from hu] at hiss
    cases hiss
  have hneS : T.aS ≠ a := Nat.ne_of_lt (Nat.lt_of_lt_of_le (Array.getElem?_eq_some_iff.mp hcS0).1 hnew)
  obtain ⟨iM, hffM⟩ := Y.msg
  obtain ⟨tyC, dC, hdC, hdnC⟩ := Cond.laysAt hfound hk Y.cause (a' (.lays cls Bundle.tN "cause" "Ljava/lang/Throwable;") (by simp [xOwn]))
  obtain ⟨tyS, dS, hdS, hdnS⟩ := Cond.laysAt hfound hk Y.stack (a' (.lays cls Bundle.tN "stackTrace" Bundle.steD) (by simp [xOwn]))
  obtain ⟨tyP, dP, hdP, hdnP⟩ := Cond.laysAt hfound hk Y.supp (a' (.lays cls Bundle.tN "suppressedExceptions" Bundle.listD) (by simp [xOwn]))
  obtain ⟨tyM, dM, hdM, hdnM⟩ := Cond.laysAt hfound hk hffM (a' (.lays cls Bundle.tN "detailMessage" "Ljava/lang/String;") (by simp [xOwn]))
  obtain ⟨tyB, dB, hdB, hdnB⟩ := Cond.laysAt hfound hk hffB (a' (.lays cls Bundle.tN "backtrace" "Ljava/lang/Object;") (by simp [xOwn]))
  have bC := Cond.laysApart hdB hdC hdnB hdnC (by rw [hnB, Y.causeName]; decide)
  have bS := Cond.laysApart hdB hdS hdnB hdnS (by rw [hnB, Y.stackName]; decide)
  have bP := Cond.laysApart hdB hdP hdnB hdnP (by rw [hnB, Y.suppName]; decide)
  have hskip : SkipFacts T e.platform s (fun u => u) u0 ((preparedCellV T.toThrowableT (freshCell P1.m.cls kX) a u0 sen).withEntry W.cur) :=
    ⟨{ ci198 := ci198, i198 := i198, fBack := fB }, ⟨hk198, hg198, ha198, hsB⟩, by
      have := fresh_default (c := P1.m.cls) tyB
      rw [htB] at this
      simpa [preparedCellV, Cell.setSlot, Cell.withEntry, Array.getElem?_setIfInBounds, bC, bS, bP, bC.symm, bS.symm, bP.symm, defaultValue] using this, fun _ _ => rfl⟩
  obtain ⟨tm, methC, cdC, kC, vm₁, hnC, -, -, -, -, -, -, -, hW₁, st1⟩ := Steps.initColdS (tb := p.tables) (e := e) (below := below) (s := s) (U := W) X.here hexec X.warmed hpl hown (t := Bundle.initS cls) rfl rfl (Bundle.fit_spec hcls).2
    (a' (.methodLink own ic (Bundle.initS cls)) (by simp [xOwn])) (h (.instanceMethod (Bundle.initS cls)) (by simp [xOwn, Bundle.passSAtoms])) (bytes := b0) (maxL := 2) (h (.code (Bundle.initS cls) b0 2 none) (by simp [xOwn, Bundle.passSAtoms]))
    (f := g) hg (a := a) (msg := msg) (rest := .ref a :: rest) hstack hd6
  cases Option.some.inj (hnC.symm.trans hP1m)
  have X₁ := X.noted hW₁
  obtain ⟨vm₂, X₂, st2⟩ := X₁.ctorMessageOffV hexec (g := { g with stack := .ref a :: rest }) hg hsize T L Z LZ M LM (P1 :: Ps)
    (fun P hP => by rcases List.mem_cons.mp hP with rfl | hP; exact L1; exact hL P hP) hlinks (u0 := u0) (sen := sen) (self := a) hmsg (cell := freshCell P1.m.cls kX) (cellS := cellS)
    hcell (fun _ => by simp) (by simp) rfl rfl hsel0 hselF hcellS hneS hknownS (by rw [hkeep _ (hout' _)]; exact hu0) (by rw [hkeep _ (hout' _)]; exact hsen)
    (Takes.of_laid hk hord tyC (by rw [Y.causeType]; rfl)) (Takes.of_laid hk hord tyS (by rw [Y.stackType]; exact fits_refV_array _ u0)) (Takes.of_laid hk hord tyP (by rw [Y.suppType]; exact fits_refV_object _ sen))
    (Takes.of_laid hk hord tyM (by rw [Y.msgType]; exact fits_refV_object _ ⟨msg, hmsg⟩)) Y.objLocals hskip htr [] hd6
    (by simp only [List.length_cons, hlen]; omega) (by simp only [List.length_cons, hlen]; exact hRlocals)
  obtain ⟨hwalk, hrun, hended, hWU, hsame⟩ := X₂.athrowLeaves hexec (g := { g with stack := .ref a :: rest, pc := g.pc + 3 }) hg hlocked hentered hout (a := a) (rest := rest) rfl hd9
  obtain ⟨c3, c4, hc3, hc4, hasg⟩ := Cond.castable_spec (a' (.castable cls cls) (by simp [xOwn]))
  cases Option.some.inj (hc3.symm.trans hfound)
  cases Option.some.inj (hc4.symm.trans hfound)
  have hlt : a < ((W.setVm vm₁).setVm vm₂).heap.size := (Array.getElem?_eq_some_iff.mp hcell).1
  have hU := heapAt_setCell_self (s := (W.setVm vm₁).setVm vm₂) (plainBareV T.toThrowableT (freshCell P1.m.cls kX) a u0 sen msg) hlt
  refine ⟨_, st1 _ (fun acts => ?_), hrun, hended, hWU, hsame.weaken (fun y hy hlt' => ?_) (Nat.le_refl _) (Nat.le_refl _), _, hU, rfl, hfound⟩
  · rw [doInvoke_state]
    exact st2 _ hwalk
  · rcases List.mem_append.mp hy with h1 | h1
    · exact h1
    · exfalso
      have hb : y.base = a := by
        simp only [List.mem_cons, List.not_mem_nil, or_false] at h1
        rcases h1 with rfl | rfl | rfl | rfl | rfl <;> rfl
      rw [hb] at hlt'
      exact Nat.not_lt.mpr hnew hlt'
variable {H : Heap} {mc ms : Nat} {free : Addr → Prop} {ls : Array Slot} {rest : List Value} {Qc : Array Value → State → Outcome → State → Prop} {XC : String → State → State → Prop}
theorem x_throwS {cc : ByteArray} {pc : Nat} (hexec : p.tables.exec = Jvm.exec) (hb : c.code = cc) (hl : l.stackTraces = false) {own cls Y0 text : String} {i0 : Nat} {b0 : ByteArray} (hb0 : decode b0 0 = .ok (.aload_n 0, 1)) (hb1 : decode b0 1 = .ok (.aload_n 1, 1)) (hb2 : decode b0 2 = .ok (.invokespecial i0, 3)) (hb5 : decode b0 5 = .ok (.return_, 1)) (hY0 : Bundle.fit Y0 = true) {names : List String} {ik is ic mc ms sa : Nat} {A : Nat → Prop}
    (hown : s.vm.findClass own = some m.cls) (hcls : Bundle.fit cls = true) (hnames : ∀ n ∈ names, Bundle.fit n = true)
    (hk : (Cond.classLink own ik cls).before args s = true) (hini : (Cond.initialized cls).before args s = true) (hstr : vk_R own is text sa s) (hat : ∀ w ∈ xAt own ic cls Y0 i0 b0 names, w.before args s = true)
    (hgood : ∀ w ∈ Cond.classLink own ik cls :: Cond.initialized cls :: xAt own ic cls Y0 i0 b0 names, vx_ot w = true)
    (hU : vx_Zq Bundle.tN "UNASSIGNED_STACK" Bundle.steD A s s.heap) (hN : vx_Zq Bundle.tN "SUPPRESSED_SENTINEL" Bundle.listD A s s.heap) (hS : va_S A s.heap H locs) (hsize : ls.size = c.maxLocals)
    (d0 : decode cc pc = .ok (.new ik, 3)) (d3 : decode cc (pc + 3) = .ok (.dup, 1)) (d4 : decode cc (pc + 4) = .ok (.ldc is, 2)) (d6 : decode cc (pc + 6) = .ok (.invokespecial ic, 3)) (d9 : decode cc (pc + 9) = .ok (.athrow, 1))
    (hout : ∀ x ∈ c.exceptionTable.toList, covers x (pc + 9) = false)
    (hRframes : names.length + 4 < R.frames) (hRlocals : (rest.map fun v => v.category).sum + (13 * (names.length + 1 + 1) + 43) ≤ R.locals) (hRcells : cells + 1 ≤ R.cells) (hRslots : slots + 6 ≤ R.slots) (hlocks : meth.locks = false)
    (hx : ∀ t : State, s.vm.Alike t.vm → H.size ≤ t.heap.size → (∀ q : Nat, q < H.size → t.heap[q]? = H[q]?) → XC cls s t)
    (hf : ∀ z ∈ locs, free z.base) (hc : cells + 1 ≤ mc) (hs : slots + 6 ≤ ms) :
    W p l e R s m args below meth c H locs cells slots (vx_MQ below Qc XC args s mc ms free) (F0 m pc ls rest) := by
  intro T hT X
  have htr : e.platform.stackTraces = false := (show e.platform.stackTraces = l.stackTraces by rw [X.admits.platform]).trans hl
  have Y := vx_rebase X (R' := { frames := R.frames, locals := R.locals, cells := 1, slots := 6 }) (Nat.le_refl _) (Nat.le_refl _) hRcells hRslots
  obtain ⟨s', hA⟩ : ∃ z, z = (T.setVm s.vm).setFrames (.invoking m args :: below) := ⟨_, rfl⟩
  rw [← hA] at Y
  have hvm : s'.vm = s.vm := by rw [hA]; rfl
  have hhp : s'.heap = H := by rw [hA]; exact hT
  have hW0 : s.WarmedH s'.vm := by rw [hvm]; exact State.WarmedH.refl s
  have hat' : ∀ w ∈ xAt own ic cls Y0 i0 b0 names, w.before args s' = true := fun w hw => vx_ot_at hW0 hvm.symm (hgood w (List.mem_cons_of_mem _ (List.mem_cons_of_mem _ hw))) (hat w hw)
  have hk' : (Cond.classLink own ik cls).before args s' = true := vx_ot_at hW0 hvm.symm (hgood _ List.mem_cons_self) hk
  have hini' : (Cond.initialized cls).before args s' = true := vx_ot_at hW0 hvm.symm (hgood _ (List.mem_cons_of_mem _ List.mem_cons_self)) hini
  have hU' : vx_Zq Bundle.tN "UNASSIGNED_STACK" Bundle.steD A s' s'.heap := by rw [hhp]; exact vx_Zq.moved hW0.alike (hU.kept hS.2.1)
  have hN' : vx_Zq Bundle.tN "SUPPRESSED_SENTINEL" Bundle.listD A s' s'.heap := by rw [hhp]; exact vx_Zq.moved hW0.alike (hN.kept hS.2.1)
  have h : ∀ w ∈ xOwn own ic cls Y0 i0 b0 names, w.before args s' = true := vx_own hat' (vx_isRefq hU'.1) (vx_isRefq hN'.1) hU'.2.word hN'.2.word
  have hown' : s'.vm.findClass own = some m.cls := by rw [hvm]; exact hown
  have hins : (Cond.instantiable cls 6).before args s' = true := h _ (by simp [xOwn])
  obtain ⟨vm₁, cX, kX, hfX, hkX, -, -, X₁, st1⟩ := Y.newCold hexec (own := own) (C := cls) (index := ik) (n := 6) hown' hk' hins hini'
    (g := F0 m pc ls rest) rfl (by rw [hb]; exact d0) (Nat.le_refl _) (Nat.le_refl _)
  generalize hT1 : (T.setVm vm₁).pushCell { cls := cX, slots := kX.instanceTypes.map defaultValue, vm := .none } = T1 at X₁ st1
  have hcat : (Value.ref T.heap.size).category = 1 := rfl
  have hcellA : T1.heap[T.heap.size]? = some (freshCell cX kX) := by rw [← hT1]; exact State.heap_pushCell_size _ _
  have d3' : decode c.code (pc + 3) = .ok (.dup, 1) := by rw [hb]; exact d3
  have d4' : decode c.code (pc + 4) = .ok (.ldc is, 2) := by rw [hb]; exact d4
  have hstr' : vk_R own is text sa s' := vk_R.warm hW0 hstr
  obtain ⟨U, hsteps, hrun, hend, hW, hsame, ce, hce, hOv, hOc⟩ := x_ctor X₁ hexec htr (own := own) (cls := cls) (names := names) (ic := ic) hb0 hb1 hb2 hb5 hown' hcls hY0 hnames h (fun x hx => nomatch hx) hfX hkX hcellA (by rw [hhp, hT]; exact Nat.le_refl _) (msg := .ref sa) rfl
    (g := { method := m, pc := pc + 6, locals := ls, stack := .ref sa :: .ref T.heap.size :: .ref T.heap.size :: rest, locked := none }) rfl hsize rfl rfl (rest := rest) rfl
    (by rw [hb]; exact d6) (by rw [hb]; exact d9) hout hRframes (by simp only [List.map_cons, List.sum_cons, hcat]; omega) hlocks
  obtain ⟨f1, f2⟩ := vx_frame hsame
  rw [hhp] at f1 f2
  have hWs : s.WarmedH U.vm := State.WarmedH.trans hW0 hW
  have hcl : s.vm.findClass cls = some ce.cls := by
    have h9 := hOc
    rw [hvm] at h9
    exact h9
  have hall : s.sameButNew ({ U with vm := s.vm } : State) locs mc ms := by
    subst hA
    obtain ⟨e1, e2⟩ := hsame
    rw [State.setFrames_setFrames] at e1
    have h2 : (T.setVm s.vm).sameButNew ({ U with vm := s.vm } : State) [] (0 + 1) (0 + 6) := ⟨e1, e2⟩
    have h3 := X.same.trans h2
    rw [List.append_nil] at h3
    exact h3.mono hc hs
  refine ⟨U, ?_, .threw T.heap.size, hrun, hend, Or.inr ⟨T.heap.size, rfl, cls, ce, locs, hx U hWs.alike f1 (fun q hq => f2 q hq (fun z hz => nomatch hz)), hce, hOv, hcl, hWs, hall, hf⟩⟩
  refine st1 _ ?_
  show Steps p.tables e below (T1.setTop { method := m, pc := pc + 3, locals := ls, stack := .ref T.heap.size :: rest, locked := none }) _
  jvm_step X₁.here [X₁.here.top, hexec, d3', Value.category]
  exact X₁.ldcString hexec (own := own) (text := text) (index := is) (a := sa) hown' hstr'.1 hstr'.2
    (g := { method := m, pc := pc + 4, locals := ls, stack := .ref T.heap.size :: .ref T.heap.size :: rest, locked := none }) rfl d4' _ hsteps
theorem x_throwSW {cc : ByteArray} {pc : Nat} (hexec : p.tables.exec = Jvm.exec) (hb : c.code = cc) (hl : l.stackTraces = false) {own cls Y0 text : String} {i0 : Nat} {b0 : ByteArray} (hb0 : decode b0 0 = .ok (.aload_n 0, 1)) (hb1 : decode b0 1 = .ok (.aload_n 1, 1)) (hb2 : decode b0 2 = .ok (.invokespecial i0, 3)) (hb5 : decode b0 5 = .ok (.return_, 1)) (hY0 : Bundle.fit Y0 = true) {names : List String} {ik is ic mc ms sa : Nat} {A : Nat → Prop}
    (hown : s.vm.findClass own = some m.cls) (hcls : Bundle.fit cls = true) (hnames : ∀ n ∈ names, Bundle.fit n = true)
    (hk : (Cond.classLink own ik cls).before args s = true) (hini : (Cond.initialized cls).before args s = true) (hstr : vk_R own is text sa s) (hat : ∀ w ∈ xAt own ic cls Y0 i0 b0 names, w.before args s = true)
    (hgood : ∀ w ∈ Cond.classLink own ik cls :: Cond.initialized cls :: xAt own ic cls Y0 i0 b0 names, vx_ot w = true)
    (hU : vx_Zq Bundle.tN "UNASSIGNED_STACK" Bundle.steD A s s.heap) (hN : vx_Zq Bundle.tN "SUPPRESSED_SENTINEL" Bundle.listD A s s.heap) (hS : va_S A s.heap H locs) (hsize : ls.size = c.maxLocals)
    (d0 : decode cc pc = .ok (.new ik, 3)) (d3 : decode cc (pc + 3) = .ok (.dup, 1)) (d4 : decode cc (pc + 4) = .ok (.ldc_w is, 3)) (d7 : decode cc (pc + 7) = .ok (.invokespecial ic, 3)) (d10 : decode cc (pc + 10) = .ok (.athrow, 1))
    (hout : ∀ x ∈ c.exceptionTable.toList, covers x (pc + 10) = false)
    (hRframes : names.length + 4 < R.frames) (hRlocals : (rest.map fun v => v.category).sum + (13 * (names.length + 1 + 1) + 43) ≤ R.locals) (hRcells : cells + 1 ≤ R.cells) (hRslots : slots + 6 ≤ R.slots) (hlocks : meth.locks = false)
    (hx : ∀ t : State, s.vm.Alike t.vm → H.size ≤ t.heap.size → (∀ q : Nat, q < H.size → t.heap[q]? = H[q]?) → XC cls s t)
    (hf : ∀ z ∈ locs, free z.base) (hc : cells + 1 ≤ mc) (hs : slots + 6 ≤ ms) :
    W p l e R s m args below meth c H locs cells slots (vx_MQ below Qc XC args s mc ms free) (F0 m pc ls rest) := by
  intro T hT X
  have htr : e.platform.stackTraces = false := (show e.platform.stackTraces = l.stackTraces by rw [X.admits.platform]).trans hl
  have Y := vx_rebase X (R' := { frames := R.frames, locals := R.locals, cells := 1, slots := 6 }) (Nat.le_refl _) (Nat.le_refl _) hRcells hRslots
  obtain ⟨s', hA⟩ : ∃ z, z = (T.setVm s.vm).setFrames (.invoking m args :: below) := ⟨_, rfl⟩
  rw [← hA] at Y
  have hvm : s'.vm = s.vm := by rw [hA]; rfl
  have hhp : s'.heap = H := by rw [hA]; exact hT
  have hW0 : s.WarmedH s'.vm := by rw [hvm]; exact State.WarmedH.refl s
  have hat' : ∀ w ∈ xAt own ic cls Y0 i0 b0 names, w.before args s' = true := fun w hw => vx_ot_at hW0 hvm.symm (hgood w (List.mem_cons_of_mem _ (List.mem_cons_of_mem _ hw))) (hat w hw)
  have hk' : (Cond.classLink own ik cls).before args s' = true := vx_ot_at hW0 hvm.symm (hgood _ List.mem_cons_self) hk
  have hini' : (Cond.initialized cls).before args s' = true := vx_ot_at hW0 hvm.symm (hgood _ (List.mem_cons_of_mem _ List.mem_cons_self)) hini
  have hU' : vx_Zq Bundle.tN "UNASSIGNED_STACK" Bundle.steD A s' s'.heap := by rw [hhp]; exact vx_Zq.moved hW0.alike (hU.kept hS.2.1)
  have hN' : vx_Zq Bundle.tN "SUPPRESSED_SENTINEL" Bundle.listD A s' s'.heap := by rw [hhp]; exact vx_Zq.moved hW0.alike (hN.kept hS.2.1)
  have h : ∀ w ∈ xOwn own ic cls Y0 i0 b0 names, w.before args s' = true := vx_own hat' (vx_isRefq hU'.1) (vx_isRefq hN'.1) hU'.2.word hN'.2.word
  have hown' : s'.vm.findClass own = some m.cls := by rw [hvm]; exact hown
  have hins : (Cond.instantiable cls 6).before args s' = true := h _ (by simp [xOwn])
  obtain ⟨vm₁, cX, kX, hfX, hkX, -, -, X₁, st1⟩ := Y.newCold hexec (own := own) (C := cls) (index := ik) (n := 6) hown' hk' hins hini'
    (g := F0 m pc ls rest) rfl (by rw [hb]; exact d0) (Nat.le_refl _) (Nat.le_refl _)
  generalize hT1 : (T.setVm vm₁).pushCell { cls := cX, slots := kX.instanceTypes.map defaultValue, vm := .none } = T1 at X₁ st1
  have hcat : (Value.ref T.heap.size).category = 1 := rfl
  have hcellA : T1.heap[T.heap.size]? = some (freshCell cX kX) := by rw [← hT1]; exact State.heap_pushCell_size _ _
  have d3' : decode c.code (pc + 3) = .ok (.dup, 1) := by rw [hb]; exact d3
  have d4' : decode c.code (pc + 4) = .ok (.ldc_w is, 3) := by rw [hb]; exact d4
  have hstr' : vk_R own is text sa s' := vk_R.warm hW0 hstr
  obtain ⟨U, hsteps, hrun, hend, hW, hsame, ce, hce, hOv, hOc⟩ := x_ctor X₁ hexec htr (own := own) (cls := cls) (names := names) (ic := ic) hb0 hb1 hb2 hb5 hown' hcls hY0 hnames h (fun x hx => nomatch hx) hfX hkX hcellA (by rw [hhp, hT]; exact Nat.le_refl _) (msg := .ref sa) rfl
    (g := { method := m, pc := pc + 7, locals := ls, stack := .ref sa :: .ref T.heap.size :: .ref T.heap.size :: rest, locked := none }) rfl hsize rfl rfl (rest := rest) rfl
    (by rw [hb]; exact d7) (by rw [hb]; exact d10) hout hRframes (by simp only [List.map_cons, List.sum_cons, hcat]; omega) hlocks
  obtain ⟨f1, f2⟩ := vx_frame hsame
  rw [hhp] at f1 f2
  have hWs : s.WarmedH U.vm := State.WarmedH.trans hW0 hW
  have hcl : s.vm.findClass cls = some ce.cls := by
    have h9 := hOc
    rw [hvm] at h9
    exact h9
  have hall : s.sameButNew ({ U with vm := s.vm } : State) locs mc ms := by
    subst hA
    obtain ⟨e1, e2⟩ := hsame
    rw [State.setFrames_setFrames] at e1
    have h2 : (T.setVm s.vm).sameButNew ({ U with vm := s.vm } : State) [] (0 + 1) (0 + 6) := ⟨e1, e2⟩
    have h3 := X.same.trans h2
    rw [List.append_nil] at h3
    exact h3.mono hc hs
  refine ⟨U, ?_, .threw T.heap.size, hrun, hend, Or.inr ⟨T.heap.size, rfl, cls, ce, locs, hx U hWs.alike f1 (fun q hq => f2 q hq (fun z hz => nomatch hz)), hce, hOv, hcl, hWs, hall, hf⟩⟩
  refine st1 _ ?_
  show Steps p.tables e below (T1.setTop { method := m, pc := pc + 3, locals := ls, stack := .ref T.heap.size :: rest, locked := none }) _
  jvm_step X₁.here [X₁.here.top, hexec, d3', Value.category]
  exact X₁.ldcStringW hexec (own := own) (text := text) (index := is) (a := sa) hown' hstr'.1 hstr'.2
    (g := { method := m, pc := pc + 4, locals := ls, stack := .ref T.heap.size :: .ref T.heap.size :: rest, locked := none }) rfl d4' _ hsteps
end XCT
end
section
section KX
def kEx (b : Bool) : String := if b = true then "java/util/NoSuchElementException" else "java/lang/IllegalArgumentException"
def kpx {α : Type} (X : α ⊕ (Bool × Km)) (w : Km) : Prop := match X with
  | .inl _ => False
  | .inr e => ∃ n, kn e.2 ≤ n ∧ w = ksn e.2 n
def kBX {α : Type} (Wd : Km → State → Heap → Prop) (X : α ⊕ (Bool × Km)) : String → Km → State → Prop := fun E w t => (match X with
  | .inl _ => False
  | .inr e => E = kEx e.1) ∧ Wd w t t.heap
def xC {α : Type} (Wd : Km → State → Heap → Prop) (A : Nat → Prop) (X : α ⊕ (Bool × Km)) : String → State → State → Prop := vx_X (kpx X) (kBX Wd X) A
def xQi (Wd : Km → State → Heap → Prop) (A : Nat → Prop) (X : (Int32 × Km) ⊕ (Bool × Km)) : Array Value → State → Outcome → State → Prop := va_Qi (fun r u => X = .inl (r, u)) (fun u t => Wd u t t.heap) A
def xQv (Wd : Km → State → Heap → Prop) (A : Nat → Prop) (X : Km ⊕ (Bool × Km)) : Array Value → State → Outcome → State → Prop := va_Qv (fun u => X = .inl u) (fun u t => Wd u t t.heap) A
def xQq (Wd : Km → State → Heap → Prop) (A : Nat → Prop) (X : (Option Nat × Km) ⊕ (Bool × Km)) : Array Value → State → Outcome → State → Prop := va_Qq (fun r u => X = .inl (r, u)) (fun u t => Wd u t t.heap) A
def bxi {β : Type} (o : Option ((Int32 × Km) ⊕ (Bool × Km))) (k : Int32 → Km → Option (β ⊕ (Bool × Km))) : Option (β ⊕ (Bool × Km)) := match o with
  | none => none
  | some (.inl v) => k v.1 v.2
  | some (.inr e) => some (.inr e)
def bxv {β : Type} (o : Option (Km ⊕ (Bool × Km))) (k : Km → Option (β ⊕ (Bool × Km))) : Option (β ⊕ (Bool × Km)) := match o with
  | none => none
  | some (.inl v) => k v
  | some (.inr e) => some (.inr e)
def bxq {β : Type} (o : Option ((Option Nat × Km) ⊕ (Bool × Km))) (k : Option Nat → Km → Option (β ⊕ (Bool × Km))) : Option (β ⊕ (Bool × Km)) := match o with
  | none => none
  | some (.inl v) => k v.1 v.2
  | some (.inr e) => some (.inr e)
def gXi (l : Launch) (y : MethodName) (cc : ByteArray) (n : Nat) (ret : Option FieldType) (rm : Room) (Ke : State → Prop) (Wd : Km → State → Heap → Prop) (A : Nat → Prop) (av : List Value) (σ : Km) (o : Option ((Int32 × Km) ⊕ (Bool × Km))) : Prop := ∀ X, o = some X → vx_Met l y (wt y cc n ret) rm (gPre Ke Wd av σ) (xQi Wd A X) (xC Wd A X) rm.cells rm.slots A
def gXv (l : Launch) (y : MethodName) (cc : ByteArray) (n : Nat) (ret : Option FieldType) (rm : Room) (Ke : State → Prop) (Wd : Km → State → Heap → Prop) (A : Nat → Prop) (av : List Value) (σ : Km) (o : Option (Km ⊕ (Bool × Km))) : Prop := ∀ X, o = some X → vx_Met l y (wt y cc n ret) rm (gPre Ke Wd av σ) (xQv Wd A X) (xC Wd A X) rm.cells rm.slots A
def gXq (l : Launch) (y : MethodName) (cc : ByteArray) (n : Nat) (ret : Option FieldType) (rm : Room) (Ke : State → Prop) (Wd : Km → State → Heap → Prop) (A : Nat → Prop) (av : List Value) (σ : Km) (o : Option ((Option Nat × Km) ⊕ (Bool × Km))) : Prop := ∀ X, o = some X → vx_Met l y (wt y cc n ret) rm (gPre Ke Wd av σ) (xQq Wd A X) (xC Wd A X) rm.cells rm.slots A
def xI (j : Nat) : Nat := match j with
  | 0 => 58
  | 1 => 69
  | 2 => 75
  | 3 => 299
  | 4 => 84
  | 5 => 87
  | 6 => 99
  | 7 => 305
  | 8 => 129
  | 9 => 132
  | 10 => 138
  | 11 => 301
  | 12 => 303
  | 13 => 160
  | 14 => 177
  | 15 => 307
  | 16 => 228
  | 17 => 230
  | 18 => 253
  | 19 => 265
  | 20 => 279
  | 21 => 297
  | _ => 0
def xT (j : Nat) : String := match j with
  | 0 => "no such month, or none of ours"
  | 1 => "no such day of the month"
  | 2 => "after the last day"
  | 3 => "no such day"
  | 4 => "no such part of a date"
  | 5 => "no such number of months"
  | 6 => "the tape has not so many bytes"
  | 7 => "no such thing"
  | 8 => "no such fact"
  | 9 => "no such value of a fact"
  | 10 => "no such event"
  | 11 => "no such field"
  | 12 => "no such store"
  | 13 => "no such days to sweep on"
  | 14 => "no such hold"
  | 15 => "no such set"
  | 16 => "no such part of a span"
  | 17 => "no such lost rule"
  | 18 => "no such rule"
  | 19 => "no such number of days"
  | 20 => "no such part of a line"
  | 21 => "no such count"
  | _ => ""
abbrev xNm : List String := ["java/lang/Exception"]
def xi0 (b : Bool) : Nat := if b = true then 13 else 7
def xb0 (b : Bool) : ByteArray := if b = true then ⟨#[0x2a, 0x2b, 0xb7, 0x00, 0x0d, 0xb1]⟩ else ⟨#[0x2a, 0x2b, 0xb7, 0x00, 0x07, 0xb1]⟩
def xLs (b : Bool) (ic : Nat) : List Cond := xAt "KeepForget" ic (kEx b) "java/lang/RuntimeException" (xi0 b) (xb0 b) xNm
theorem xb_0 (b : Bool) : decode (xb0 b) 0 = .ok (.aload_n 0, 1) := by cases b <;> decide +kernel
theorem xb_1 (b : Bool) : decode (xb0 b) 1 = .ok (.aload_n 1, 1) := by cases b <;> decide +kernel
theorem xb_2 (b : Bool) : decode (xb0 b) 2 = .ok (.invokespecial (xi0 b), 3) := by cases b <;> decide +kernel
theorem xb_5 (b : Bool) : decode (xb0 b) 5 = .ok (.return_, 1) := by cases b <;> decide +kernel
def xB : List Cond := [.castable "java/lang/IllegalArgumentException" "java/lang/IllegalArgumentException", .castable "java/util/NoSuchElementException" "java/util/NoSuchElementException", .declares ⟨"java/lang/RuntimeException", "<init>", "(Ljava/lang/String;)V"⟩, .declares ⟨"java/lang/Exception", "<init>", "(Ljava/lang/String;)V"⟩, .declares ⟨"java/lang/Throwable", "<init>", "(Ljava/lang/String;)V"⟩]
theorem xB_ot : ∀ w ∈ xB, w.onTables = true := by decide +kernel
def xAO : List String := ["KeepForget$Hold", "KeepForget$Rule", "KeepForget$RuleSet", "KeepForget$Sweeper", "KeepForget$Thing"]
def dB : List Int32 := [0, 31, 59, 90, 120, 151, 181, 212, 243, 273, 304, 334]
def xSt (l : Launch) (Ke : State → Prop) (E : State → Heap → Prop) (A : Nat → Prop) (adM : Nat → Nat) (adD : Nat) : Prop := l.stackTraces = false ∧ (∀ U, Ke U → (∀ j, j < 22 → vk_R "KeepForget" (xI j) (xT j) (adM j) U) ∧ (∀ w ∈ xB, va_Nw w U) ∧ ∀ C ∈ xAO, va_AO C U) ∧ ∀ U H, E U H → vx_Zq Bundle.tN "UNASSIGNED_STACK" Bundle.steD A U H ∧ vx_Zq Bundle.tN "SUPPRESSED_SENTINEL" Bundle.listD A U H ∧ va_Z "KeepForget$Dates" "DAYS_BEFORE" "[I" (.ref adD) A U H ∧ va_T .int adD 12 (fun j => .int (dB.getD j 0)) A U H
theorem xat_true : ∀ w ∈ (xLs true 131).filter goodWord, w ∈ tb := by decide +kernel
theorem xan_true : ∀ w ∈ (xLs true 131).filter (fun w => !goodWord w), w ∈ xB := by decide +kernel
theorem xag_true : ∀ w ∈ Cond.classLink "KeepForget" 127 (kEx true) :: Cond.initialized (kEx true) :: xLs true 131, vx_ot w = true := by decide +kernel
theorem xat_false : ∀ w ∈ (xLs false 60).filter goodWord, w ∈ tb := by decide +kernel
theorem xan_false : ∀ w ∈ (xLs false 60).filter (fun w => !goodWord w), w ∈ xB := by decide +kernel
theorem xag_false : ∀ w ∈ Cond.classLink "KeepForget" 56 (kEx false) :: Cond.initialized (kEx false) :: xLs false 60, vx_ot w = true := by decide +kernel
def xAll (b : Bool) (ik ic : Nat) : Prop := (∀ w ∈ (xLs b ic).filter goodWord, w ∈ tb) ∧ (∀ w ∈ (xLs b ic).filter (fun w => !goodWord w), w ∈ xB) ∧ (∀ w ∈ Cond.classLink "KeepForget" ik (kEx b) :: Cond.initialized (kEx b) :: xLs b ic, vx_ot w = true) ∧ Cond.classLink "KeepForget" ik (kEx b) ∈ tb ∧ Cond.initialized (kEx b) ∈ tb ∧ Bundle.fit (kEx b) = true
theorem xAll_t : xAll true 127 131 := ⟨xat_true, xan_true, xag_true, tW_641, tW_20, by decide⟩
theorem xAll_f : xAll false 56 60 := ⟨xat_false, xan_false, xag_false, tW_240, tW_9, by decide⟩
/-- a world and cells that came behind it -/
theorem KW_later {D : va_G} {cA : Nat → ClassId} {E : State → Heap → Prop} {A : Nat → Prop} {μ : Km} {u U : State} {H H1 : Heap} (hE : mEok E A) (hvm : u.vm.Alike U.vm) (h : KW D cA E A μ u H) (hz : H.size ≤ H1.size) (oq : ∀ q, q < H.size → H1[q]? = H[q]?) : KW D cA E A (ksn μ H1.size) U H1 := by
  obtain ⟨h1, h2, h3, h4, h5⟩ := h
  refine ⟨h1.moved hvm, hE.1 _ _ _ hvm (hE.2 _ _ _ (fun q hq _ => oq q hq) h2), rfl, fun q hq => h4 q (by omega), fun b hb => ?_⟩
  have hb2 : kK μ b ≠ 0 := hb
  refine ⟨(h5 b hb2).1, ?_⟩
  have e : kE cA (ksn μ H1.size) b = kE cA μ b := kE_cong rfl rfl rfl rfl
  rw [e]
  exact (h5 b hb2).2.kept (oq b (h5 b hb2).2.lt)
variable {p : Program} {l : Launch} {e : Env} {R : Room} {s : State} {m : MethodId} {args : Array Value} {below : List Frame} {meth : Method} {c : Code}
variable {Rt : Type} {cc : ByteArray} {nL : Nat} {own : String} {Ts : List Cond} {A : Nat → Prop} {Ke : State → Prop} {D : va_G} {cA : Nat → ClassId} {E : State → Heap → Prop} {cells slots mc ms : Nat} {σ : Km} {pc : Nat} {lv : List (Nat × Value)} {st : List Value}
theorem g_xiret (h : gOk p s m args meth c cc nL own tb) (hE : mEok E A) (hr : meth.sig.returnType = some .int) (hc : cells ≤ mc) (hs : slots ≤ ms) {x : Int32} (hd : decode cc pc = .ok (.ireturn, 1)) : gS p l e R s m args below meth c nL A (KW D cA E A) (fun X => vx_MQ below (xQi (KW D cA E A) A X) (xC (KW D cA E A) A X) args s mc ms A) (cells) (slots) (some (.inl (x, σ))) σ pc lv [.int x] := by
  intro X hX H locs ls hw hS hl
  cases hX
  exact vx_ret (W.widen hc hs (W.iret (v := x) h.1.1 h.1.2.1 hr (fun t ht hW => ⟨⟨x, σ, rfl, rfl, by show KW D cA E A σ t t.heap; rw [ht]; exact KW_mv hE _ _ _ _ hW.alike hw⟩, hS.F ht⟩) hS.2.2 hd h.2))
theorem g_xzret (h : gOk p s m args meth c cc nL own tb) (hE : mEok E A) (hr : meth.sig.returnType = some .boolean) (hc : cells ≤ mc) (hs : slots ≤ ms) {x : Int32} (hz : okZ x = true) (hd : decode cc pc = .ok (.ireturn, 1)) : gS p l e R s m args below meth c nL A (KW D cA E A) (fun X => vx_MQ below (xQi (KW D cA E A) A X) (xC (KW D cA E A) A X) args s mc ms A) (cells) (slots) (some (.inl (x, σ))) σ pc lv [.int x] := by
  intro X hX H locs ls hw hS hl
  cases hX
  exact vx_ret (W.widen hc hs (W.zret (v := x) h.1.1 h.1.2.1 hr (okZ_nar hz) (fun t ht hW => ⟨⟨x, σ, rfl, rfl, by show KW D cA E A σ t t.heap; rw [ht]; exact KW_mv hE _ _ _ _ hW.alike hw⟩, hS.F ht⟩) hS.2.2 hd h.2))
theorem g_xvret (h : gOk p s m args meth c cc nL own tb) (hE : mEok E A) (hr : meth.sig.returnType = none) (hc : cells ≤ mc) (hs : slots ≤ ms) (hd : decode cc pc = .ok (.return_, 1)) : gS p l e R s m args below meth c nL A (KW D cA E A) (fun X => vx_MQ below (xQv (KW D cA E A) A X) (xC (KW D cA E A) A X) args s mc ms A) (cells) (slots) (some (.inl σ)) σ pc lv [] := by
  intro X hX H locs ls hw hS hl
  cases hX
  exact vx_ret (W.widen hc hs (W.vret h.1.1 h.1.2.1 hr (fun t ht hW => ⟨⟨σ, rfl, rfl, by show KW D cA E A σ t t.heap; rw [ht]; exact KW_mv hE _ _ _ _ hW.alike hw⟩, hS.F ht⟩) hS.2.2 hd h.2))
theorem g_xqret (h : gOk p s m args meth c cc nL own tb) (hE : mEok E A) {rt : FieldType} (hr : meth.sig.returnType = some rt) (href : rt.isReference = true) (hc : cells ≤ mc) (hs : slots ≤ ms) {r : Option Nat} (hd : decode cc pc = .ok (.areturn, 1)) : gS p l e R s m args below meth c nL A (KW D cA E A) (fun X => vx_MQ below (xQq (KW D cA E A) A X) (xC (KW D cA E A) A X) args s mc ms A) (cells) (slots) (some (.inl (r, σ))) σ pc lv [va_rf r] := by
  intro X hX H locs ls hw hS hl
  cases hX
  refine vx_ret (W.widen hc hs (W.aret (v := va_rf r) (rt := rt) h.1.1 h.1.2.1 hr ?_ ?_ (fun t ht hW => ⟨⟨r, σ, rfl, rfl, by show KW D cA E A σ t t.heap; rw [ht]; exact KW_mv hE _ _ _ _ hW.alike hw⟩, hS.F ht⟩) hS.2.2 hd h.2))
  all_goals (cases r <;> cases rt <;> first | (cases href; done) | rfl | exact Or.inl rfl | exact Or.inr ⟨_, rfl⟩ | exact Or.inl ⟨_, rfl⟩ | exact Or.inr rfl)
theorem g_throwi {adM : Nat → Nat} {adD : Nat} (h : gOk p s m args meth c cc nL "KeepForget" tb) (hE : mEok E A) (hKs : Ke s) (hX : xSt l Ke E A adM adD) (hE0 : E s s.heap) (hT : ∀ x ∈ c.exceptionTable.toList, False) (b : Bool) (j : Nat) (hj : j < 22) {ik ic is : Nat} (hall : xAll b ik ic) (his : xI j = is) (hRf : 5 < R.frames) (hRl : (st.map fun v => v.category).sum + 82 ≤ R.locals) (hRc : cells + 1 ≤ R.cells) (hRs : slots + 6 ≤ R.slots) (hc : cells + 1 ≤ mc) (hs : slots + 6 ≤ ms) (d0 : decode cc pc = .ok (.new ik, 3)) (d3 : decode cc (pc + 3) = .ok (.dup, 1)) (d4 : decode cc (pc + 4) = .ok (.ldc is, 2)) (d6 : decode cc (pc + 6) = .ok (.invokespecial ic, 3)) (d9 : decode cc (pc + 9) = .ok (.athrow, 1)) : gS p l e R s m args below meth c nL A (KW D cA E A) (fun X => vx_MQ below (xQi (KW D cA E A) A X) (xC (KW D cA E A) A X) args s mc ms A) (cells) (slots) (some (.inr (b, σ))) σ pc lv st := by
  intro X hX9 H locs ls hw hS hl
  cases hX9
  subst his
  obtain ⟨x1, x2, x3⟩ := hX
  obtain ⟨y1, y2, y3⟩ := x2 s hKs
  obtain ⟨z1, z2, -⟩ := x3 s s.heap hE0
  obtain ⟨a1, a2, a3, a4, a5, a6⟩ := hall
  have hts := h.1.2.2.2.2
  refine x_throwS (names := xNm) (Y0 := "java/lang/RuntimeException") h.1.1 h.1.2.1 x1 (xb_0 b) (xb_1 b) (xb_2 b) (xb_5 b) (by decide) h.1.2.2.2.1 a6 (by decide) (hts _ a4) (hts _ a5) (y1 j hj) (vx_hat (fun w hw => hts w (a1 w hw)) a2 (fun w hw => va_Nw.use (xB_ot w hw) (y2 w hw))) a3 z1 z2 hS (hl.1.trans h.1.2.2.1.symm) d0 d3 d4 d6 d9 (fun x hx => (hT x hx).elim) (by show 1 + 4 < _; omega) (by show _ + (13 * (1 + 1 + 1) + 43) ≤ _; omega) hRc hRs h.2 (fun t hvm hz hk => ⟨ksn σ t.heap.size, ⟨_, by rw [hw.2.2.1]; exact hz, rfl⟩, ⟨rfl, KW_later hE hvm hw hz hk⟩, Nat.le_trans hS.1 hz, fun q h1 h2 => (hk q (Nat.lt_of_lt_of_le h1 hS.1)).trans (hS.2.1 q h1 h2)⟩) hS.2.2 hc hs
theorem g_throwv {adM : Nat → Nat} {adD : Nat} (h : gOk p s m args meth c cc nL "KeepForget" tb) (hE : mEok E A) (hKs : Ke s) (hX : xSt l Ke E A adM adD) (hE0 : E s s.heap) (hT : ∀ x ∈ c.exceptionTable.toList, False) (b : Bool) (j : Nat) (hj : j < 22) {ik ic is : Nat} (hall : xAll b ik ic) (his : xI j = is) (hRf : 5 < R.frames) (hRl : (st.map fun v => v.category).sum + 82 ≤ R.locals) (hRc : cells + 1 ≤ R.cells) (hRs : slots + 6 ≤ R.slots) (hc : cells + 1 ≤ mc) (hs : slots + 6 ≤ ms) (d0 : decode cc pc = .ok (.new ik, 3)) (d3 : decode cc (pc + 3) = .ok (.dup, 1)) (d4 : decode cc (pc + 4) = .ok (.ldc is, 2)) (d6 : decode cc (pc + 6) = .ok (.invokespecial ic, 3)) (d9 : decode cc (pc + 9) = .ok (.athrow, 1)) : gS p l e R s m args below meth c nL A (KW D cA E A) (fun X => vx_MQ below (xQv (KW D cA E A) A X) (xC (KW D cA E A) A X) args s mc ms A) (cells) (slots) (some (.inr (b, σ))) σ pc lv st := by
  intro X hX9 H locs ls hw hS hl
  cases hX9
  subst his
  obtain ⟨x1, x2, x3⟩ := hX
  obtain ⟨y1, y2, y3⟩ := x2 s hKs
  obtain ⟨z1, z2, -⟩ := x3 s s.heap hE0
  obtain ⟨a1, a2, a3, a4, a5, a6⟩ := hall
  have hts := h.1.2.2.2.2
  refine x_throwS (names := xNm) (Y0 := "java/lang/RuntimeException") h.1.1 h.1.2.1 x1 (xb_0 b) (xb_1 b) (xb_2 b) (xb_5 b) (by decide) h.1.2.2.2.1 a6 (by decide) (hts _ a4) (hts _ a5) (y1 j hj) (vx_hat (fun w hw => hts w (a1 w hw)) a2 (fun w hw => va_Nw.use (xB_ot w hw) (y2 w hw))) a3 z1 z2 hS (hl.1.trans h.1.2.2.1.symm) d0 d3 d4 d6 d9 (fun x hx => (hT x hx).elim) (by show 1 + 4 < _; omega) (by show _ + (13 * (1 + 1 + 1) + 43) ≤ _; omega) hRc hRs h.2 (fun t hvm hz hk => ⟨ksn σ t.heap.size, ⟨_, by rw [hw.2.2.1]; exact hz, rfl⟩, ⟨rfl, KW_later hE hvm hw hz hk⟩, Nat.le_trans hS.1 hz, fun q h1 h2 => (hk q (Nat.lt_of_lt_of_le h1 hS.1)).trans (hS.2.1 q h1 h2)⟩) hS.2.2 hc hs
theorem g_throwq {adM : Nat → Nat} {adD : Nat} (h : gOk p s m args meth c cc nL "KeepForget" tb) (hE : mEok E A) (hKs : Ke s) (hX : xSt l Ke E A adM adD) (hE0 : E s s.heap) (hT : ∀ x ∈ c.exceptionTable.toList, False) (b : Bool) (j : Nat) (hj : j < 22) {ik ic is : Nat} (hall : xAll b ik ic) (his : xI j = is) (hRf : 5 < R.frames) (hRl : (st.map fun v => v.category).sum + 82 ≤ R.locals) (hRc : cells + 1 ≤ R.cells) (hRs : slots + 6 ≤ R.slots) (hc : cells + 1 ≤ mc) (hs : slots + 6 ≤ ms) (d0 : decode cc pc = .ok (.new ik, 3)) (d3 : decode cc (pc + 3) = .ok (.dup, 1)) (d4 : decode cc (pc + 4) = .ok (.ldc is, 2)) (d6 : decode cc (pc + 6) = .ok (.invokespecial ic, 3)) (d9 : decode cc (pc + 9) = .ok (.athrow, 1)) : gS p l e R s m args below meth c nL A (KW D cA E A) (fun X => vx_MQ below (xQq (KW D cA E A) A X) (xC (KW D cA E A) A X) args s mc ms A) (cells) (slots) (some (.inr (b, σ))) σ pc lv st := by
  intro X hX9 H locs ls hw hS hl
  cases hX9
  subst his
  obtain ⟨x1, x2, x3⟩ := hX
  obtain ⟨y1, y2, y3⟩ := x2 s hKs
  obtain ⟨z1, z2, -⟩ := x3 s s.heap hE0
  obtain ⟨a1, a2, a3, a4, a5, a6⟩ := hall
  have hts := h.1.2.2.2.2
  refine x_throwS (names := xNm) (Y0 := "java/lang/RuntimeException") h.1.1 h.1.2.1 x1 (xb_0 b) (xb_1 b) (xb_2 b) (xb_5 b) (by decide) h.1.2.2.2.1 a6 (by decide) (hts _ a4) (hts _ a5) (y1 j hj) (vx_hat (fun w hw => hts w (a1 w hw)) a2 (fun w hw => va_Nw.use (xB_ot w hw) (y2 w hw))) a3 z1 z2 hS (hl.1.trans h.1.2.2.1.symm) d0 d3 d4 d6 d9 (fun x hx => (hT x hx).elim) (by show 1 + 4 < _; omega) (by show _ + (13 * (1 + 1 + 1) + 43) ≤ _; omega) hRc hRs h.2 (fun t hvm hz hk => ⟨ksn σ t.heap.size, ⟨_, by rw [hw.2.2.1]; exact hz, rfl⟩, ⟨rfl, KW_later hE hvm hw hz hk⟩, Nat.le_trans hS.1 hz, fun q h1 h2 => (hk q (Nat.lt_of_lt_of_le h1 hS.1)).trans (hS.2.1 q h1 h2)⟩) hS.2.2 hc hs
theorem g_throwWi {adM : Nat → Nat} {adD : Nat} (h : gOk p s m args meth c cc nL "KeepForget" tb) (hE : mEok E A) (hKs : Ke s) (hX : xSt l Ke E A adM adD) (hE0 : E s s.heap) (hT : ∀ x ∈ c.exceptionTable.toList, False) (b : Bool) (j : Nat) (hj : j < 22) {ik ic is : Nat} (hall : xAll b ik ic) (his : xI j = is) (hRf : 5 < R.frames) (hRl : (st.map fun v => v.category).sum + 82 ≤ R.locals) (hRc : cells + 1 ≤ R.cells) (hRs : slots + 6 ≤ R.slots) (hc : cells + 1 ≤ mc) (hs : slots + 6 ≤ ms) (d0 : decode cc pc = .ok (.new ik, 3)) (d3 : decode cc (pc + 3) = .ok (.dup, 1)) (d4 : decode cc (pc + 4) = .ok (.ldc_w is, 3)) (d6 : decode cc (pc + 7) = .ok (.invokespecial ic, 3)) (d9 : decode cc (pc + 10) = .ok (.athrow, 1)) : gS p l e R s m args below meth c nL A (KW D cA E A) (fun X => vx_MQ below (xQi (KW D cA E A) A X) (xC (KW D cA E A) A X) args s mc ms A) (cells) (slots) (some (.inr (b, σ))) σ pc lv st := by
  intro X hX9 H locs ls hw hS hl
  cases hX9
  subst his
  obtain ⟨x1, x2, x3⟩ := hX
  obtain ⟨y1, y2, y3⟩ := x2 s hKs
  obtain ⟨z1, z2, -⟩ := x3 s s.heap hE0
  obtain ⟨a1, a2, a3, a4, a5, a6⟩ := hall
  have hts := h.1.2.2.2.2
  refine x_throwSW (names := xNm) (Y0 := "java/lang/RuntimeException") h.1.1 h.1.2.1 x1 (xb_0 b) (xb_1 b) (xb_2 b) (xb_5 b) (by decide) h.1.2.2.2.1 a6 (by decide) (hts _ a4) (hts _ a5) (y1 j hj) (vx_hat (fun w hw => hts w (a1 w hw)) a2 (fun w hw => va_Nw.use (xB_ot w hw) (y2 w hw))) a3 z1 z2 hS (hl.1.trans h.1.2.2.1.symm) d0 d3 d4 d6 d9 (fun x hx => (hT x hx).elim) (by show 1 + 4 < _; omega) (by show _ + (13 * (1 + 1 + 1) + 43) ≤ _; omega) hRc hRs h.2 (fun t hvm hz hk => ⟨ksn σ t.heap.size, ⟨_, by rw [hw.2.2.1]; exact hz, rfl⟩, ⟨rfl, KW_later hE hvm hw hz hk⟩, Nat.le_trans hS.1 hz, fun q h1 h2 => (hk q (Nat.lt_of_lt_of_le h1 hS.1)).trans (hS.2.1 q h1 h2)⟩) hS.2.2 hc hs
theorem g_throwWv {adM : Nat → Nat} {adD : Nat} (h : gOk p s m args meth c cc nL "KeepForget" tb) (hE : mEok E A) (hKs : Ke s) (hX : xSt l Ke E A adM adD) (hE0 : E s s.heap) (hT : ∀ x ∈ c.exceptionTable.toList, False) (b : Bool) (j : Nat) (hj : j < 22) {ik ic is : Nat} (hall : xAll b ik ic) (his : xI j = is) (hRf : 5 < R.frames) (hRl : (st.map fun v => v.category).sum + 82 ≤ R.locals) (hRc : cells + 1 ≤ R.cells) (hRs : slots + 6 ≤ R.slots) (hc : cells + 1 ≤ mc) (hs : slots + 6 ≤ ms) (d0 : decode cc pc = .ok (.new ik, 3)) (d3 : decode cc (pc + 3) = .ok (.dup, 1)) (d4 : decode cc (pc + 4) = .ok (.ldc_w is, 3)) (d6 : decode cc (pc + 7) = .ok (.invokespecial ic, 3)) (d9 : decode cc (pc + 10) = .ok (.athrow, 1)) : gS p l e R s m args below meth c nL A (KW D cA E A) (fun X => vx_MQ below (xQv (KW D cA E A) A X) (xC (KW D cA E A) A X) args s mc ms A) (cells) (slots) (some (.inr (b, σ))) σ pc lv st := by
  intro X hX9 H locs ls hw hS hl
  cases hX9
  subst his
  obtain ⟨x1, x2, x3⟩ := hX
  obtain ⟨y1, y2, y3⟩ := x2 s hKs
  obtain ⟨z1, z2, -⟩ := x3 s s.heap hE0
  obtain ⟨a1, a2, a3, a4, a5, a6⟩ := hall
  have hts := h.1.2.2.2.2
  refine x_throwSW (names := xNm) (Y0 := "java/lang/RuntimeException") h.1.1 h.1.2.1 x1 (xb_0 b) (xb_1 b) (xb_2 b) (xb_5 b) (by decide) h.1.2.2.2.1 a6 (by decide) (hts _ a4) (hts _ a5) (y1 j hj) (vx_hat (fun w hw => hts w (a1 w hw)) a2 (fun w hw => va_Nw.use (xB_ot w hw) (y2 w hw))) a3 z1 z2 hS (hl.1.trans h.1.2.2.1.symm) d0 d3 d4 d6 d9 (fun x hx => (hT x hx).elim) (by show 1 + 4 < _; omega) (by show _ + (13 * (1 + 1 + 1) + 43) ≤ _; omega) hRc hRs h.2 (fun t hvm hz hk => ⟨ksn σ t.heap.size, ⟨_, by rw [hw.2.2.1]; exact hz, rfl⟩, ⟨rfl, KW_later hE hvm hw hz hk⟩, Nat.le_trans hS.1 hz, fun q h1 h2 => (hk q (Nat.lt_of_lt_of_le h1 hS.1)).trans (hS.2.1 q h1 h2)⟩) hS.2.2 hc hs
theorem g_throwWq {adM : Nat → Nat} {adD : Nat} (h : gOk p s m args meth c cc nL "KeepForget" tb) (hE : mEok E A) (hKs : Ke s) (hX : xSt l Ke E A adM adD) (hE0 : E s s.heap) (hT : ∀ x ∈ c.exceptionTable.toList, False) (b : Bool) (j : Nat) (hj : j < 22) {ik ic is : Nat} (hall : xAll b ik ic) (his : xI j = is) (hRf : 5 < R.frames) (hRl : (st.map fun v => v.category).sum + 82 ≤ R.locals) (hRc : cells + 1 ≤ R.cells) (hRs : slots + 6 ≤ R.slots) (hc : cells + 1 ≤ mc) (hs : slots + 6 ≤ ms) (d0 : decode cc pc = .ok (.new ik, 3)) (d3 : decode cc (pc + 3) = .ok (.dup, 1)) (d4 : decode cc (pc + 4) = .ok (.ldc_w is, 3)) (d6 : decode cc (pc + 7) = .ok (.invokespecial ic, 3)) (d9 : decode cc (pc + 10) = .ok (.athrow, 1)) : gS p l e R s m args below meth c nL A (KW D cA E A) (fun X => vx_MQ below (xQq (KW D cA E A) A X) (xC (KW D cA E A) A X) args s mc ms A) (cells) (slots) (some (.inr (b, σ))) σ pc lv st := by
  intro X hX9 H locs ls hw hS hl
  cases hX9
  subst his
  obtain ⟨x1, x2, x3⟩ := hX
  obtain ⟨y1, y2, y3⟩ := x2 s hKs
  obtain ⟨z1, z2, -⟩ := x3 s s.heap hE0
  obtain ⟨a1, a2, a3, a4, a5, a6⟩ := hall
  have hts := h.1.2.2.2.2
  refine x_throwSW (names := xNm) (Y0 := "java/lang/RuntimeException") h.1.1 h.1.2.1 x1 (xb_0 b) (xb_1 b) (xb_2 b) (xb_5 b) (by decide) h.1.2.2.2.1 a6 (by decide) (hts _ a4) (hts _ a5) (y1 j hj) (vx_hat (fun w hw => hts w (a1 w hw)) a2 (fun w hw => va_Nw.use (xB_ot w hw) (y2 w hw))) a3 z1 z2 hS (hl.1.trans h.1.2.2.1.symm) d0 d3 d4 d6 d9 (fun x hx => (hT x hx).elim) (by show 1 + 4 < _; omega) (by show _ + (13 * (1 + 1 + 1) + 43) ≤ _; omega) hRc hRs h.2 (fun t hvm hz hk => ⟨ksn σ t.heap.size, ⟨_, by rw [hw.2.2.1]; exact hz, rfl⟩, ⟨rfl, KW_later hE hvm hw hz hk⟩, Nat.le_trans hS.1 hz, fun q h1 h2 => (hk q (Nat.lt_of_lt_of_le h1 hS.1)).trans (hS.2.1 q h1 h2)⟩) hS.2.2 hc hs
theorem g_metxi {y : MethodName} {rm : Room} {maxL : Nat} {ret : Option FieldType} {av : List Value} {o : Option ((Int32 × Km) ⊕ (Bool × Km))} (hy : plainName y.cls = true) (hav : (lg_sl av).length ≤ maxL)
    (body : ∀ (p : Program) (e : Env) (s : State) (m : MethodId) (below : List Frame) (meth : Method) (c : Code), gOk p s m av.toArray meth c cc maxL y.cls tb → meth.sig.returnType = ret → Ke s → E s s.heap → (∀ x ∈ c.exceptionTable.toList, False) → gS p l e rm s m av.toArray below meth c maxL A (KW D cA E A) (fun X => vx_MQ below (xQi (KW D cA E A) A X) (xC (KW D cA E A) A X) av.toArray s rm.cells rm.slots A) 0 0 o σ 0 (lv_args 0 av) []) : gXi l y cc maxL ret rm Ke (KW D cA E A) A av σ o := by
  intro X hX
  refine vx_ofW (cc := cc) (maxL := maxL) (ret := ret) hy rfl ?_
  intro p e s m args below meth c s₁ B hml hT hv
  obtain ⟨rfl, hW0, hK0⟩ := hv
  have hl := lv_entry av (n := maxL) hav
  rw [lg_entry_eq]
  exact body p e s m below meth c ⟨⟨B.exec, B.bytes, hml, findClass_of_methodNamed B.named, fun w hw => atoms_spec (ws := wt y cc maxL ret) B.pre w (List.mem_cons_of_mem _ hw)⟩, B.notSynchronized⟩ B.returns hK0 hW0.2.1 hT X hX s.heap [] _ hW0 va_S.rf hl
theorem g_metxv {y : MethodName} {rm : Room} {maxL : Nat} {ret : Option FieldType} {av : List Value} {o : Option (Km ⊕ (Bool × Km))} (hy : plainName y.cls = true) (hav : (lg_sl av).length ≤ maxL)
    (body : ∀ (p : Program) (e : Env) (s : State) (m : MethodId) (below : List Frame) (meth : Method) (c : Code), gOk p s m av.toArray meth c cc maxL y.cls tb → meth.sig.returnType = ret → Ke s → E s s.heap → (∀ x ∈ c.exceptionTable.toList, False) → gS p l e rm s m av.toArray below meth c maxL A (KW D cA E A) (fun X => vx_MQ below (xQv (KW D cA E A) A X) (xC (KW D cA E A) A X) av.toArray s rm.cells rm.slots A) 0 0 o σ 0 (lv_args 0 av) []) : gXv l y cc maxL ret rm Ke (KW D cA E A) A av σ o := by
  intro X hX
  refine vx_ofW (cc := cc) (maxL := maxL) (ret := ret) hy rfl ?_
  intro p e s m args below meth c s₁ B hml hT hv
  obtain ⟨rfl, hW0, hK0⟩ := hv
  have hl := lv_entry av (n := maxL) hav
  rw [lg_entry_eq]
  exact body p e s m below meth c ⟨⟨B.exec, B.bytes, hml, findClass_of_methodNamed B.named, fun w hw => atoms_spec (ws := wt y cc maxL ret) B.pre w (List.mem_cons_of_mem _ hw)⟩, B.notSynchronized⟩ B.returns hK0 hW0.2.1 hT X hX s.heap [] _ hW0 va_S.rf hl
theorem g_metxq {y : MethodName} {rm : Room} {maxL : Nat} {ret : Option FieldType} {av : List Value} {o : Option ((Option Nat × Km) ⊕ (Bool × Km))} (hy : plainName y.cls = true) (hav : (lg_sl av).length ≤ maxL)
    (body : ∀ (p : Program) (e : Env) (s : State) (m : MethodId) (below : List Frame) (meth : Method) (c : Code), gOk p s m av.toArray meth c cc maxL y.cls tb → meth.sig.returnType = ret → Ke s → E s s.heap → (∀ x ∈ c.exceptionTable.toList, False) → gS p l e rm s m av.toArray below meth c maxL A (KW D cA E A) (fun X => vx_MQ below (xQq (KW D cA E A) A X) (xC (KW D cA E A) A X) av.toArray s rm.cells rm.slots A) 0 0 o σ 0 (lv_args 0 av) []) : gXq l y cc maxL ret rm Ke (KW D cA E A) A av σ o := by
  intro X hX
  refine vx_ofW (cc := cc) (maxL := maxL) (ret := ret) hy rfl ?_
  intro p e s m args below meth c s₁ B hml hT hv
  obtain ⟨rfl, hW0, hK0⟩ := hv
  have hl := lv_entry av (n := maxL) hav
  rw [lg_entry_eq]
  exact body p e s m below meth c ⟨⟨B.exec, B.bytes, hml, findClass_of_methodNamed B.named, fun w hw => atoms_spec (ws := wt y cc maxL ret) B.pre w (List.mem_cons_of_mem _ hw)⟩, B.notSynchronized⟩ B.returns hK0 hW0.2.1 hT X hX s.heap [] _ hW0 va_S.rf hl
theorem vx_callq9 {H : Heap} {locs : List Loc} {Q : State → Prop} {free : Addr → Prop} {A0 A1 : Nat → Prop} {H0 : Heap} {a : Array Value} {ls : Array Slot} {st0 rest : List Value} {S SX : Type} {post : Option Nat → S → Prop} {px : SX → Prop} {B : S → State → Prop} {BX : String → SX → State → Prop} {AX : Nat → Prop} (hr : vx_Run p l e R s m args below meth c H locs cells slots mc ms (F0 m pc ls st0) rest (va_Qq post B A1 a) (vx_X px BX AX) free) (hS : va_S A0 H0 H locs) (hA : ∀ q, q < H.size → A1 q → A0 q) (hf : ∀ q, free q → A0 q) (hAX : ∀ q, q < H.size → AX q → A0 q)
    (kx : ∀ (E : String) (ce : Cell) (q9 : Addr) (u : SX) (t : State) (H1 : Heap) (locs1 : List Loc), t.heap = H1 → s.vm.Alike t.vm → px u → BX E u t → H.size ≤ H1.size → (∀ q : Nat, q < H.size → ¬ AX q → H1[q]? = H[q]?) → va_S A0 H0 H1 locs1 → H1[q9]? = some ce → ce.vm = .none → s.vm.findClass E = some ce.cls → vx_W p l e R s m args below meth c H1 locs1 (cells + mc) (slots + ms) Q (F0 m pc ls rest) q9)
    (kk : ∀ (r : Option Nat) (u : S) (t : State) (H1 : Heap) (locs1 : List Loc), t.heap = H1 → s.vm.Alike t.vm → post r u → B u t → H.size ≤ H1.size → (∀ q : Nat, q < H.size → ¬ A1 q → H1[q]? = H[q]?) → va_S A0 H0 H1 locs1 → W p l e R s m args below meth c H1 locs1 (cells + mc) (slots + ms) Q (F0 m (pc + 3) ls (va_rf r :: rest))) : W p l e R s m args below meth c H locs cells slots Q (F0 m pc ls st0) := by
  intro T hT X
  rcases hr T hT X with ⟨v, st₀, t, T', L, h0, X', hL, e1, e2, ⟨⟨r, u, hv, hp, hb⟩, hF⟩, st⟩ | ⟨q, st₀, t, T', L, E, ce, h0, X', hL, e1, e2, ⟨u, hp, hb, hF⟩, hce, hcv, hcl, st⟩
  · cases hv
    obtain ⟨k1, k2, k3⟩ := vx_keep h0 e1 hS hA hf hL hF
    obtain ⟨t2, a1, b1⟩ := kk r u t T'.heap (locs ++ L) e1.symm (by rw [← e2]; exact X'.warmed.alike) hp hb k1 k2 k3 T' rfl X'
    exact ⟨t2, st t2 a1, b1⟩
  · obtain ⟨k1, k2, k3⟩ := vx_keep h0 e1 hS hAX hf hL hF
    obtain ⟨t2, a1, b1⟩ := kx E ce q u t T'.heap (locs ++ L) e1.symm (by rw [← e2]; exact X'.warmed.alike) hp hb k1 k2 k3 (by rw [e1]; exact hce) hcv hcl T' rfl X'
    exact ⟨t2, st.trans a1, b1⟩
variable {y : MethodName} {bytes : ByteArray} {maxL n index : Nat} {ret : Option FieldType} {rm : Room} {β : Type} {Qb : (β ⊕ (Bool × Km)) → Array Value → State → Outcome → State → Prop}
theorem g_xcallVi (h : gOk p s m args meth c cc nL own tb) (hE : mEok E A) (hkw : gKw Ke) (hKs : Ke s) (hT : ∀ x ∈ c.exceptionTable.toList, False) {C : String} {b : Nat} (As : List Value) {stk : List Value} {f : Option ((Int32 × Km) ⊕ (Bool × Km))} {k : Int32 → Km → Option (β ⊕ (Bool × Km))} (hM : gXi l y bytes maxL ret rm Ke (KW D cA E A) A (.ref b :: As) σ f) (hy : yOkV y bytes maxL ret C n) (hml : Cond.methodLink own index y ∈ tb) (hR : yRm rm R maxL) (hrc : ∀ H, KW D cA E A σ s H → ∃ cellB : Cell, H[b]? = some cellB ∧ cellB.vm.isStatics = false ∧ s.vm.findClass C = some cellB.cls) (hn : As.length = n) (hst : stk = As.reverse ++ .ref b :: st) (hro : (st.map fun v => v.category).sum ≤ 8) (hd : decode cc pc = .ok (.invokevirtual index, 3)) (hf : cells + rm.cells ≤ R.cells ∧ slots + rm.slots ≤ R.slots) (hc : cells + rm.cells ≤ mc) (hs : slots + rm.slots ≤ ms) (kk : ∀ r u, gS p l e R s m args below meth c nL A (KW D cA E A) (fun X => vx_MQ below (Qb X) (xC (KW D cA E A) A X) args s mc ms A) (cells + rm.cells) (slots + rm.slots) (k r u) u (pc + 3) lv (.int r :: st)) : gS p l e R s m args below meth c nL A (KW D cA E A) (fun X => vx_MQ below (Qb X) (xC (KW D cA E A) A X) args s mc ms A) (cells) (slots) (bxi f k) σ pc lv stk := by
  intro X hX H locs ls hw hS hl
  subst hst
  cases hf0 : f with
  | none => rw [hf0] at hX; cases hX
  | some u0 =>
  rw [hf0] at hX
  refine vx_calli (vx_runV (As := As) (rest := st) h.1 (hM u0 hf0) (cwT h.1.2.2.2.2 hy hml hR) ⟨fun a U g mk q => ⟨q.1, KW_mv hE _ U (U.calling g mk a) _ (Vm.Alike.refl U.vm) q.2.1, hkw U (U.calling g mk a) (State.WarmedH.refl U) q.2.2⟩, hrc H hw, fun U hU hW => ⟨rfl, by rw [hU]; exact KW_mv hE _ _ _ _ hW.alike hw, hkw _ _ hW hKs⟩⟩ rfl hn hl.1 rfl (lv_room hro) hd hf) hS (fun q _ z => z) (fun q z => z) (fun q _ z => z) (fun E9 ce q9 u t H1 locs1 ht hvm hp hB hz hk hS1 hce hcv hcl => ?_) (fun r u t H1 locs1 ht hvm hp hB hz hk hS1 => ?_)
  · cases u0 with
    | inl v => exact hp.elim
    | inr e0 =>
      cases hX
      refine vx_out (fun x hx => (hT x hx).elim) h.2 hce hcv hcl (fun t2 ht2 hvm2 => ⟨u, hp, ⟨hB.1, ?_⟩, hS1.F ht2⟩) hS1.2.2 hc hs
      rw [ht2, ← ht]
      exact KW_mv hE _ _ _ _ (hvm.symm.trans hvm2) hB.2
  · subst hp
    exact kk r u X hX H1 locs1 ls (by rw [← ht]; exact KW_mv hE _ _ _ _ hvm.symm hB) hS1 hl
theorem g_xcallVv (h : gOk p s m args meth c cc nL own tb) (hE : mEok E A) (hkw : gKw Ke) (hKs : Ke s) (hT : ∀ x ∈ c.exceptionTable.toList, False) {C : String} {b : Nat} (As : List Value) {stk : List Value} {f : Option (Km ⊕ (Bool × Km))} {k : Km → Option (β ⊕ (Bool × Km))} (hM : gXv l y bytes maxL ret rm Ke (KW D cA E A) A (.ref b :: As) σ f) (hy : yOkV y bytes maxL ret C n) (hml : Cond.methodLink own index y ∈ tb) (hR : yRm rm R maxL) (hrc : ∀ H, KW D cA E A σ s H → ∃ cellB : Cell, H[b]? = some cellB ∧ cellB.vm.isStatics = false ∧ s.vm.findClass C = some cellB.cls) (hn : As.length = n) (hst : stk = As.reverse ++ .ref b :: st) (hro : (st.map fun v => v.category).sum ≤ 8) (hd : decode cc pc = .ok (.invokevirtual index, 3)) (hf : cells + rm.cells ≤ R.cells ∧ slots + rm.slots ≤ R.slots) (hc : cells + rm.cells ≤ mc) (hs : slots + rm.slots ≤ ms) (kk : ∀ u, gS p l e R s m args below meth c nL A (KW D cA E A) (fun X => vx_MQ below (Qb X) (xC (KW D cA E A) A X) args s mc ms A) (cells + rm.cells) (slots + rm.slots) (k u) u (pc + 3) lv (st)) : gS p l e R s m args below meth c nL A (KW D cA E A) (fun X => vx_MQ below (Qb X) (xC (KW D cA E A) A X) args s mc ms A) (cells) (slots) (bxv f k) σ pc lv stk := by
  intro X hX H locs ls hw hS hl
  subst hst
  cases hf0 : f with
  | none => rw [hf0] at hX; cases hX
  | some u0 =>
  rw [hf0] at hX
  refine vx_callv (vx_runV (As := As) (rest := st) h.1 (hM u0 hf0) (cwT h.1.2.2.2.2 hy hml hR) ⟨fun a U g mk q => ⟨q.1, KW_mv hE _ U (U.calling g mk a) _ (Vm.Alike.refl U.vm) q.2.1, hkw U (U.calling g mk a) (State.WarmedH.refl U) q.2.2⟩, hrc H hw, fun U hU hW => ⟨rfl, by rw [hU]; exact KW_mv hE _ _ _ _ hW.alike hw, hkw _ _ hW hKs⟩⟩ rfl hn hl.1 rfl (lv_room hro) hd hf) hS (fun q _ z => z) (fun q z => z) (fun q _ z => z) (fun E9 ce q9 u t H1 locs1 ht hvm hp hB hz hk hS1 hce hcv hcl => ?_) (fun u t H1 locs1 ht hvm hp hB hz hk hS1 => ?_)
  · cases u0 with
    | inl v => exact hp.elim
    | inr e0 =>
      cases hX
      refine vx_out (fun x hx => (hT x hx).elim) h.2 hce hcv hcl (fun t2 ht2 hvm2 => ⟨u, hp, ⟨hB.1, ?_⟩, hS1.F ht2⟩) hS1.2.2 hc hs
      rw [ht2, ← ht]
      exact KW_mv hE _ _ _ _ (hvm.symm.trans hvm2) hB.2
  · subst hp
    exact kk u X hX H1 locs1 ls (by rw [← ht]; exact KW_mv hE _ _ _ _ hvm.symm hB) hS1 hl
theorem g_xcallVq (h : gOk p s m args meth c cc nL own tb) (hE : mEok E A) (hkw : gKw Ke) (hKs : Ke s) (hT : ∀ x ∈ c.exceptionTable.toList, False) {C : String} {b : Nat} (As : List Value) {stk : List Value} {f : Option ((Option Nat × Km) ⊕ (Bool × Km))} {k : Option Nat → Km → Option (β ⊕ (Bool × Km))} (hM : gXq l y bytes maxL ret rm Ke (KW D cA E A) A (.ref b :: As) σ f) (hy : yOkV y bytes maxL ret C n) (hml : Cond.methodLink own index y ∈ tb) (hR : yRm rm R maxL) (hrc : ∀ H, KW D cA E A σ s H → ∃ cellB : Cell, H[b]? = some cellB ∧ cellB.vm.isStatics = false ∧ s.vm.findClass C = some cellB.cls) (hn : As.length = n) (hst : stk = As.reverse ++ .ref b :: st) (hro : (st.map fun v => v.category).sum ≤ 8) (hd : decode cc pc = .ok (.invokevirtual index, 3)) (hf : cells + rm.cells ≤ R.cells ∧ slots + rm.slots ≤ R.slots) (hc : cells + rm.cells ≤ mc) (hs : slots + rm.slots ≤ ms) (kk : ∀ r u, gS p l e R s m args below meth c nL A (KW D cA E A) (fun X => vx_MQ below (Qb X) (xC (KW D cA E A) A X) args s mc ms A) (cells + rm.cells) (slots + rm.slots) (k r u) u (pc + 3) lv (va_rf r :: st)) : gS p l e R s m args below meth c nL A (KW D cA E A) (fun X => vx_MQ below (Qb X) (xC (KW D cA E A) A X) args s mc ms A) (cells) (slots) (bxq f k) σ pc lv stk := by
  intro X hX H locs ls hw hS hl
  subst hst
  cases hf0 : f with
  | none => rw [hf0] at hX; cases hX
  | some u0 =>
  rw [hf0] at hX
  refine vx_callq9 (vx_runV (As := As) (rest := st) h.1 (hM u0 hf0) (cwT h.1.2.2.2.2 hy hml hR) ⟨fun a U g mk q => ⟨q.1, KW_mv hE _ U (U.calling g mk a) _ (Vm.Alike.refl U.vm) q.2.1, hkw U (U.calling g mk a) (State.WarmedH.refl U) q.2.2⟩, hrc H hw, fun U hU hW => ⟨rfl, by rw [hU]; exact KW_mv hE _ _ _ _ hW.alike hw, hkw _ _ hW hKs⟩⟩ rfl hn hl.1 rfl (lv_room hro) hd hf) hS (fun q _ z => z) (fun q z => z) (fun q _ z => z) (fun E9 ce q9 u t H1 locs1 ht hvm hp hB hz hk hS1 hce hcv hcl => ?_) (fun r u t H1 locs1 ht hvm hp hB hz hk hS1 => ?_)
  · cases u0 with
    | inl v => exact hp.elim
    | inr e0 =>
      cases hX
      refine vx_out (fun x hx => (hT x hx).elim) h.2 hce hcv hcl (fun t2 ht2 hvm2 => ⟨u, hp, ⟨hB.1, ?_⟩, hS1.F ht2⟩) hS1.2.2 hc hs
      rw [ht2, ← ht]
      exact KW_mv hE _ _ _ _ (hvm.symm.trans hvm2) hB.2
  · subst hp
    exact kk r u X hX H1 locs1 ls (by rw [← ht]; exact KW_mv hE _ _ _ _ hvm.symm hB) hS1 hl
theorem g_xcallSi (h : gOk p s m args meth c cc nL own tb) (hE : mEok E A) (hkw : gKw Ke) (hKs : Ke s) (hT : ∀ x ∈ c.exceptionTable.toList, False) (As : List Value) {stk : List Value} {f : Option ((Int32 × Km) ⊕ (Bool × Km))} {k : Int32 → Km → Option (β ⊕ (Bool × Km))} (hM : gXi l y bytes maxL ret rm Ke (KW D cA E A) A As σ f) (hy : yOkS y bytes maxL ret n) (hml : Cond.methodLink own index y ∈ tb) (hR : yRm rm R maxL) (hn : As.length = n) (hst : stk = As.reverse ++ st) (hro : (st.map fun v => v.category).sum ≤ 8) (hd : decode cc pc = .ok (.invokestatic index, 3)) (hf : cells + rm.cells ≤ R.cells ∧ slots + rm.slots ≤ R.slots) (hc : cells + rm.cells ≤ mc) (hs : slots + rm.slots ≤ ms) (kk : ∀ r u, gS p l e R s m args below meth c nL A (KW D cA E A) (fun X => vx_MQ below (Qb X) (xC (KW D cA E A) A X) args s mc ms A) (cells + rm.cells) (slots + rm.slots) (k r u) u (pc + 3) lv (.int r :: st)) : gS p l e R s m args below meth c nL A (KW D cA E A) (fun X => vx_MQ below (Qb X) (xC (KW D cA E A) A X) args s mc ms A) (cells) (slots) (bxi f k) σ pc lv stk := by
  intro X hX H locs ls hw hS hl
  subst hst
  cases hf0 : f with
  | none => rw [hf0] at hX; cases hX
  | some u0 =>
  rw [hf0] at hX
  refine vx_calli (vx_runS (As := As) (rest := st) h.1 (hM u0 hf0) (cwTS h.1.2.2.2.2 hy hml hR) ⟨fun a U g mk q => ⟨q.1, KW_mv hE _ U (U.calling g mk a) _ (Vm.Alike.refl U.vm) q.2.1, hkw U (U.calling g mk a) (State.WarmedH.refl U) q.2.2⟩, fun U hU hW => ⟨rfl, by rw [hU]; exact KW_mv hE _ _ _ _ hW.alike hw, hkw _ _ hW hKs⟩⟩ rfl hn hl.1 rfl (lv_room hro) hd hf) hS (fun q _ z => z) (fun q z => z) (fun q _ z => z) (fun E9 ce q9 u t H1 locs1 ht hvm hp hB hz hk hS1 hce hcv hcl => ?_) (fun r u t H1 locs1 ht hvm hp hB hz hk hS1 => ?_)
  · cases u0 with
    | inl v => exact hp.elim
    | inr e0 =>
      cases hX
      refine vx_out (fun x hx => (hT x hx).elim) h.2 hce hcv hcl (fun t2 ht2 hvm2 => ⟨u, hp, ⟨hB.1, ?_⟩, hS1.F ht2⟩) hS1.2.2 hc hs
      rw [ht2, ← ht]
      exact KW_mv hE _ _ _ _ (hvm.symm.trans hvm2) hB.2
  · subst hp
    exact kk r u X hX H1 locs1 ls (by rw [← ht]; exact KW_mv hE _ _ _ _ hvm.symm hB) hS1 hl
theorem g_xcallSv (h : gOk p s m args meth c cc nL own tb) (hE : mEok E A) (hkw : gKw Ke) (hKs : Ke s) (hT : ∀ x ∈ c.exceptionTable.toList, False) (As : List Value) {stk : List Value} {f : Option (Km ⊕ (Bool × Km))} {k : Km → Option (β ⊕ (Bool × Km))} (hM : gXv l y bytes maxL ret rm Ke (KW D cA E A) A As σ f) (hy : yOkS y bytes maxL ret n) (hml : Cond.methodLink own index y ∈ tb) (hR : yRm rm R maxL) (hn : As.length = n) (hst : stk = As.reverse ++ st) (hro : (st.map fun v => v.category).sum ≤ 8) (hd : decode cc pc = .ok (.invokestatic index, 3)) (hf : cells + rm.cells ≤ R.cells ∧ slots + rm.slots ≤ R.slots) (hc : cells + rm.cells ≤ mc) (hs : slots + rm.slots ≤ ms) (kk : ∀ u, gS p l e R s m args below meth c nL A (KW D cA E A) (fun X => vx_MQ below (Qb X) (xC (KW D cA E A) A X) args s mc ms A) (cells + rm.cells) (slots + rm.slots) (k u) u (pc + 3) lv (st)) : gS p l e R s m args below meth c nL A (KW D cA E A) (fun X => vx_MQ below (Qb X) (xC (KW D cA E A) A X) args s mc ms A) (cells) (slots) (bxv f k) σ pc lv stk := by
  intro X hX H locs ls hw hS hl
  subst hst
  cases hf0 : f with
  | none => rw [hf0] at hX; cases hX
  | some u0 =>
  rw [hf0] at hX
  refine vx_callv (vx_runS (As := As) (rest := st) h.1 (hM u0 hf0) (cwTS h.1.2.2.2.2 hy hml hR) ⟨fun a U g mk q => ⟨q.1, KW_mv hE _ U (U.calling g mk a) _ (Vm.Alike.refl U.vm) q.2.1, hkw U (U.calling g mk a) (State.WarmedH.refl U) q.2.2⟩, fun U hU hW => ⟨rfl, by rw [hU]; exact KW_mv hE _ _ _ _ hW.alike hw, hkw _ _ hW hKs⟩⟩ rfl hn hl.1 rfl (lv_room hro) hd hf) hS (fun q _ z => z) (fun q z => z) (fun q _ z => z) (fun E9 ce q9 u t H1 locs1 ht hvm hp hB hz hk hS1 hce hcv hcl => ?_) (fun u t H1 locs1 ht hvm hp hB hz hk hS1 => ?_)
  · cases u0 with
    | inl v => exact hp.elim
    | inr e0 =>
      cases hX
      refine vx_out (fun x hx => (hT x hx).elim) h.2 hce hcv hcl (fun t2 ht2 hvm2 => ⟨u, hp, ⟨hB.1, ?_⟩, hS1.F ht2⟩) hS1.2.2 hc hs
      rw [ht2, ← ht]
      exact KW_mv hE _ _ _ _ (hvm.symm.trans hvm2) hB.2
  · subst hp
    exact kk u X hX H1 locs1 ls (by rw [← ht]; exact KW_mv hE _ _ _ _ hvm.symm hB) hS1 hl
theorem g_xcallSq (h : gOk p s m args meth c cc nL own tb) (hE : mEok E A) (hkw : gKw Ke) (hKs : Ke s) (hT : ∀ x ∈ c.exceptionTable.toList, False) (As : List Value) {stk : List Value} {f : Option ((Option Nat × Km) ⊕ (Bool × Km))} {k : Option Nat → Km → Option (β ⊕ (Bool × Km))} (hM : gXq l y bytes maxL ret rm Ke (KW D cA E A) A As σ f) (hy : yOkS y bytes maxL ret n) (hml : Cond.methodLink own index y ∈ tb) (hR : yRm rm R maxL) (hn : As.length = n) (hst : stk = As.reverse ++ st) (hro : (st.map fun v => v.category).sum ≤ 8) (hd : decode cc pc = .ok (.invokestatic index, 3)) (hf : cells + rm.cells ≤ R.cells ∧ slots + rm.slots ≤ R.slots) (hc : cells + rm.cells ≤ mc) (hs : slots + rm.slots ≤ ms) (kk : ∀ r u, gS p l e R s m args below meth c nL A (KW D cA E A) (fun X => vx_MQ below (Qb X) (xC (KW D cA E A) A X) args s mc ms A) (cells + rm.cells) (slots + rm.slots) (k r u) u (pc + 3) lv (va_rf r :: st)) : gS p l e R s m args below meth c nL A (KW D cA E A) (fun X => vx_MQ below (Qb X) (xC (KW D cA E A) A X) args s mc ms A) (cells) (slots) (bxq f k) σ pc lv stk := by
  intro X hX H locs ls hw hS hl
  subst hst
  cases hf0 : f with
  | none => rw [hf0] at hX; cases hX
  | some u0 =>
  rw [hf0] at hX
  refine vx_callq9 (vx_runS (As := As) (rest := st) h.1 (hM u0 hf0) (cwTS h.1.2.2.2.2 hy hml hR) ⟨fun a U g mk q => ⟨q.1, KW_mv hE _ U (U.calling g mk a) _ (Vm.Alike.refl U.vm) q.2.1, hkw U (U.calling g mk a) (State.WarmedH.refl U) q.2.2⟩, fun U hU hW => ⟨rfl, by rw [hU]; exact KW_mv hE _ _ _ _ hW.alike hw, hkw _ _ hW hKs⟩⟩ rfl hn hl.1 rfl (lv_room hro) hd hf) hS (fun q _ z => z) (fun q z => z) (fun q _ z => z) (fun E9 ce q9 u t H1 locs1 ht hvm hp hB hz hk hS1 hce hcv hcl => ?_) (fun r u t H1 locs1 ht hvm hp hB hz hk hS1 => ?_)
  · cases u0 with
    | inl v => exact hp.elim
    | inr e0 =>
      cases hX
      refine vx_out (fun x hx => (hT x hx).elim) h.2 hce hcv hcl (fun t2 ht2 hvm2 => ⟨u, hp, ⟨hB.1, ?_⟩, hS1.F ht2⟩) hS1.2.2 hc hs
      rw [ht2, ← ht]
      exact KW_mv hE _ _ _ _ (hvm.symm.trans hvm2) hB.2
  · subst hp
    exact kk r u X hX H1 locs1 ls (by rw [← ht]; exact KW_mv hE _ _ _ _ hvm.symm hB) hS1 hl
end KX
end

section
-- ===== PART A: goes FIRST, ahead of the names: the tables' words, and 'selects' of the private methods out of them =====
/-- a private method of a class that the tables say can be made, by its rows of tables_1 -/
def lw_okq (q : MethodName × Nat) : Prop := (q.1.cls ≠ "java/lang/invoke/MethodHandle" ∧ q.1.cls ≠ "java/lang/invoke/VarHandle") ∧ Cond.instantiable q.1.cls q.2 ∈ tables_1 ∧ Cond.privateMethod q.1 ∈ tables_1 ∧ Cond.instanceMethod q.1 ∈ tables_1
theorem lw_p0 : lw_okq (⟨"StoryStates", "startAnew", "()V"⟩, 7) := ⟨⟨by decide +kernel, by decide +kernel⟩, List.mem_of_getElem? (i := 20) (by decide +kernel), List.mem_of_getElem? (i := 276) (by decide +kernel), List.mem_of_getElem? (i := 277) (by decide +kernel)⟩
theorem lw_p1 : lw_okq (⟨"StoryStates", "startPlay", "()V"⟩, 7) := ⟨⟨by decide +kernel, by decide +kernel⟩, List.mem_of_getElem? (i := 20) (by decide +kernel), List.mem_of_getElem? (i := 280) (by decide +kernel), List.mem_of_getElem? (i := 281) (by decide +kernel)⟩
theorem lw_p2 : lw_okq (⟨"java/lang/Throwable", "fillInStackTrace", "(I)Ljava/lang/Throwable;"⟩, 6) := ⟨⟨by decide +kernel, by decide +kernel⟩, List.mem_of_getElem? (i := 368) (by decide +kernel), List.mem_of_getElem? (i := 366) (by decide +kernel), List.mem_of_getElem? (i := 367) (by decide +kernel)⟩
theorem lw_p3 : lw_okq (⟨"StoryStates$Engine", "fittingRule", "(III)I"⟩, 5) := ⟨⟨by decide +kernel, by decide +kernel⟩, List.mem_of_getElem? (i := 28) (by decide +kernel), List.mem_of_getElem? (i := 611) (by decide +kernel), List.mem_of_getElem? (i := 612) (by decide +kernel)⟩
theorem lw_p4 : lw_okq (⟨"StoryStates$Engine", "isSeenOrNone", "(I)Z"⟩, 5) := ⟨⟨by decide +kernel, by decide +kernel⟩, List.mem_of_getElem? (i := 28) (by decide +kernel), List.mem_of_getElem? (i := 615) (by decide +kernel), List.mem_of_getElem? (i := 616) (by decide +kernel)⟩
theorem lw_p5 : lw_okq (⟨"StoryStates$Engine", "conditionsHold", "(I)Z"⟩, 5) := ⟨⟨by decide +kernel, by decide +kernel⟩, List.mem_of_getElem? (i := 28) (by decide +kernel), List.mem_of_getElem? (i := 635) (by decide +kernel), List.mem_of_getElem? (i := 636) (by decide +kernel)⟩
theorem lw_p6 : lw_okq (⟨"StoryStates$Engine", "holds", "(III)Z"⟩, 5) := ⟨⟨by decide +kernel, by decide +kernel⟩, List.mem_of_getElem? (i := 28) (by decide +kernel), List.mem_of_getElem? (i := 644) (by decide +kernel), List.mem_of_getElem? (i := 645) (by decide +kernel)⟩
theorem lw_p7 : lw_okq (⟨"StoryStates$Engine", "doRule", "(I)V"⟩, 5) := ⟨⟨by decide +kernel, by decide +kernel⟩, List.mem_of_getElem? (i := 28) (by decide +kernel), List.mem_of_getElem? (i := 654) (by decide +kernel), List.mem_of_getElem? (i := 655) (by decide +kernel)⟩
theorem lw_p8 : lw_okq (⟨"StoryStates$Engine", "say", "(I)V"⟩, 5) := ⟨⟨by decide +kernel, by decide +kernel⟩, List.mem_of_getElem? (i := 28) (by decide +kernel), List.mem_of_getElem? (i := 658) (by decide +kernel), List.mem_of_getElem? (i := 659) (by decide +kernel)⟩
theorem lw_p9 : lw_okq (⟨"StoryStates$Engine", "doEffect", "(III)V"⟩, 5) := ⟨⟨by decide +kernel, by decide +kernel⟩, List.mem_of_getElem? (i := 28) (by decide +kernel), List.mem_of_getElem? (i := 663) (by decide +kernel), List.mem_of_getElem? (i := 664) (by decide +kernel)⟩
theorem lw_p10 : lw_okq (⟨"StoryStates$Engine", "actWithoutRule", "(III)Z"⟩, 5) := ⟨⟨by decide +kernel, by decide +kernel⟩, List.mem_of_getElem? (i := 28) (by decide +kernel), List.mem_of_getElem? (i := 685) (by decide +kernel), List.mem_of_getElem? (i := 686) (by decide +kernel)⟩
theorem lw_p11 : lw_okq (⟨"StoryStates$Engine", "goThrough", "(I)Z"⟩, 5) := ⟨⟨by decide +kernel, by decide +kernel⟩, List.mem_of_getElem? (i := 28) (by decide +kernel), List.mem_of_getElem? (i := 689) (by decide +kernel), List.mem_of_getElem? (i := 690) (by decide +kernel)⟩
theorem lw_p12 : lw_okq (⟨"StoryStates$Engine", "takeUp", "(I)Z"⟩, 5) := ⟨⟨by decide +kernel, by decide +kernel⟩, List.mem_of_getElem? (i := 28) (by decide +kernel), List.mem_of_getElem? (i := 693) (by decide +kernel), List.mem_of_getElem? (i := 694) (by decide +kernel)⟩
theorem lw_p13 : lw_okq (⟨"StoryStates$Engine", "putDown", "(I)Z"⟩, 5) := ⟨⟨by decide +kernel, by decide +kernel⟩, List.mem_of_getElem? (i := 28) (by decide +kernel), List.mem_of_getElem? (i := 697) (by decide +kernel), List.mem_of_getElem? (i := 698) (by decide +kernel)⟩
theorem lw_p14 : lw_okq (⟨"StoryStates$Engine", "turnLid", "(II)Z"⟩, 5) := ⟨⟨by decide +kernel, by decide +kernel⟩, List.mem_of_getElem? (i := 28) (by decide +kernel), List.mem_of_getElem? (i := 701) (by decide +kernel), List.mem_of_getElem? (i := 702) (by decide +kernel)⟩
theorem lw_p15 : lw_okq (⟨"StoryStates$Engine", "putInto", "(II)Z"⟩, 5) := ⟨⟨by decide +kernel, by decide +kernel⟩, List.mem_of_getElem? (i := 28) (by decide +kernel), List.mem_of_getElem? (i := 705) (by decide +kernel), List.mem_of_getElem? (i := 706) (by decide +kernel)⟩
def lw_privs_1 : List (MethodName × Nat) := [(⟨"StoryStates", "startAnew", "()V"⟩, 7), (⟨"StoryStates", "startPlay", "()V"⟩, 7), (⟨"java/lang/Throwable", "fillInStackTrace", "(I)Ljava/lang/Throwable;"⟩, 6), (⟨"StoryStates$Engine", "fittingRule", "(III)I"⟩, 5), (⟨"StoryStates$Engine", "isSeenOrNone", "(I)Z"⟩, 5), (⟨"StoryStates$Engine", "conditionsHold", "(I)Z"⟩, 5), (⟨"StoryStates$Engine", "holds", "(III)Z"⟩, 5), (⟨"StoryStates$Engine", "doRule", "(I)V"⟩, 5), (⟨"StoryStates$Engine", "say", "(I)V"⟩, 5), (⟨"StoryStates$Engine", "doEffect", "(III)V"⟩, 5), (⟨"StoryStates$Engine", "actWithoutRule", "(III)Z"⟩, 5), (⟨"StoryStates$Engine", "goThrough", "(I)Z"⟩, 5), (⟨"StoryStates$Engine", "takeUp", "(I)Z"⟩, 5), (⟨"StoryStates$Engine", "putDown", "(I)Z"⟩, 5), (⟨"StoryStates$Engine", "turnLid", "(II)Z"⟩, 5), (⟨"StoryStates$Engine", "putInto", "(II)Z"⟩, 5)]
theorem lw_r1 : ∀ q ∈ lw_privs_1, lw_okq q := List.forall_mem_cons.mpr ⟨lw_p0, List.forall_mem_cons.mpr ⟨lw_p1, List.forall_mem_cons.mpr ⟨lw_p2, List.forall_mem_cons.mpr ⟨lw_p3, List.forall_mem_cons.mpr ⟨lw_p4, List.forall_mem_cons.mpr ⟨lw_p5, List.forall_mem_cons.mpr ⟨lw_p6, List.forall_mem_cons.mpr ⟨lw_p7, List.forall_mem_cons.mpr ⟨lw_p8, List.forall_mem_cons.mpr ⟨lw_p9, List.forall_mem_cons.mpr ⟨lw_p10, List.forall_mem_cons.mpr ⟨lw_p11, List.forall_mem_cons.mpr ⟨lw_p12, List.forall_mem_cons.mpr ⟨lw_p13, List.forall_mem_cons.mpr ⟨lw_p14, List.forall_mem_cons.mpr ⟨lw_p15, fun _ h => absurd h List.not_mem_nil⟩⟩⟩⟩⟩⟩⟩⟩⟩⟩⟩⟩⟩⟩⟩⟩
theorem lw_p16 : lw_okq (⟨"StoryStates$Engine", "stepWalkers", "()V"⟩, 5) := ⟨⟨by decide +kernel, by decide +kernel⟩, List.mem_of_getElem? (i := 28) (by decide +kernel), List.mem_of_getElem? (i := 709) (by decide +kernel), List.mem_of_getElem? (i := 710) (by decide +kernel)⟩
theorem lw_p17 : lw_okq (⟨"StoryStates$Engine", "runsOut", "(I)Z"⟩, 5) := ⟨⟨by decide +kernel, by decide +kernel⟩, List.mem_of_getElem? (i := 28) (by decide +kernel), List.mem_of_getElem? (i := 719) (by decide +kernel), List.mem_of_getElem? (i := 720) (by decide +kernel)⟩
theorem lw_p18 : lw_okq (⟨"StoryStates", "hasAsked", "(II)Z"⟩, 7) := ⟨⟨by decide +kernel, by decide +kernel⟩, List.mem_of_getElem? (i := 20) (by decide +kernel), List.mem_of_getElem? (i := 737) (by decide +kernel), List.mem_of_getElem? (i := 738) (by decide +kernel)⟩
theorem lw_p19 : lw_okq (⟨"StoryStates$Atlas", "listCommands", "(LStoryStates$World;)V"⟩, 12) := ⟨⟨by decide +kernel, by decide +kernel⟩, List.mem_of_getElem? (i := 200) (by decide +kernel), List.mem_of_getElem? (i := 764) (by decide +kernel), List.mem_of_getElem? (i := 765) (by decide +kernel)⟩
theorem lw_p20 : lw_okq (⟨"StoryStates$Atlas", "slotOf", "(J)I"⟩, 12) := ⟨⟨by decide +kernel, by decide +kernel⟩, List.mem_of_getElem? (i := 200) (by decide +kernel), List.mem_of_getElem? (i := 773) (by decide +kernel), List.mem_of_getElem? (i := 774) (by decide +kernel)⟩
theorem lw_p21 : lw_okq (⟨"StoryStates$Atlas", "append", "(JIII)V"⟩, 12) := ⟨⟨by decide +kernel, by decide +kernel⟩, List.mem_of_getElem? (i := 200) (by decide +kernel), List.mem_of_getElem? (i := 778) (by decide +kernel), List.mem_of_getElem? (i := 779) (by decide +kernel)⟩
theorem lw_p22 : lw_okq (⟨"StoryStates$Atlas", "note", "(JI)V"⟩, 12) := ⟨⟨by decide +kernel, by decide +kernel⟩, List.mem_of_getElem? (i := 200) (by decide +kernel), List.mem_of_getElem? (i := 802) (by decide +kernel), List.mem_of_getElem? (i := 803) (by decide +kernel)⟩
theorem lw_p23 : lw_okq (⟨"StoryStates$Atlas", "findHope", "(LStoryStates$World;)V"⟩, 12) := ⟨⟨by decide +kernel, by decide +kernel⟩, List.mem_of_getElem? (i := 200) (by decide +kernel), List.mem_of_getElem? (i := 813) (by decide +kernel), List.mem_of_getElem? (i := 814) (by decide +kernel)⟩
theorem lw_p24 : lw_okq (⟨"StoryStates$Atlas", "isHopeful", "(I)Z"⟩, 12) := ⟨⟨by decide +kernel, by decide +kernel⟩, List.mem_of_getElem? (i := 200) (by decide +kernel), List.mem_of_getElem? (i := 820) (by decide +kernel), List.mem_of_getElem? (i := 821) (by decide +kernel)⟩
theorem lw_p25 : lw_okq (⟨"StoryStates$Atlas", "isWon", "(ILStoryStates$World;)Z"⟩, 12) := ⟨⟨by decide +kernel, by decide +kernel⟩, List.mem_of_getElem? (i := 200) (by decide +kernel), List.mem_of_getElem? (i := 824) (by decide +kernel), List.mem_of_getElem? (i := 825) (by decide +kernel)⟩
theorem lw_p26 : lw_okq (⟨"StoryStates$Atlas", "leadsToHope", "(I)Z"⟩, 12) := ⟨⟨by decide +kernel, by decide +kernel⟩, List.mem_of_getElem? (i := 200) (by decide +kernel), List.mem_of_getElem? (i := 830) (by decide +kernel), List.mem_of_getElem? (i := 831) (by decide +kernel)⟩
theorem lw_p27 : lw_okq (⟨"StoryStates", "spoilingTurn", "()I"⟩, 7) := ⟨⟨by decide +kernel, by decide +kernel⟩, List.mem_of_getElem? (i := 20) (by decide +kernel), List.mem_of_getElem? (i := 877) (by decide +kernel), List.mem_of_getElem? (i := 878) (by decide +kernel)⟩
theorem lw_p28 : lw_okq (⟨"StoryStates$Atlas", "leadsOnlyToItself", "(I)Z"⟩, 12) := ⟨⟨by decide +kernel, by decide +kernel⟩, List.mem_of_getElem? (i := 200) (by decide +kernel), List.mem_of_getElem? (i := 885) (by decide +kernel), List.mem_of_getElem? (i := 886) (by decide +kernel)⟩
theorem lw_p29 : lw_okq (⟨"StoryStatesModel", "renew", "()V"⟩, 60) := ⟨⟨by decide +kernel, by decide +kernel⟩, List.mem_of_getElem? (i := 893) (by decide +kernel), List.mem_of_getElem? (i := 899) (by decide +kernel), List.mem_of_getElem? (i := 900) (by decide +kernel)⟩
theorem lw_p30 : lw_okq (⟨"StoryStatesModel", "restart", "()V"⟩, 60) := ⟨⟨by decide +kernel, by decide +kernel⟩, List.mem_of_getElem? (i := 893) (by decide +kernel), List.mem_of_getElem? (i := 903) (by decide +kernel), List.mem_of_getElem? (i := 904) (by decide +kernel)⟩
theorem lw_p31 : lw_okq (⟨"StoryStatesModel", "layFirst", "()V"⟩, 60) := ⟨⟨by decide +kernel, by decide +kernel⟩, List.mem_of_getElem? (i := 893) (by decide +kernel), List.mem_of_getElem? (i := 907) (by decide +kernel), List.mem_of_getElem? (i := 908) (by decide +kernel)⟩
def lw_privs_2 : List (MethodName × Nat) := [(⟨"StoryStates$Engine", "stepWalkers", "()V"⟩, 5), (⟨"StoryStates$Engine", "runsOut", "(I)Z"⟩, 5), (⟨"StoryStates", "hasAsked", "(II)Z"⟩, 7), (⟨"StoryStates$Atlas", "listCommands", "(LStoryStates$World;)V"⟩, 12), (⟨"StoryStates$Atlas", "slotOf", "(J)I"⟩, 12), (⟨"StoryStates$Atlas", "append", "(JIII)V"⟩, 12), (⟨"StoryStates$Atlas", "note", "(JI)V"⟩, 12), (⟨"StoryStates$Atlas", "findHope", "(LStoryStates$World;)V"⟩, 12), (⟨"StoryStates$Atlas", "isHopeful", "(I)Z"⟩, 12), (⟨"StoryStates$Atlas", "isWon", "(ILStoryStates$World;)Z"⟩, 12), (⟨"StoryStates$Atlas", "leadsToHope", "(I)Z"⟩, 12), (⟨"StoryStates", "spoilingTurn", "()I"⟩, 7), (⟨"StoryStates$Atlas", "leadsOnlyToItself", "(I)Z"⟩, 12), (⟨"StoryStatesModel", "renew", "()V"⟩, 60), (⟨"StoryStatesModel", "restart", "()V"⟩, 60), (⟨"StoryStatesModel", "layFirst", "()V"⟩, 60)]
theorem lw_r2 : ∀ q ∈ lw_privs_2, lw_okq q := List.forall_mem_cons.mpr ⟨lw_p16, List.forall_mem_cons.mpr ⟨lw_p17, List.forall_mem_cons.mpr ⟨lw_p18, List.forall_mem_cons.mpr ⟨lw_p19, List.forall_mem_cons.mpr ⟨lw_p20, List.forall_mem_cons.mpr ⟨lw_p21, List.forall_mem_cons.mpr ⟨lw_p22, List.forall_mem_cons.mpr ⟨lw_p23, List.forall_mem_cons.mpr ⟨lw_p24, List.forall_mem_cons.mpr ⟨lw_p25, List.forall_mem_cons.mpr ⟨lw_p26, List.forall_mem_cons.mpr ⟨lw_p27, List.forall_mem_cons.mpr ⟨lw_p28, List.forall_mem_cons.mpr ⟨lw_p29, List.forall_mem_cons.mpr ⟨lw_p30, List.forall_mem_cons.mpr ⟨lw_p31, fun _ h => absurd h List.not_mem_nil⟩⟩⟩⟩⟩⟩⟩⟩⟩⟩⟩⟩⟩⟩⟩⟩
theorem lw_p32 : lw_okq (⟨"StoryStatesModel", "packA", "()I"⟩, 60) := ⟨⟨by decide +kernel, by decide +kernel⟩, List.mem_of_getElem? (i := 893) (by decide +kernel), List.mem_of_getElem? (i := 911) (by decide +kernel), List.mem_of_getElem? (i := 912) (by decide +kernel)⟩
theorem lw_p33 : lw_okq (⟨"StoryStatesModel", "packB", "()I"⟩, 60) := ⟨⟨by decide +kernel, by decide +kernel⟩, List.mem_of_getElem? (i := 893) (by decide +kernel), List.mem_of_getElem? (i := 915) (by decide +kernel), List.mem_of_getElem? (i := 916) (by decide +kernel)⟩
theorem lw_p34 : lw_okq (⟨"StoryStatesModel", "insert", "(IIIIII)V"⟩, 60) := ⟨⟨by decide +kernel, by decide +kernel⟩, List.mem_of_getElem? (i := 893) (by decide +kernel), List.mem_of_getElem? (i := 919) (by decide +kernel), List.mem_of_getElem? (i := 920) (by decide +kernel)⟩
theorem lw_p35 : lw_okq (⟨"StoryStatesModel", "noRoom", "(I)Z"⟩, 60) := ⟨⟨by decide +kernel, by decide +kernel⟩, List.mem_of_getElem? (i := 893) (by decide +kernel), List.mem_of_getElem? (i := 1120) (by decide +kernel), List.mem_of_getElem? (i := 1121) (by decide +kernel)⟩
theorem lw_p36 : lw_okq (⟨"StoryStatesModel", "noThing", "(I)Z"⟩, 60) := ⟨⟨by decide +kernel, by decide +kernel⟩, List.mem_of_getElem? (i := 893) (by decide +kernel), List.mem_of_getElem? (i := 1124) (by decide +kernel), List.mem_of_getElem? (i := 1125) (by decide +kernel)⟩
theorem lw_p37 : lw_okq (⟨"StoryStatesModel", "noPlace", "(I)Z"⟩, 60) := ⟨⟨by decide +kernel, by decide +kernel⟩, List.mem_of_getElem? (i := 893) (by decide +kernel), List.mem_of_getElem? (i := 1132) (by decide +kernel), List.mem_of_getElem? (i := 1133) (by decide +kernel)⟩
theorem lw_p38 : lw_okq (⟨"StoryStatesModel", "noRule", "(I)Z"⟩, 60) := ⟨⟨by decide +kernel, by decide +kernel⟩, List.mem_of_getElem? (i := 893) (by decide +kernel), List.mem_of_getElem? (i := 1152) (by decide +kernel), List.mem_of_getElem? (i := 1153) (by decide +kernel)⟩
theorem lw_p39 : lw_okq (⟨"StoryStatesModel", "lacks", "(III)Z"⟩, 60) := ⟨⟨by decide +kernel, by decide +kernel⟩, List.mem_of_getElem? (i := 893) (by decide +kernel), List.mem_of_getElem? (i := 1156) (by decide +kernel), List.mem_of_getElem? (i := 1157) (by decide +kernel)⟩
theorem lw_p40 : lw_okq (⟨"StoryStatesModel", "noNumber", "(I)Z"⟩, 60) := ⟨⟨by decide +kernel, by decide +kernel⟩, List.mem_of_getElem? (i := 893) (by decide +kernel), List.mem_of_getElem? (i := 1160) (by decide +kernel), List.mem_of_getElem? (i := 1161) (by decide +kernel)⟩
theorem lw_p41 : lw_okq (⟨"StoryStatesModel", "isCommand", "(III)Z"⟩, 60) := ⟨⟨by decide +kernel, by decide +kernel⟩, List.mem_of_getElem? (i := 893) (by decide +kernel), List.mem_of_getElem? (i := 1184) (by decide +kernel), List.mem_of_getElem? (i := 1185) (by decide +kernel)⟩
theorem lw_p42 : lw_okq (⟨"StoryStatesModel", "lay", "(II)V"⟩, 60) := ⟨⟨by decide +kernel, by decide +kernel⟩, List.mem_of_getElem? (i := 893) (by decide +kernel), List.mem_of_getElem? (i := 1188) (by decide +kernel), List.mem_of_getElem? (i := 1189) (by decide +kernel)⟩
theorem lw_p43 : lw_okq (⟨"StoryStatesModel", "turn", "(III)V"⟩, 60) := ⟨⟨by decide +kernel, by decide +kernel⟩, List.mem_of_getElem? (i := 893) (by decide +kernel), List.mem_of_getElem? (i := 1192) (by decide +kernel), List.mem_of_getElem? (i := 1193) (by decide +kernel)⟩
theorem lw_p44 : lw_okq (⟨"StoryStatesModel", "fitting", "(III)I"⟩, 60) := ⟨⟨by decide +kernel, by decide +kernel⟩, List.mem_of_getElem? (i := 893) (by decide +kernel), List.mem_of_getElem? (i := 1196) (by decide +kernel), List.mem_of_getElem? (i := 1197) (by decide +kernel)⟩
theorem lw_p45 : lw_okq (⟨"StoryStatesModel", "isSeen", "(I)Z"⟩, 60) := ⟨⟨by decide +kernel, by decide +kernel⟩, List.mem_of_getElem? (i := 893) (by decide +kernel), List.mem_of_getElem? (i := 1200) (by decide +kernel), List.mem_of_getElem? (i := 1201) (by decide +kernel)⟩
theorem lw_p46 : lw_okq (⟨"StoryStatesModel", "allSo", "(I)Z"⟩, 60) := ⟨⟨by decide +kernel, by decide +kernel⟩, List.mem_of_getElem? (i := 893) (by decide +kernel), List.mem_of_getElem? (i := 1204) (by decide +kernel), List.mem_of_getElem? (i := 1205) (by decide +kernel)⟩
theorem lw_p47 : lw_okq (⟨"StoryStatesModel", "fire", "(I)V"⟩, 60) := ⟨⟨by decide +kernel, by decide +kernel⟩, List.mem_of_getElem? (i := 893) (by decide +kernel), List.mem_of_getElem? (i := 1208) (by decide +kernel), List.mem_of_getElem? (i := 1209) (by decide +kernel)⟩
def lw_privs_3 : List (MethodName × Nat) := [(⟨"StoryStatesModel", "packA", "()I"⟩, 60), (⟨"StoryStatesModel", "packB", "()I"⟩, 60), (⟨"StoryStatesModel", "insert", "(IIIIII)V"⟩, 60), (⟨"StoryStatesModel", "noRoom", "(I)Z"⟩, 60), (⟨"StoryStatesModel", "noThing", "(I)Z"⟩, 60), (⟨"StoryStatesModel", "noPlace", "(I)Z"⟩, 60), (⟨"StoryStatesModel", "noRule", "(I)Z"⟩, 60), (⟨"StoryStatesModel", "lacks", "(III)Z"⟩, 60), (⟨"StoryStatesModel", "noNumber", "(I)Z"⟩, 60), (⟨"StoryStatesModel", "isCommand", "(III)Z"⟩, 60), (⟨"StoryStatesModel", "lay", "(II)V"⟩, 60), (⟨"StoryStatesModel", "turn", "(III)V"⟩, 60), (⟨"StoryStatesModel", "fitting", "(III)I"⟩, 60), (⟨"StoryStatesModel", "isSeen", "(I)Z"⟩, 60), (⟨"StoryStatesModel", "allSo", "(I)Z"⟩, 60), (⟨"StoryStatesModel", "fire", "(I)V"⟩, 60)]
theorem lw_r3 : ∀ q ∈ lw_privs_3, lw_okq q := List.forall_mem_cons.mpr ⟨lw_p32, List.forall_mem_cons.mpr ⟨lw_p33, List.forall_mem_cons.mpr ⟨lw_p34, List.forall_mem_cons.mpr ⟨lw_p35, List.forall_mem_cons.mpr ⟨lw_p36, List.forall_mem_cons.mpr ⟨lw_p37, List.forall_mem_cons.mpr ⟨lw_p38, List.forall_mem_cons.mpr ⟨lw_p39, List.forall_mem_cons.mpr ⟨lw_p40, List.forall_mem_cons.mpr ⟨lw_p41, List.forall_mem_cons.mpr ⟨lw_p42, List.forall_mem_cons.mpr ⟨lw_p43, List.forall_mem_cons.mpr ⟨lw_p44, List.forall_mem_cons.mpr ⟨lw_p45, List.forall_mem_cons.mpr ⟨lw_p46, List.forall_mem_cons.mpr ⟨lw_p47, fun _ h => absurd h List.not_mem_nil⟩⟩⟩⟩⟩⟩⟩⟩⟩⟩⟩⟩⟩⟩⟩⟩
theorem lw_p48 : lw_okq (⟨"StoryStatesModel", "say", "(I)V"⟩, 60) := ⟨⟨by decide +kernel, by decide +kernel⟩, List.mem_of_getElem? (i := 893) (by decide +kernel), List.mem_of_getElem? (i := 1212) (by decide +kernel), List.mem_of_getElem? (i := 1213) (by decide +kernel)⟩
theorem lw_p49 : lw_okq (⟨"StoryStatesModel", "change", "(III)V"⟩, 60) := ⟨⟨by decide +kernel, by decide +kernel⟩, List.mem_of_getElem? (i := 893) (by decide +kernel), List.mem_of_getElem? (i := 1216) (by decide +kernel), List.mem_of_getElem? (i := 1217) (by decide +kernel)⟩
theorem lw_p50 : lw_okq (⟨"StoryStatesModel", "within", "(II)Z"⟩, 60) := ⟨⟨by decide +kernel, by decide +kernel⟩, List.mem_of_getElem? (i := 893) (by decide +kernel), List.mem_of_getElem? (i := 1220) (by decide +kernel), List.mem_of_getElem? (i := 1221) (by decide +kernel)⟩
theorem lw_p51 : lw_okq (⟨"StoryStatesModel", "plain", "(III)Z"⟩, 60) := ⟨⟨by decide +kernel, by decide +kernel⟩, List.mem_of_getElem? (i := 893) (by decide +kernel), List.mem_of_getElem? (i := 1224) (by decide +kernel), List.mem_of_getElem? (i := 1225) (by decide +kernel)⟩
theorem lw_p52 : lw_okq (⟨"StoryStatesModel", "tryAll", "()V"⟩, 60) := ⟨⟨by decide +kernel, by decide +kernel⟩, List.mem_of_getElem? (i := 893) (by decide +kernel), List.mem_of_getElem? (i := 1244) (by decide +kernel), List.mem_of_getElem? (i := 1245) (by decide +kernel)⟩
theorem lw_p53 : lw_okq (⟨"StoryStatesModel", "tryOne", "(III)V"⟩, 60) := ⟨⟨by decide +kernel, by decide +kernel⟩, List.mem_of_getElem? (i := 893) (by decide +kernel), List.mem_of_getElem? (i := 1248) (by decide +kernel), List.mem_of_getElem? (i := 1249) (by decide +kernel)⟩
theorem lw_p54 : lw_okq (⟨"StoryStatesModel", "search", "(II)I"⟩, 60) := ⟨⟨by decide +kernel, by decide +kernel⟩, List.mem_of_getElem? (i := 893) (by decide +kernel), List.mem_of_getElem? (i := 1252) (by decide +kernel), List.mem_of_getElem? (i := 1253) (by decide +kernel)⟩
theorem lw_p55 : lw_okq (⟨"StoryStatesModel", "firstOver", "(I)I"⟩, 60) := ⟨⟨by decide +kernel, by decide +kernel⟩, List.mem_of_getElem? (i := 893) (by decide +kernel), List.mem_of_getElem? (i := 1260) (by decide +kernel), List.mem_of_getElem? (i := 1261) (by decide +kernel)⟩
theorem lw_p56 : lw_okq (⟨"StoryStatesModel", "depth", "(I)I"⟩, 60) := ⟨⟨by decide +kernel, by decide +kernel⟩, List.mem_of_getElem? (i := 893) (by decide +kernel), List.mem_of_getElem? (i := 1264) (by decide +kernel), List.mem_of_getElem? (i := 1265) (by decide +kernel)⟩
theorem lw_p57 : lw_okq (⟨"StoryStatesModel", "finished", "()Z"⟩, 60) := ⟨⟨by decide +kernel, by decide +kernel⟩, List.mem_of_getElem? (i := 893) (by decide +kernel), List.mem_of_getElem? (i := 1268) (by decide +kernel), List.mem_of_getElem? (i := 1269) (by decide +kernel)⟩
theorem lw_p58 : lw_okq (⟨"StoryStatesModel", "stuck", "()I"⟩, 60) := ⟨⟨by decide +kernel, by decide +kernel⟩, List.mem_of_getElem? (i := 893) (by decide +kernel), List.mem_of_getElem? (i := 1280) (by decide +kernel), List.mem_of_getElem? (i := 1281) (by decide +kernel)⟩
theorem lw_p59 : lw_okq (⟨"StoryStatesModel", "isFollowed", "(II)Z"⟩, 60) := ⟨⟨by decide +kernel, by decide +kernel⟩, List.mem_of_getElem? (i := 893) (by decide +kernel), List.mem_of_getElem? (i := 1284) (by decide +kernel), List.mem_of_getElem? (i := 1285) (by decide +kernel)⟩
theorem lw_p60 : lw_okq (⟨"StoryStatesModel", "unused", "(I)I"⟩, 60) := ⟨⟨by decide +kernel, by decide +kernel⟩, List.mem_of_getElem? (i := 893) (by decide +kernel), List.mem_of_getElem? (i := 1288) (by decide +kernel), List.mem_of_getElem? (i := 1289) (by decide +kernel)⟩
theorem lw_p61 : lw_okq (⟨"StoryStatesModel", "judge", "()V"⟩, 60) := ⟨⟨by decide +kernel, by decide +kernel⟩, List.mem_of_getElem? (i := 893) (by decide +kernel), List.mem_of_getElem? (i := 1292) (by decide +kernel), List.mem_of_getElem? (i := 1293) (by decide +kernel)⟩
theorem lw_p62 : lw_okq (⟨"StoryStatesModel", "blamed", "()I"⟩, 60) := ⟨⟨by decide +kernel, by decide +kernel⟩, List.mem_of_getElem? (i := 893) (by decide +kernel), List.mem_of_getElem? (i := 1296) (by decide +kernel), List.mem_of_getElem? (i := 1297) (by decide +kernel)⟩
def lw_privs_4 : List (MethodName × Nat) := [(⟨"StoryStatesModel", "say", "(I)V"⟩, 60), (⟨"StoryStatesModel", "change", "(III)V"⟩, 60), (⟨"StoryStatesModel", "within", "(II)Z"⟩, 60), (⟨"StoryStatesModel", "plain", "(III)Z"⟩, 60), (⟨"StoryStatesModel", "tryAll", "()V"⟩, 60), (⟨"StoryStatesModel", "tryOne", "(III)V"⟩, 60), (⟨"StoryStatesModel", "search", "(II)I"⟩, 60), (⟨"StoryStatesModel", "firstOver", "(I)I"⟩, 60), (⟨"StoryStatesModel", "depth", "(I)I"⟩, 60), (⟨"StoryStatesModel", "finished", "()Z"⟩, 60), (⟨"StoryStatesModel", "stuck", "()I"⟩, 60), (⟨"StoryStatesModel", "isFollowed", "(II)Z"⟩, 60), (⟨"StoryStatesModel", "unused", "(I)I"⟩, 60), (⟨"StoryStatesModel", "judge", "()V"⟩, 60), (⟨"StoryStatesModel", "blamed", "()I"⟩, 60)]
theorem lw_r4 : ∀ q ∈ lw_privs_4, lw_okq q := List.forall_mem_cons.mpr ⟨lw_p48, List.forall_mem_cons.mpr ⟨lw_p49, List.forall_mem_cons.mpr ⟨lw_p50, List.forall_mem_cons.mpr ⟨lw_p51, List.forall_mem_cons.mpr ⟨lw_p52, List.forall_mem_cons.mpr ⟨lw_p53, List.forall_mem_cons.mpr ⟨lw_p54, List.forall_mem_cons.mpr ⟨lw_p55, List.forall_mem_cons.mpr ⟨lw_p56, List.forall_mem_cons.mpr ⟨lw_p57, List.forall_mem_cons.mpr ⟨lw_p58, List.forall_mem_cons.mpr ⟨lw_p59, List.forall_mem_cons.mpr ⟨lw_p60, List.forall_mem_cons.mpr ⟨lw_p61, List.forall_mem_cons.mpr ⟨lw_p62, fun _ h => absurd h List.not_mem_nil⟩⟩⟩⟩⟩⟩⟩⟩⟩⟩⟩⟩⟩⟩⟩
def lw_privs : List (MethodName × Nat) := lw_privs_1 ++ (lw_privs_2 ++ (lw_privs_3 ++ (lw_privs_4)))
def lw_tbl : List Cond := k2_sels lw_privs ++ tables_1
theorem lw_privs_ok : ∀ q ∈ lw_privs, lw_okq q := by
  show ∀ q ∈ lw_privs_1 ++ (lw_privs_2 ++ (lw_privs_3 ++ (lw_privs_4))), lw_okq q
  exact List.forall_mem_append.mpr ⟨lw_r1, List.forall_mem_append.mpr ⟨lw_r2, List.forall_mem_append.mpr ⟨lw_r3, lw_r4⟩⟩⟩
/-- the words that stay true under warmer tables -/
def sOkw : Cond → Bool
  | .arrayClass _ => true
  | .fieldLinkNest _ _ _ _ _ _ => true
  | .methodLinkNest _ _ _ _ => true
  | w => w.onTables && w.keeps
def sTB : List Cond := lw_tbl.filter sOkw
theorem sTB_ok : sTB.all sOkw = true := by
  rw [List.all_eq_true]
  intro w hw
  exact (List.mem_filter.mp hw).2
theorem sMem {w : Cond} (i : Nat) (h : tables_1[i]? = some w) (ho : sOkw w = true) : w ∈ sTB := List.mem_filter.mpr ⟨List.mem_append_right _ (List.mem_of_getElem? h), ho⟩
theorem sSel (k : Nat) (y : MethodName) (h : (y, k) ∈ lw_privs) (ho : sOkw (Cond.selects y.cls y y) = true) : Cond.selects y.cls y y ∈ sTB := List.mem_filter.mpr ⟨List.mem_append_left _ (List.mem_map.mpr ⟨(y, k), h, rfl⟩), ho⟩
end
section
/-! Core: a walk over a fixed world. A heap is two functions (ints and longs) by the number of a cell and of a slot; references are numbers of cells; 'sS' says that from here the machine ends as the pure value X says. -/
abbrev sHp : Type := (Nat → Nat → Int32) × (Nat → Nat → Int64)
/-- what a field holds: an int (or a boolean), a long, or always the same cell -/
abbrev sKd : Type := Option (Option Nat)
abbrev sLy : Type := List ((Nat × Nat) ⊕ (Nat × List sKd))
/-- what is fixed of a world: its classes and its cells -/
abbrev sZo : Type := List vw_C × sLy
abbrev sWo : Type := va_G × (Nat → ClassId) × (Nat → Nat)
abbrev sMa : Type := Program × Launch × Env × Room × State × MethodId × Array Value × List Frame × Method × Code
def sV (ad : Nat → Nat) : Value → Value
  | .ref i => .ref (ad i)
  | v => v
theorem sV_cat (ad : Nat → Nat) (v : Value) : (sV ad v).category = v.category := by cases v <;> rfl
def sFd (ad : Nat → Nat) (h : sHp) (i k : Nat) : sKd → Value
  | none => .int (h.1 i k)
  | some none => .long (h.2 i k)
  | some (some j) => .ref (ad j)
def sCl (cA : Nat → ClassId) (ad : Nat → Nat) (h : sHp) (i : Nat) : (Nat × Nat) ⊕ (Nat × List sKd) → va_E
  | .inl (t, n) => .inl (cA t, n, if t = 2 then .inr (.inl (h.2 i)) else .inl (h.1 i))
  | .inr (ci, ks) => .inr (ci, ks.mapIdx (sFd ad h i))
def sWd (ly : sLy) (cA : Nat → ClassId) (ad : Nat → Nat) (h : sHp) : va_W := ly.mapIdx (fun i e => (ad i, sCl cA ad h i e))
def pI (h : sHp) (i k : Nat) (x : Int32) : sHp := (fun j => if j = i then upd (h.1 i) k x else h.1 j, h.2)
def pL (h : sHp) (i k : Nat) (x : Int64) : sHp := (h.1, fun j => if j = i then vp_updL (h.2 i) k x else h.2 j)
def sAr (ly : sLy) (ad : Nat → Nat) : Nat → Prop := fun q => ∃ i, i < ly.length ∧ q = ad i
abbrev sTy (cA : Nat → ClassId) : List (ClassId × FieldType) := [(cA 0, .int), (cA 1, .boolean), (cA 2, .long)]
def sLv (ad : Nat → Nat) (lv : List (Nat × Value)) : List (Nat × Value) := lv.map (fun q => (q.1, sV ad q.2))
theorem sFd_same {ad : Nat → Nat} {h h' : sHp} {i : Nat} (h1 : h'.1 i = h.1 i) (h2 : h'.2 i = h.2 i) : sFd ad h' i = sFd ad h i := by
  funext k d
  rcases d with _ | _ | j <;> simp [sFd, h1, h2]
theorem sCl_same {cA : Nat → ClassId} {ad : Nat → Nat} {h h' : sHp} {i : Nat} (h1 : h'.1 i = h.1 i) (h2 : h'.2 i = h.2 i) (e : (Nat × Nat) ⊕ (Nat × List sKd)) : sCl cA ad h' i e = sCl cA ad h i e := by
  rcases e with ⟨t, n⟩ | ⟨ci, ks⟩
  · simp [sCl, h1, h2]
  · simp [sCl, sFd_same h1 h2]
theorem sWd_at {ly : sLy} {cA : Nat → ClassId} {ad : Nat → Nat} {h : sHp} {i : Nat} {e : (Nat × Nat) ⊕ (Nat × List sKd)} (he : ly[i]? = some e) : (sWd ly cA ad h)[i]? = some (ad i, sCl cA ad h i e) := by
  simp [sWd, List.getElem?_mapIdx, he]
theorem sWd_len {ly : sLy} {cA : Nat → ClassId} {ad : Nat → Nat} {h : sHp} : (sWd ly cA ad h).length = ly.length := by
  simp [sWd]
theorem sWd_set {ly : sLy} {cA : Nat → ClassId} {ad : Nat → Nat} {h h' : sHp} {i : Nat} {e : (Nat × Nat) ⊕ (Nat × List sKd)} {x : va_E} (he : ly[i]? = some e) (hx : sCl cA ad h' i e = x) (ho : ∀ j, j ≠ i → h'.1 j = h.1 j ∧ h'.2 j = h.2 j) : (sWd ly cA ad h).set i (ad i, x) = sWd ly cA ad h' := by
  apply List.ext_getElem?
  intro j
  rw [List.getElem?_set]
  by_cases hj : i = j
  · subst hj
    have hlt : i < (sWd ly cA ad h).length := by
      rw [sWd_len]
      exact (List.getElem?_eq_some_iff.mp he).1
    rw [if_pos rfl, if_pos hlt, sWd_at he, hx]
  · rw [if_neg hj]
    cases hq : ly[j]? with
    | none => simp [sWd, List.getElem?_mapIdx, hq]
    | some e2 =>
      rw [sWd_at hq, sWd_at hq, sCl_same (ho j (fun z => hj z.symm)).1 (ho j (fun z => hj z.symm)).2]
theorem sWd_addr {ly : sLy} {cA : Nat → ClassId} {ad : Nat → Nat} {h : sHp} {i : Nat} {q : Nat × va_E} (hq : (sWd ly cA ad h)[i]? = some q) : i < ly.length ∧ q.1 = ad i := by
  cases he : ly[i]? with
  | none => simp [sWd, List.getElem?_mapIdx, he] at hq
  | some e =>
    rw [sWd_at he] at hq
    cases hq
    exact ⟨(List.getElem?_eq_some_iff.mp he).1, rfl⟩
/-- the addresses are apart -/
def sApart (ly : sLy) (ad : Nat → Nat) : Prop := ∀ i j, i < ly.length → j < ly.length → ad i = ad j → i = j
theorem sD_of {ly : sLy} {cA : Nat → ClassId} {ad : Nat → Nat} (ha : sApart ly ad) (h : sHp) : va_D (sAr ly ad) (sWd ly cA ad h) := by
  refine ⟨fun i j p q hp hq e => ?_, fun k q hq => ?_⟩
  · obtain ⟨a1, a2⟩ := sWd_addr hp
    obtain ⟨b1, b2⟩ := sWd_addr hq
    exact ha i j a1 b1 (by rw [← a2, ← b2]; exact e)
  · obtain ⟨a1, a2⟩ := sWd_addr hq
    exact ⟨k, a1, a2⟩
/-- the words of the tables, at a state -/
def sTab (U : State) : Prop := ∀ w ∈ sTB, va_Nw w U
theorem sTab_warm {s U : State} (hW : s.WarmedH U.vm) (h : sTab s) : sTab U := by
  intro w hw
  have ok := List.all_eq_true.mp sTB_ok w hw
  have h0 := h w hw
  unfold sOkw at ok
  split at ok
  · exact word_at hW (Or.inr ⟨_, rfl⟩) h0
  · exact va_Nw.warmF hW h0
  · exact va_Nw.warmM hW h0
  · exact word_at hW (Or.inl ok) h0
theorem sTab_calling {U : State} (g : JFrame) (mk : MethodId) (a : Array Value) (h : sTab U) : sTab (U.calling g mk a) := sTab_warm (s := U) (U := U.calling g mk a) (State.WarmedH.refl U) h
theorem sTab_use {U : State} (h : sTab U) {w : Cond} (hw : w ∈ sTB) (ht : w.onTables = true) (A : Array Value) : w.before A U = true := va_Nw.use ht (h w hw)
/-- what a body stands on -/
def sOk (Z : sZo) : sMa → sWo → ByteArray → Nat → String → Option FieldType → Room → Prop
  | (p, _, _, R, s, m, _, _, meth, c), (D, cA, ad), cc, nL, own, ret, rm => p.tables.exec = Jvm.exec ∧ c.code = cc ∧ c.maxLocals = nL ∧ s.vm.findClass own = some m.cls ∧ sTab s ∧ va_K D Z.1 (sTy cA) s ∧ sApart Z.2 ad ∧ meth.locks = false ∧ meth.sig.returnType = ret ∧ R = rm
/-- how a method ends: it returned, or it threw an exception of a class -/
abbrev sOut : Type := Option Value ⊕ Nat
def sQr (Z : sZo) : sWo → Option Value → sHp → Array Value → State → Outcome → State → Prop
  | (D, cA, ad), o, h', _, st, oc, t => oc = .returned o ∧ va_P D Z.1 (sWd Z.2 cA ad h') t.heap ∧ va_F (sAr Z.2 ad) st t
def sEx : Nat → String
  | 0 => "java/lang/IndexOutOfBoundsException"
  | 1 => "java/lang/IllegalArgumentException"
  | _ => "java/lang/IllegalStateException"
/-- a new exception of the class, at x -/
def sThrew (k : Nat) (x : Addr) (s t : State) : Prop := s.heap.size ≤ x ∧ ∃ (ce : Cell) (kc : Class), t.heap[x]? = some ce ∧ ce.vm.isStatics = false ∧ t.vm.classes[ce.cls]? = some kc ∧ t.vm.findClass (sEx k) = some ce.cls
def sTq (Z : sZo) (below : List Frame) : sWo → Nat → sHp → State → State → Prop
  | (D, cA, ad), k, h', s, t => ∃ x : Addr, t.status = .running ∧ Ended t below (.threw x) ∧ sThrew k x s t ∧ va_P D Z.1 (sWd Z.2 cA ad h') t.heap ∧ va_F (sAr Z.2 ad) s t ∧ s.WarmedH t.vm ∧ ∃ L : List Loc, s.sameButNew ({ t with vm := s.vm } : State) L 1 6 ∧ ∀ q ∈ L, sAr Z.2 ad q.base
def sQ (Z : sZo) : sMa → sWo → sOut → sHp → State → Prop
  | (_, _, _, _, s, _, args, below, _, _), (D, cA, ad), .inl o, h' => MQ below (sQr Z (D, cA, ad) o h') args s 0 0 (sAr Z.2 ad)
  | (_, _, _, _, s, _, _, below, _, _), (D, cA, ad), .inr k, h' => sTq Z below (D, cA, ad) k h' s
def sA (Z : sZo) : sMa → sWo → (State → Prop) → Nat → List (Nat × Value) → List Value → sHp → Prop
  | (p, l, e, R, s, m, args, below, meth, c), (D, cA, ad), Q, pc, lv, st, h => ∀ (H : Heap) (locs : List Loc) (ls : Array Slot), lv_has ls c.maxLocals (sLv ad lv) → va_P D Z.1 (sWd Z.2 cA ad h) H → va_S (sAr Z.2 ad) s.heap H locs → W p l e R s m args below meth c H locs 0 0 Q (F0 m pc ls (st.map (sV ad)))
def sS {ρ : Type} (Z : sZo) (M : sMa) (V : sWo) (fin : ρ → sOut × sHp) (pc : Nat) (lv : List (Nat × Value)) (st : List Value) (h : sHp) (X : Option ρ) : Prop := ∀ r, X = some r → sA Z M V (sQ Z M V (fin r).1 (fin r).2) pc lv st h
/-- a step that must be within an array -/
def sIn (j : Int32) (n : Nat) : Bool := decide (0 ≤ j.toInt ∧ j.toInt < (n : Int))
def sGd {β : Type} (b : Bool) (A : Option β) : Option β := if b = true then A else none
/-- a loop, by a number of rounds that is large enough -/
def sFx {S R : Type} (F : (S → Option R) → S → Option R) : Nat → S → Option R
  | 0, _ => none
  | n + 1, s => F (sFx F n) s
theorem sIn_iff {j : Int32} {n : Nat} : sIn j n = true ↔ vp_in j n := by
  rw [vp_in_iff]
  simp [sIn]
theorem sGd_t {β : Type} {b : Bool} {A : Option β} (h : b = true) : sGd b A = A := by simp [sGd, h]
theorem sGd_some {β : Type} {b : Bool} {A : Option β} {r : β} (h : sGd b A = some r) : b = true ∧ A = some r := by
  unfold sGd at h
  split at h
  · exact ⟨by assumption, h⟩
  · cases h
theorem sB_of {β ρ : Type} {X : Option β} {F : β → Option ρ} {r : ρ} (hr : X.bind F = some r) : ∃ v, X = some v ∧ F v = some r := by
  cases hX : X with
  | none => rw [hX] at hr; cases hr
  | some q => rw [hX] at hr; exact ⟨q, rfl, hr⟩
def jLushr (x : Int64) (y : Int32) : Int64 := (x.toUInt64 >>> (y.toInt64.toUInt64 &&& Int64.toUInt64 63)).toInt64
def jLshl (x : Int64) (y : Int32) : Int64 := x <<< (y.toInt64 &&& 63)
def jIshl (x y : Int32) : Int32 := x <<< (y &&& 31)
def jIshr (x y : Int32) : Int32 := x >>> (y &&& 31)
def jRem (x y : Int32) : Int32 := x - x / y * y
abbrev ix (j : Int32) : Nat := j.toNatClampNeg
theorem sV_sum (ad : Nat → Nat) (st : List Value) : ((st.map (sV ad)).map fun v => v.category).sum = (st.map fun v => v.category).sum := by
  rw [List.map_map]
  congr 1
  apply List.map_congr_left
  intro a _
  exact sV_cat ad a
section SR
variable {ρ : Type} {Z : sZo} {M : sMa} {V : sWo} {fin : ρ → sOut × sHp} {cc : ByteArray} {nL pc : Nat} {own : String} {ret : Option FieldType} {rm : Room} {lv lv' : List (Nat × Value)} {st : List Value} {h : sHp} {X A B : Option ρ}
theorem r_iconst (O : sOk Z M V cc nL own ret rm) {n : Int} {x : Int32} (d : decode cc pc = .ok (.iconst n, 1)) (hv : Int32.ofInt n = x) (k : sS Z M V fin (pc + 1) lv (.int x :: st) h X) : sS Z M V fin pc lv (st) h X := by
  obtain ⟨p, l, e, R, s, m, args, below, meth, c⟩ := M
  obtain ⟨D, cA, ad⟩ := V
  intro r hX H locs ls hl hP hS
  exact lv_iconst O.1 O.2.1 d hv (k r hX H locs ls hl hP hS)
theorem r_bipush (O : sOk Z M V cc nL own ret rm) {n : Int} {x : Int32} (d : decode cc pc = .ok (.bipush n, 2)) (hv : (Int8.ofInt n).toInt32 = x) (k : sS Z M V fin (pc + 2) lv (.int x :: st) h X) : sS Z M V fin pc lv (st) h X := by
  obtain ⟨p, l, e, R, s, m, args, below, meth, c⟩ := M
  obtain ⟨D, cA, ad⟩ := V
  intro r hX H locs ls hl hP hS
  exact lv_bipush O.1 O.2.1 d hv (k r hX H locs ls hl hP hS)
theorem r_sipush (O : sOk Z M V cc nL own ret rm) {n : Int} {x : Int32} (d : decode cc pc = .ok (.sipush n, 3)) (hv : (Int16.ofInt n).toInt32 = x) (k : sS Z M V fin (pc + 3) lv (.int x :: st) h X) : sS Z M V fin pc lv (st) h X := by
  obtain ⟨p, l, e, R, s, m, args, below, meth, c⟩ := M
  obtain ⟨D, cA, ad⟩ := V
  intro r hX H locs ls hl hP hS
  exact lv_sipush O.1 O.2.1 d hv (k r hX H locs ls hl hP hS)
theorem r_lconst (O : sOk Z M V cc nL own ret rm) {n : Fin 2} {x : Int64} (d : decode cc pc = .ok (.lconst n, 1)) (hv : Int64.ofNat (n : Nat) = x) (k : sS Z M V fin (pc + 1) lv (.long x :: st) h X) : sS Z M V fin pc lv (st) h X := by
  obtain ⟨p, l, e, R, s, m, args, below, meth, c⟩ := M
  obtain ⟨D, cA, ad⟩ := V
  intro r hX H locs ls hl hP hS
  exact lv_lconst O.1 O.2.1 d hv (k r hX H locs ls hl hP hS)
theorem r_iload_n (O : sOk Z M V cc nL own ret rm) {j : Fin 4} {x : Int32} (d : decode cc pc = .ok (.iload_n j, 1)) (i : Nat) (hk : lv[i]? = some ((j : Nat), .int x)) (k : sS Z M V fin (pc + 1) lv (.int x :: st) h X) : sS Z M V fin pc lv (st) h X := by
  obtain ⟨p, l, e, R, s, m, args, below, meth, c⟩ := M
  obtain ⟨D, cA, ad⟩ := V
  intro r hX H locs ls hl hP hS
  exact lv_iload_n O.1 O.2.1 d rfl (lv_at hl i (by rw [sLv, List.getElem?_map, hk]; rfl)) (k r hX H locs ls hl hP hS)
theorem r_iload (O : sOk Z M V cc nL own ret rm) {j : Nat} {x : Int32} (d : decode cc pc = .ok (.iload j, 2)) (i : Nat) (hk : lv[i]? = some (j, .int x)) (k : sS Z M V fin (pc + 2) lv (.int x :: st) h X) : sS Z M V fin pc lv (st) h X := by
  obtain ⟨p, l, e, R, s, m, args, below, meth, c⟩ := M
  obtain ⟨D, cA, ad⟩ := V
  intro r hX H locs ls hl hP hS
  exact lv_iload O.1 O.2.1 d (lv_at hl i (by rw [sLv, List.getElem?_map, hk]; rfl)) (k r hX H locs ls hl hP hS)
theorem r_lload_n (O : sOk Z M V cc nL own ret rm) {j : Fin 4} {x : Int64} (d : decode cc pc = .ok (.lload_n j, 1)) (i : Nat) (hk : lv[i]? = some ((j : Nat), .long x)) (k : sS Z M V fin (pc + 1) lv (.long x :: st) h X) : sS Z M V fin pc lv (st) h X := by
  obtain ⟨p, l, e, R, s, m, args, below, meth, c⟩ := M
  obtain ⟨D, cA, ad⟩ := V
  intro r hX H locs ls hl hP hS
  exact lv_lload_n O.1 O.2.1 d rfl (lv_at hl i (by rw [sLv, List.getElem?_map, hk]; rfl)) (k r hX H locs ls hl hP hS)
theorem r_lload (O : sOk Z M V cc nL own ret rm) {j : Nat} {x : Int64} (d : decode cc pc = .ok (.lload j, 2)) (i : Nat) (hk : lv[i]? = some (j, .long x)) (k : sS Z M V fin (pc + 2) lv (.long x :: st) h X) : sS Z M V fin pc lv (st) h X := by
  obtain ⟨p, l, e, R, s, m, args, below, meth, c⟩ := M
  obtain ⟨D, cA, ad⟩ := V
  intro r hX H locs ls hl hP hS
  exact lv_lload O.1 O.2.1 d (lv_at hl i (by rw [sLv, List.getElem?_map, hk]; rfl)) (k r hX H locs ls hl hP hS)
theorem r_aload_n (O : sOk Z M V cc nL own ret rm) {j : Fin 4} {x : Nat} (d : decode cc pc = .ok (.aload_n j, 1)) (i : Nat) (hk : lv[i]? = some ((j : Nat), .ref x)) (k : sS Z M V fin (pc + 1) lv (.ref x :: st) h X) : sS Z M V fin pc lv (st) h X := by
  obtain ⟨p, l, e, R, s, m, args, below, meth, c⟩ := M
  obtain ⟨D, cA, ad⟩ := V
  intro r hX H locs ls hl hP hS
  exact lv_aload_n O.1 O.2.1 d rfl (lv_at hl i (by rw [sLv, List.getElem?_map, hk]; rfl)) (k r hX H locs ls hl hP hS)
theorem r_aload (O : sOk Z M V cc nL own ret rm) {j : Nat} {x : Nat} (d : decode cc pc = .ok (.aload j, 2)) (i : Nat) (hk : lv[i]? = some (j, .ref x)) (k : sS Z M V fin (pc + 2) lv (.ref x :: st) h X) : sS Z M V fin pc lv (st) h X := by
  obtain ⟨p, l, e, R, s, m, args, below, meth, c⟩ := M
  obtain ⟨D, cA, ad⟩ := V
  intro r hX H locs ls hl hP hS
  exact lv_aload O.1 O.2.1 d (lv_at hl i (by rw [sLv, List.getElem?_map, hk]; rfl)) (k r hX H locs ls hl hP hS)
theorem sLv_f1 {ad : Nat → Nat} {lv : List (Nat × Value)} {i : Nat} : (sLv ad lv).filter (fun q => !(q.1 == i) && !(q.1 + 1 == i && q.2.category == 2)) = sLv ad (lv.filter (fun q => !(q.1 == i) && !(q.1 + 1 == i && q.2.category == 2))) := by
  simp only [sLv, List.filter_map, Function.comp_def, sV_cat]
theorem sLv_f2 {ad : Nat → Nat} {lv : List (Nat × Value)} {i : Nat} : (sLv ad lv).filter (fun q => !(q.1 == i) && (!(q.1 == i + 1) && !(q.1 + 1 == i && q.2.category == 2))) = sLv ad (lv.filter (fun q => !(q.1 == i) && (!(q.1 == i + 1) && !(q.1 + 1 == i && q.2.category == 2)))) := by
  simp only [sLv, List.filter_map, Function.comp_def, sV_cat]
theorem r_istore_n (O : sOk Z M V cc nL own ret rm) {j : Fin 4} {i : Nat} {x : Int32} (d : decode cc pc = .ok (.istore_n j, 1)) (hj : (j : Nat) = i) (hn : i < nL) (hf : (i, Value.int x) :: lv.filter (fun q => !(q.1 == i) && !(q.1 + 1 == i && q.2.category == 2)) = lv') (k : sS Z M V fin (pc + 1) lv' st h X) : sS Z M V fin pc lv (.int x :: st) h X := by
  obtain ⟨p, l, e, R, s, m, args, below, meth, c⟩ := M
  obtain ⟨D, cA, ad⟩ := V
  intro r hX H locs ls hl hP hS
  subst hf
  have hml : c.maxLocals = nL := O.2.2.1
  exact lv_istore_n (x := x) O.1 O.2.1 d hj hl (by rw [hml]; exact hn) (by first | (rw [sLv_f1]; rfl) | rw [sLv_f1]) (fun ls' hl' => k r hX H locs ls' hl' hP hS)
theorem r_istore (O : sOk Z M V cc nL own ret rm) {i : Nat} {x : Int32} (d : decode cc pc = .ok (.istore i, 2)) (hn : i < nL) (hf : (i, Value.int x) :: lv.filter (fun q => !(q.1 == i) && !(q.1 + 1 == i && q.2.category == 2)) = lv') (k : sS Z M V fin (pc + 2) lv' st h X) : sS Z M V fin pc lv (.int x :: st) h X := by
  obtain ⟨p, l, e, R, s, m, args, below, meth, c⟩ := M
  obtain ⟨D, cA, ad⟩ := V
  intro r hX H locs ls hl hP hS
  subst hf
  have hml : c.maxLocals = nL := O.2.2.1
  exact lv_istore (x := x) O.1 O.2.1 d hl (by rw [hml]; exact hn) (by first | (rw [sLv_f1]; rfl) | rw [sLv_f1]) (fun ls' hl' => k r hX H locs ls' hl' hP hS)
theorem r_lstore_n (O : sOk Z M V cc nL own ret rm) {j : Fin 4} {i : Nat} {x : Int64} (d : decode cc pc = .ok (.lstore_n j, 1)) (hj : (j : Nat) = i) (hn : i + 1 < nL) (hf : (i, Value.long x) :: lv.filter (fun q => !(q.1 == i) && (!(q.1 == i + 1) && !(q.1 + 1 == i && q.2.category == 2))) = lv') (k : sS Z M V fin (pc + 1) lv' st h X) : sS Z M V fin pc lv (.long x :: st) h X := by
  obtain ⟨p, l, e, R, s, m, args, below, meth, c⟩ := M
  obtain ⟨D, cA, ad⟩ := V
  intro r hX H locs ls hl hP hS
  subst hf
  have hml : c.maxLocals = nL := O.2.2.1
  exact lv_lstore_n (x := x) O.1 O.2.1 d hj hl (by rw [hml]; exact hn) (by first | (rw [sLv_f2]; rfl) | rw [sLv_f2]) (fun ls' hl' => k r hX H locs ls' hl' hP hS)
theorem r_lstore (O : sOk Z M V cc nL own ret rm) {i : Nat} {x : Int64} (d : decode cc pc = .ok (.lstore i, 2)) (hn : i + 1 < nL) (hf : (i, Value.long x) :: lv.filter (fun q => !(q.1 == i) && (!(q.1 == i + 1) && !(q.1 + 1 == i && q.2.category == 2))) = lv') (k : sS Z M V fin (pc + 2) lv' st h X) : sS Z M V fin pc lv (.long x :: st) h X := by
  obtain ⟨p, l, e, R, s, m, args, below, meth, c⟩ := M
  obtain ⟨D, cA, ad⟩ := V
  intro r hX H locs ls hl hP hS
  subst hf
  have hml : c.maxLocals = nL := O.2.2.1
  exact lv_lstore (x := x) O.1 O.2.1 d hl (by rw [hml]; exact hn) (by first | (rw [sLv_f2]; rfl) | rw [sLv_f2]) (fun ls' hl' => k r hX H locs ls' hl' hP hS)
theorem r_astore_n (O : sOk Z M V cc nL own ret rm) {j : Fin 4} {i : Nat} {x : Nat} (d : decode cc pc = .ok (.astore_n j, 1)) (hj : (j : Nat) = i) (hn : i < nL) (hf : (i, Value.ref x) :: lv.filter (fun q => !(q.1 == i) && !(q.1 + 1 == i && q.2.category == 2)) = lv') (k : sS Z M V fin (pc + 1) lv' st h X) : sS Z M V fin pc lv (.ref x :: st) h X := by
  obtain ⟨p, l, e, R, s, m, args, below, meth, c⟩ := M
  obtain ⟨D, cA, ad⟩ := V
  intro r hX H locs ls hl hP hS
  subst hf
  have hml : c.maxLocals = nL := O.2.2.1
  exact lv_astore_n (x := ad x) O.1 O.2.1 d hj hl (by rw [hml]; exact hn) (by first | (rw [sLv_f1]; rfl) | rw [sLv_f1]) (fun ls' hl' => k r hX H locs ls' hl' hP hS)
theorem r_astore (O : sOk Z M V cc nL own ret rm) {i : Nat} {x : Nat} (d : decode cc pc = .ok (.astore i, 2)) (hn : i < nL) (hf : (i, Value.ref x) :: lv.filter (fun q => !(q.1 == i) && !(q.1 + 1 == i && q.2.category == 2)) = lv') (k : sS Z M V fin (pc + 2) lv' st h X) : sS Z M V fin pc lv (.ref x :: st) h X := by
  obtain ⟨p, l, e, R, s, m, args, below, meth, c⟩ := M
  obtain ⟨D, cA, ad⟩ := V
  intro r hX H locs ls hl hP hS
  subst hf
  have hml : c.maxLocals = nL := O.2.2.1
  exact lv_astore (x := ad x) O.1 O.2.1 d hl (by rw [hml]; exact hn) (by first | (rw [sLv_f1]; rfl) | rw [sLv_f1]) (fun ls' hl' => k r hX H locs ls' hl' hP hS)
theorem r_iinc (O : sOk Z M V cc nL own ret rm) {i : Nat} {n : Int} {x y : Int32} (d : decode cc pc = .ok (.iinc i n, 3)) (q : Nat) (hk : lv[q]? = some (i, .int x)) (hv : x + Int32.ofInt n = y) (hn : i < nL) (hf : (i, Value.int y) :: lv.filter (fun q => !(q.1 == i) && !(q.1 + 1 == i && q.2.category == 2)) = lv') (k : sS Z M V fin (pc + 3) lv' st h X) : sS Z M V fin pc lv st h X := by
  obtain ⟨p, l, e, R, s, m, args, below, meth, c⟩ := M
  obtain ⟨D, cA, ad⟩ := V
  intro r hX H locs ls hl hP hS
  subst hf
  have hml : c.maxLocals = nL := O.2.2.1
  exact lv_iinc (k := q) O.1 O.2.1 d hl (by rw [sLv, List.getElem?_map, hk]; rfl) hv (by rw [hml]; exact hn) (by rw [sLv_f1]; rfl) (fun ls' hl' => k r hX H locs ls' hl' hP hS)
theorem sLv_pick {ad : Nat → Nat} {lv : List (Nat × Value)} {ks : List Nat} : lv_pick (sLv ad lv) ks = sLv ad (lv_pick lv ks) := by
  unfold lv_pick sLv
  induction ks with
  | nil => rfl
  | cons a t ih =>
    rw [List.filterMap_cons, List.filterMap_cons, List.getElem?_map]
    cases lv[a]? with
    | none => exact ih
    | some q => simp only [Option.map_some, List.map_cons]; rw [ih]
/-- fewer listed locals, in another order -/
theorem r_lv (ks : List Nat) (hs : lv_pick lv ks = lv') (k : sS Z M V fin pc lv' st h X) : sS Z M V fin pc lv st h X := by
  obtain ⟨p, l, e, R, s, m, args, below, meth, c⟩ := M
  obtain ⟨D, cA, ad⟩ := V
  intro r hX H locs ls hl hP hS
  refine k r hX H locs ls (lv_sub hl ks ?_) hP hS
  subst hs
  exact sLv_pick
/-- another way to write the same state -/
theorem r_eq {pc' : Nat} {st' : List Value} {h' : sHp} (e1 : pc = pc') (e2 : lv = lv') (e3 : st = st') (e4 : h = h') (k : sS Z M V fin pc' lv' st' h' X) : sS Z M V fin pc lv st h X := by
  subst e1; subst e2; subst e3; subst e4; exact k
theorem r_iadd (O : sOk Z M V cc nL own ret rm) {x y : Int32} (d : decode cc pc = .ok (.iadd, 1))  (k : sS Z M V fin (pc + 1) lv (.int (x + y) :: st) h X) : sS Z M V fin pc lv (.int y :: .int x :: st) h X := by
  obtain ⟨p, l, e, R, s, m, args, below, meth, c⟩ := M
  obtain ⟨D, cA, ad⟩ := V
  intro r hX H locs ls hl hP hS
  exact lv_iadd O.1 O.2.1 d (k r hX H locs ls hl hP hS)
theorem r_isub (O : sOk Z M V cc nL own ret rm) {x y : Int32} (d : decode cc pc = .ok (.isub, 1))  (k : sS Z M V fin (pc + 1) lv (.int (x - y) :: st) h X) : sS Z M V fin pc lv (.int y :: .int x :: st) h X := by
  obtain ⟨p, l, e, R, s, m, args, below, meth, c⟩ := M
  obtain ⟨D, cA, ad⟩ := V
  intro r hX H locs ls hl hP hS
  exact lv_isub O.1 O.2.1 d (k r hX H locs ls hl hP hS)
theorem r_imul (O : sOk Z M V cc nL own ret rm) {x y : Int32} (d : decode cc pc = .ok (.imul, 1))  (k : sS Z M V fin (pc + 1) lv (.int (x * y) :: st) h X) : sS Z M V fin pc lv (.int y :: .int x :: st) h X := by
  obtain ⟨p, l, e, R, s, m, args, below, meth, c⟩ := M
  obtain ⟨D, cA, ad⟩ := V
  intro r hX H locs ls hl hP hS
  exact lv_imul O.1 O.2.1 d (k r hX H locs ls hl hP hS)
theorem r_iand (O : sOk Z M V cc nL own ret rm) {x y : Int32} (d : decode cc pc = .ok (.iand, 1))  (k : sS Z M V fin (pc + 1) lv (.int (x &&& y) :: st) h X) : sS Z M V fin pc lv (.int y :: .int x :: st) h X := by
  obtain ⟨p, l, e, R, s, m, args, below, meth, c⟩ := M
  obtain ⟨D, cA, ad⟩ := V
  intro r hX H locs ls hl hP hS
  exact lv_iand O.1 O.2.1 d (k r hX H locs ls hl hP hS)
theorem r_ior (O : sOk Z M V cc nL own ret rm) {x y : Int32} (d : decode cc pc = .ok (.ior, 1))  (k : sS Z M V fin (pc + 1) lv (.int (x ||| y) :: st) h X) : sS Z M V fin pc lv (.int y :: .int x :: st) h X := by
  obtain ⟨p, l, e, R, s, m, args, below, meth, c⟩ := M
  obtain ⟨D, cA, ad⟩ := V
  intro r hX H locs ls hl hP hS
  exact lv_ior O.1 O.2.1 d (k r hX H locs ls hl hP hS)
theorem r_ixor (O : sOk Z M V cc nL own ret rm) {x y : Int32} (d : decode cc pc = .ok (.ixor, 1))  (k : sS Z M V fin (pc + 1) lv (.int (x ^^^ y) :: st) h X) : sS Z M V fin pc lv (.int y :: .int x :: st) h X := by
  obtain ⟨p, l, e, R, s, m, args, below, meth, c⟩ := M
  obtain ⟨D, cA, ad⟩ := V
  intro r hX H locs ls hl hP hS
  exact lv_ixor O.1 O.2.1 d (k r hX H locs ls hl hP hS)
theorem r_ladd (O : sOk Z M V cc nL own ret rm) {x y : Int64} (d : decode cc pc = .ok (.ladd, 1))  (k : sS Z M V fin (pc + 1) lv (.long (x + y) :: st) h X) : sS Z M V fin pc lv (.long y :: .long x :: st) h X := by
  obtain ⟨p, l, e, R, s, m, args, below, meth, c⟩ := M
  obtain ⟨D, cA, ad⟩ := V
  intro r hX H locs ls hl hP hS
  exact lv_ladd O.1 O.2.1 d (k r hX H locs ls hl hP hS)
theorem r_lsub (O : sOk Z M V cc nL own ret rm) {x y : Int64} (d : decode cc pc = .ok (.lsub, 1))  (k : sS Z M V fin (pc + 1) lv (.long (x - y) :: st) h X) : sS Z M V fin pc lv (.long y :: .long x :: st) h X := by
  obtain ⟨p, l, e, R, s, m, args, below, meth, c⟩ := M
  obtain ⟨D, cA, ad⟩ := V
  intro r hX H locs ls hl hP hS
  exact lv_lsub O.1 O.2.1 d (k r hX H locs ls hl hP hS)
theorem r_lmul (O : sOk Z M V cc nL own ret rm) {x y : Int64} (d : decode cc pc = .ok (.lmul, 1))  (k : sS Z M V fin (pc + 1) lv (.long (x * y) :: st) h X) : sS Z M V fin pc lv (.long y :: .long x :: st) h X := by
  obtain ⟨p, l, e, R, s, m, args, below, meth, c⟩ := M
  obtain ⟨D, cA, ad⟩ := V
  intro r hX H locs ls hl hP hS
  exact lv_lmul O.1 O.2.1 d (k r hX H locs ls hl hP hS)
theorem r_land (O : sOk Z M V cc nL own ret rm) {x y : Int64} (d : decode cc pc = .ok (.land, 1))  (k : sS Z M V fin (pc + 1) lv (.long (x &&& y) :: st) h X) : sS Z M V fin pc lv (.long y :: .long x :: st) h X := by
  obtain ⟨p, l, e, R, s, m, args, below, meth, c⟩ := M
  obtain ⟨D, cA, ad⟩ := V
  intro r hX H locs ls hl hP hS
  exact lv_land O.1 O.2.1 d (k r hX H locs ls hl hP hS)
theorem r_lor (O : sOk Z M V cc nL own ret rm) {x y : Int64} (d : decode cc pc = .ok (.lor, 1))  (k : sS Z M V fin (pc + 1) lv (.long (x ||| y) :: st) h X) : sS Z M V fin pc lv (.long y :: .long x :: st) h X := by
  obtain ⟨p, l, e, R, s, m, args, below, meth, c⟩ := M
  obtain ⟨D, cA, ad⟩ := V
  intro r hX H locs ls hl hP hS
  exact lv_lor O.1 O.2.1 d (k r hX H locs ls hl hP hS)
theorem r_lxor (O : sOk Z M V cc nL own ret rm) {x y : Int64} (d : decode cc pc = .ok (.lxor, 1))  (k : sS Z M V fin (pc + 1) lv (.long (x ^^^ y) :: st) h X) : sS Z M V fin pc lv (.long y :: .long x :: st) h X := by
  obtain ⟨p, l, e, R, s, m, args, below, meth, c⟩ := M
  obtain ⟨D, cA, ad⟩ := V
  intro r hX H locs ls hl hP hS
  exact lv_lxor O.1 O.2.1 d (k r hX H locs ls hl hP hS)
theorem r_idiv (O : sOk Z M V cc nL own ret rm) {x y : Int32} (d : decode cc pc = .ok (.idiv, 1)) (hne : ¬ y = 0) (k : sS Z M V fin (pc + 1) lv (.int (x / y) :: st) h X) : sS Z M V fin pc lv (.int y :: .int x :: st) h X := by
  obtain ⟨p, l, e, R, s, m, args, below, meth, c⟩ := M
  obtain ⟨D, cA, ad⟩ := V
  intro r hX H locs ls hl hP hS
  exact lv_idiv O.1 O.2.1 d hne (k r hX H locs ls hl hP hS)
theorem r_irem (O : sOk Z M V cc nL own ret rm) {x y : Int32} (d : decode cc pc = .ok (.irem, 1)) (hne : ¬ y = 0) (k : sS Z M V fin (pc + 1) lv (.int (jRem x y) :: st) h X) : sS Z M V fin pc lv (.int y :: .int x :: st) h X := by
  obtain ⟨p, l, e, R, s, m, args, below, meth, c⟩ := M
  obtain ⟨D, cA, ad⟩ := V
  intro r hX H locs ls hl hP hS
  exact lv_irem O.1 O.2.1 d hne (k r hX H locs ls hl hP hS)
theorem r_ineg (O : sOk Z M V cc nL own ret rm) {x : Int32} (d : decode cc pc = .ok (.ineg, 1))  (k : sS Z M V fin (pc + 1) lv (.int (-x) :: st) h X) : sS Z M V fin pc lv (.int x :: st) h X := by
  obtain ⟨p, l, e, R, s, m, args, below, meth, c⟩ := M
  obtain ⟨D, cA, ad⟩ := V
  intro r hX H locs ls hl hP hS
  exact lv_ineg O.1 O.2.1 d (k r hX H locs ls hl hP hS)
theorem r_lneg (O : sOk Z M V cc nL own ret rm) {x : Int64} (d : decode cc pc = .ok (.lneg, 1))  (k : sS Z M V fin (pc + 1) lv (.long (-x) :: st) h X) : sS Z M V fin pc lv (.long x :: st) h X := by
  obtain ⟨p, l, e, R, s, m, args, below, meth, c⟩ := M
  obtain ⟨D, cA, ad⟩ := V
  intro r hX H locs ls hl hP hS
  exact lv_lneg O.1 O.2.1 d (k r hX H locs ls hl hP hS)
theorem r_ishl (O : sOk Z M V cc nL own ret rm) {x y : Int32} (d : decode cc pc = .ok (.ishl, 1))  (k : sS Z M V fin (pc + 1) lv (.int (jIshl x y) :: st) h X) : sS Z M V fin pc lv (.int y :: .int x :: st) h X := by
  obtain ⟨p, l, e, R, s, m, args, below, meth, c⟩ := M
  obtain ⟨D, cA, ad⟩ := V
  intro r hX H locs ls hl hP hS
  exact lv_ishl O.1 O.2.1 d (k r hX H locs ls hl hP hS)
theorem r_ishr (O : sOk Z M V cc nL own ret rm) {x y : Int32} (d : decode cc pc = .ok (.ishr, 1))  (k : sS Z M V fin (pc + 1) lv (.int (jIshr x y) :: st) h X) : sS Z M V fin pc lv (.int y :: .int x :: st) h X := by
  obtain ⟨p, l, e, R, s, m, args, below, meth, c⟩ := M
  obtain ⟨D, cA, ad⟩ := V
  intro r hX H locs ls hl hP hS
  exact lv_ishr O.1 O.2.1 d (k r hX H locs ls hl hP hS)
theorem r_i2l (O : sOk Z M V cc nL own ret rm) {x : Int32} (d : decode cc pc = .ok (.i2l, 1))  (k : sS Z M V fin (pc + 1) lv (.long x.toInt64 :: st) h X) : sS Z M V fin pc lv (.int x :: st) h X := by
  obtain ⟨p, l, e, R, s, m, args, below, meth, c⟩ := M
  obtain ⟨D, cA, ad⟩ := V
  intro r hX H locs ls hl hP hS
  exact lv_i2l O.1 O.2.1 d rfl (k r hX H locs ls hl hP hS)
theorem r_l2i (O : sOk Z M V cc nL own ret rm) {x : Int64} (d : decode cc pc = .ok (.l2i, 1))  (k : sS Z M V fin (pc + 1) lv (.int x.toInt32 :: st) h X) : sS Z M V fin pc lv (.long x :: st) h X := by
  obtain ⟨p, l, e, R, s, m, args, below, meth, c⟩ := M
  obtain ⟨D, cA, ad⟩ := V
  intro r hX H locs ls hl hP hS
  exact lv_l2i O.1 O.2.1 d rfl (k r hX H locs ls hl hP hS)
theorem r_lushr (O : sOk Z M V cc nL own ret rm) {x : Int64} {y : Int32} (d : decode cc pc = .ok (.lushr, 1))  (k : sS Z M V fin (pc + 1) lv (.long (jLushr x y) :: st) h X) : sS Z M V fin pc lv (.int y :: .long x :: st) h X := by
  obtain ⟨p, l, e, R, s, m, args, below, meth, c⟩ := M
  obtain ⟨D, cA, ad⟩ := V
  intro r hX H locs ls hl hP hS
  exact lv_lushr O.1 O.2.1 d rfl (k r hX H locs ls hl hP hS)
theorem r_lshl (O : sOk Z M V cc nL own ret rm) {x : Int64} {y : Int32} (d : decode cc pc = .ok (.lshl, 1))  (k : sS Z M V fin (pc + 1) lv (.long (jLshl x y) :: st) h X) : sS Z M V fin pc lv (.int y :: .long x :: st) h X := by
  obtain ⟨p, l, e, R, s, m, args, below, meth, c⟩ := M
  obtain ⟨D, cA, ad⟩ := V
  intro r hX H locs ls hl hP hS
  exact lv_lshl O.1 O.2.1 d rfl (k r hX H locs ls hl hP hS)
theorem r_lcmp (O : sOk Z M V cc nL own ret rm) {x y : Int64} (d : decode cc pc = .ok (.lcmp, 1))  (k : sS Z M V fin (pc + 1) lv (.int (lg_cmp x y) :: st) h X) : sS Z M V fin pc lv (.long y :: .long x :: st) h X := by
  obtain ⟨p, l, e, R, s, m, args, below, meth, c⟩ := M
  obtain ⟨D, cA, ad⟩ := V
  intro r hX H locs ls hl hP hS
  exact W.lcmp O.1 O.2.1 d (k r hX H locs ls hl hP hS)
theorem r_dup (O : sOk Z M V cc nL own ret rm) {a : Value} (d : decode cc pc = .ok (.dup, 1)) (ha : a.category = 1) (k : sS Z M V fin (pc + 1) lv (a :: a :: st) h X) : sS Z M V fin pc lv (a :: st) h X := by
  obtain ⟨p, l, e, R, s, m, args, below, meth, c⟩ := M
  obtain ⟨D, cA, ad⟩ := V
  intro r hX H locs ls hl hP hS
  exact lv_dup O.1 O.2.1 d (by rw [sV_cat]; exact ha) (k r hX H locs ls hl hP hS)
theorem r_pop (O : sOk Z M V cc nL own ret rm) {a : Value} (d : decode cc pc = .ok (.pop, 1)) (ha : a.category = 1) (k : sS Z M V fin (pc + 1) lv (st) h X) : sS Z M V fin pc lv (a :: st) h X := by
  obtain ⟨p, l, e, R, s, m, args, below, meth, c⟩ := M
  obtain ⟨D, cA, ad⟩ := V
  intro r hX H locs ls hl hP hS
  exact lv_pop O.1 O.2.1 d (by rw [sV_cat]; exact ha) (k r hX H locs ls hl hP hS)
theorem r_dup_x1 (O : sOk Z M V cc nL own ret rm) {a b : Value} (d : decode cc pc = .ok (.dup_x1, 1)) (ha : a.category = 1) (hb : b.category = 1) (k : sS Z M V fin (pc + 1) lv (a :: b :: a :: st) h X) : sS Z M V fin pc lv (a :: b :: st) h X := by
  obtain ⟨p, l, e, R, s, m, args, below, meth, c⟩ := M
  obtain ⟨D, cA, ad⟩ := V
  intro r hX H locs ls hl hP hS
  exact lv_dup_x1 O.1 O.2.1 d (by rw [sV_cat]; exact ha) (by rw [sV_cat]; exact hb) (k r hX H locs ls hl hP hS)
theorem r_dup_x2 (O : sOk Z M V cc nL own ret rm) {a b g : Value} (d : decode cc pc = .ok (.dup_x2, 1)) (ha : a.category = 1) (hb : b.category = 1) (hg : g.category = 1) (k : sS Z M V fin (pc + 1) lv (a :: b :: g :: a :: st) h X) : sS Z M V fin pc lv (a :: b :: g :: st) h X := by
  obtain ⟨p, l, e, R, s, m, args, below, meth, c⟩ := M
  obtain ⟨D, cA, ad⟩ := V
  intro r hX H locs ls hl hP hS
  exact lv_dup_x2 O.1 O.2.1 d (by rw [sV_cat]; exact ha) (by rw [sV_cat]; exact hb) (by rw [sV_cat]; exact hg) (k r hX H locs ls hl hP hS)
theorem r_dup2_11 (O : sOk Z M V cc nL own ret rm) {a b : Value} (d : decode cc pc = .ok (.dup2, 1)) (ha : a.category = 1) (hb : b.category = 1) (k : sS Z M V fin (pc + 1) lv (a :: b :: a :: b :: st) h X) : sS Z M V fin pc lv (a :: b :: st) h X := by
  obtain ⟨p, l, e, R, s, m, args, below, meth, c⟩ := M
  obtain ⟨D, cA, ad⟩ := V
  intro r hX H locs ls hl hP hS
  exact lv_dup2_11 O.1 O.2.1 d (by rw [sV_cat]; exact ha) (by rw [sV_cat]; exact hb) (k r hX H locs ls hl hP hS)
theorem r_icmp_eq (O : sOk Z M V cc nL own ret rm) {x y : Int32} {off : Int} {tgt : Nat} (d : decode cc pc = .ok (.if_icmp .eq off, 3)) (ht : (pc : Int) + off = (tgt : Int)) (kt : x = y → sS Z M V fin tgt lv st h A) (kf : ¬ x = y → sS Z M V fin (pc + 3) lv st h B) : sS Z M V fin pc lv (.int y :: .int x :: st) h (if x = y then A else B) := by
  obtain ⟨p, l, e, R, s, m, args, below, meth, c⟩ := M
  obtain ⟨D, cA, ad⟩ := V
  intro r hX H locs ls hl hP hS
  exact lv_icmp_eq O.1 O.2.1 d ht (fun q => kt q r (by rw [if_pos q] at hX; exact hX) H locs ls hl hP hS) (fun q => kf q r (by rw [if_neg q] at hX; exact hX) H locs ls hl hP hS)
theorem r_icmp_eq_t (O : sOk Z M V cc nL own ret rm) {x y : Int32} {off : Int} {tgt : Nat} (d : decode cc pc = .ok (.if_icmp .eq off, 3)) (ht : (pc : Int) + off = (tgt : Int)) (q : x = y) (kt : sS Z M V fin tgt lv st h X) : sS Z M V fin pc lv (.int y :: .int x :: st) h X := by
  obtain ⟨p, l, e, R, s, m, args, below, meth, c⟩ := M
  obtain ⟨D, cA, ad⟩ := V
  intro r hX H locs ls hl hP hS
  exact lv_icmp_eq O.1 O.2.1 d ht (fun _ => kt r hX H locs ls hl hP hS) (fun q2 => absurd q q2)
theorem r_icmp_eq_f (O : sOk Z M V cc nL own ret rm) {x y : Int32} {off : Int} {tgt : Nat} (d : decode cc pc = .ok (.if_icmp .eq off, 3)) (ht : (pc : Int) + off = (tgt : Int)) (q : ¬ x = y) (kf : sS Z M V fin (pc + 3) lv st h X) : sS Z M V fin pc lv (.int y :: .int x :: st) h X := by
  obtain ⟨p, l, e, R, s, m, args, below, meth, c⟩ := M
  obtain ⟨D, cA, ad⟩ := V
  intro r hX H locs ls hl hP hS
  exact lv_icmp_eq O.1 O.2.1 d ht (fun q2 => absurd q2 q) (fun _ => kf r hX H locs ls hl hP hS)
theorem r_if_eq (O : sOk Z M V cc nL own ret rm) {x : Int32} {off : Int} {tgt : Nat} (d : decode cc pc = .ok (.ifCond .eq off, 3)) (ht : (pc : Int) + off = (tgt : Int)) (kt : x = 0 → sS Z M V fin tgt lv st h A) (kf : ¬ x = 0 → sS Z M V fin (pc + 3) lv st h B) : sS Z M V fin pc lv (.int x :: st) h (if x = 0 then A else B) := by
  obtain ⟨p, l, e, R, s, m, args, below, meth, c⟩ := M
  obtain ⟨D, cA, ad⟩ := V
  intro r hX H locs ls hl hP hS
  exact lv_if_eq O.1 O.2.1 d ht (fun q => kt q r (by rw [if_pos q] at hX; exact hX) H locs ls hl hP hS) (fun q => kf q r (by rw [if_neg q] at hX; exact hX) H locs ls hl hP hS)
theorem r_if_eq_t (O : sOk Z M V cc nL own ret rm) {x : Int32} {off : Int} {tgt : Nat} (d : decode cc pc = .ok (.ifCond .eq off, 3)) (ht : (pc : Int) + off = (tgt : Int)) (q : x = 0) (kt : sS Z M V fin tgt lv st h X) : sS Z M V fin pc lv (.int x :: st) h X := by
  obtain ⟨p, l, e, R, s, m, args, below, meth, c⟩ := M
  obtain ⟨D, cA, ad⟩ := V
  intro r hX H locs ls hl hP hS
  exact lv_if_eq O.1 O.2.1 d ht (fun _ => kt r hX H locs ls hl hP hS) (fun q2 => absurd q q2)
theorem r_if_eq_f (O : sOk Z M V cc nL own ret rm) {x : Int32} {off : Int} {tgt : Nat} (d : decode cc pc = .ok (.ifCond .eq off, 3)) (ht : (pc : Int) + off = (tgt : Int)) (q : ¬ x = 0) (kf : sS Z M V fin (pc + 3) lv st h X) : sS Z M V fin pc lv (.int x :: st) h X := by
  obtain ⟨p, l, e, R, s, m, args, below, meth, c⟩ := M
  obtain ⟨D, cA, ad⟩ := V
  intro r hX H locs ls hl hP hS
  exact lv_if_eq O.1 O.2.1 d ht (fun q2 => absurd q2 q) (fun _ => kf r hX H locs ls hl hP hS)
theorem r_icmp_ne (O : sOk Z M V cc nL own ret rm) {x y : Int32} {off : Int} {tgt : Nat} (d : decode cc pc = .ok (.if_icmp .ne off, 3)) (ht : (pc : Int) + off = (tgt : Int)) (kt : ¬ x = y → sS Z M V fin tgt lv st h A) (kf : x = y → sS Z M V fin (pc + 3) lv st h B) : sS Z M V fin pc lv (.int y :: .int x :: st) h (if x = y then B else A) := by
  obtain ⟨p, l, e, R, s, m, args, below, meth, c⟩ := M
  obtain ⟨D, cA, ad⟩ := V
  intro r hX H locs ls hl hP hS
  exact lv_icmp_ne O.1 O.2.1 d ht (fun q => kt q r (by rw [if_neg q] at hX; exact hX) H locs ls hl hP hS) (fun q => kf q r (by rw [if_pos q] at hX; exact hX) H locs ls hl hP hS)
theorem r_icmp_ne_t (O : sOk Z M V cc nL own ret rm) {x y : Int32} {off : Int} {tgt : Nat} (d : decode cc pc = .ok (.if_icmp .ne off, 3)) (ht : (pc : Int) + off = (tgt : Int)) (q : ¬ x = y) (kt : sS Z M V fin tgt lv st h X) : sS Z M V fin pc lv (.int y :: .int x :: st) h X := by
  obtain ⟨p, l, e, R, s, m, args, below, meth, c⟩ := M
  obtain ⟨D, cA, ad⟩ := V
  intro r hX H locs ls hl hP hS
  exact lv_icmp_ne O.1 O.2.1 d ht (fun _ => kt r hX H locs ls hl hP hS) (fun q2 => absurd q2 q)
theorem r_icmp_ne_f (O : sOk Z M V cc nL own ret rm) {x y : Int32} {off : Int} {tgt : Nat} (d : decode cc pc = .ok (.if_icmp .ne off, 3)) (ht : (pc : Int) + off = (tgt : Int)) (q : x = y) (kf : sS Z M V fin (pc + 3) lv st h X) : sS Z M V fin pc lv (.int y :: .int x :: st) h X := by
  obtain ⟨p, l, e, R, s, m, args, below, meth, c⟩ := M
  obtain ⟨D, cA, ad⟩ := V
  intro r hX H locs ls hl hP hS
  exact lv_icmp_ne O.1 O.2.1 d ht (fun q2 => absurd q q2) (fun _ => kf r hX H locs ls hl hP hS)
theorem r_if_ne (O : sOk Z M V cc nL own ret rm) {x : Int32} {off : Int} {tgt : Nat} (d : decode cc pc = .ok (.ifCond .ne off, 3)) (ht : (pc : Int) + off = (tgt : Int)) (kt : ¬ x = 0 → sS Z M V fin tgt lv st h A) (kf : x = 0 → sS Z M V fin (pc + 3) lv st h B) : sS Z M V fin pc lv (.int x :: st) h (if x = 0 then B else A) := by
  obtain ⟨p, l, e, R, s, m, args, below, meth, c⟩ := M
  obtain ⟨D, cA, ad⟩ := V
  intro r hX H locs ls hl hP hS
  exact lv_if_ne O.1 O.2.1 d ht (fun q => kt q r (by rw [if_neg q] at hX; exact hX) H locs ls hl hP hS) (fun q => kf q r (by rw [if_pos q] at hX; exact hX) H locs ls hl hP hS)
theorem r_if_ne_t (O : sOk Z M V cc nL own ret rm) {x : Int32} {off : Int} {tgt : Nat} (d : decode cc pc = .ok (.ifCond .ne off, 3)) (ht : (pc : Int) + off = (tgt : Int)) (q : ¬ x = 0) (kt : sS Z M V fin tgt lv st h X) : sS Z M V fin pc lv (.int x :: st) h X := by
  obtain ⟨p, l, e, R, s, m, args, below, meth, c⟩ := M
  obtain ⟨D, cA, ad⟩ := V
  intro r hX H locs ls hl hP hS
  exact lv_if_ne O.1 O.2.1 d ht (fun _ => kt r hX H locs ls hl hP hS) (fun q2 => absurd q2 q)
theorem r_if_ne_f (O : sOk Z M V cc nL own ret rm) {x : Int32} {off : Int} {tgt : Nat} (d : decode cc pc = .ok (.ifCond .ne off, 3)) (ht : (pc : Int) + off = (tgt : Int)) (q : x = 0) (kf : sS Z M V fin (pc + 3) lv st h X) : sS Z M V fin pc lv (.int x :: st) h X := by
  obtain ⟨p, l, e, R, s, m, args, below, meth, c⟩ := M
  obtain ⟨D, cA, ad⟩ := V
  intro r hX H locs ls hl hP hS
  exact lv_if_ne O.1 O.2.1 d ht (fun q2 => absurd q q2) (fun _ => kf r hX H locs ls hl hP hS)
theorem r_icmp_lt (O : sOk Z M V cc nL own ret rm) {x y : Int32} {off : Int} {tgt : Nat} (d : decode cc pc = .ok (.if_icmp .lt off, 3)) (ht : (pc : Int) + off = (tgt : Int)) (kt : x < y → sS Z M V fin tgt lv st h A) (kf : ¬ x < y → sS Z M V fin (pc + 3) lv st h B) : sS Z M V fin pc lv (.int y :: .int x :: st) h (if x < y then A else B) := by
  obtain ⟨p, l, e, R, s, m, args, below, meth, c⟩ := M
  obtain ⟨D, cA, ad⟩ := V
  intro r hX H locs ls hl hP hS
  exact lv_icmp_lt O.1 O.2.1 d ht (fun q => kt q r (by rw [if_pos q] at hX; exact hX) H locs ls hl hP hS) (fun q => kf q r (by rw [if_neg q] at hX; exact hX) H locs ls hl hP hS)
theorem r_icmp_lt_t (O : sOk Z M V cc nL own ret rm) {x y : Int32} {off : Int} {tgt : Nat} (d : decode cc pc = .ok (.if_icmp .lt off, 3)) (ht : (pc : Int) + off = (tgt : Int)) (q : x < y) (kt : sS Z M V fin tgt lv st h X) : sS Z M V fin pc lv (.int y :: .int x :: st) h X := by
  obtain ⟨p, l, e, R, s, m, args, below, meth, c⟩ := M
  obtain ⟨D, cA, ad⟩ := V
  intro r hX H locs ls hl hP hS
  exact lv_icmp_lt O.1 O.2.1 d ht (fun _ => kt r hX H locs ls hl hP hS) (fun q2 => absurd q q2)
theorem r_icmp_lt_f (O : sOk Z M V cc nL own ret rm) {x y : Int32} {off : Int} {tgt : Nat} (d : decode cc pc = .ok (.if_icmp .lt off, 3)) (ht : (pc : Int) + off = (tgt : Int)) (q : ¬ x < y) (kf : sS Z M V fin (pc + 3) lv st h X) : sS Z M V fin pc lv (.int y :: .int x :: st) h X := by
  obtain ⟨p, l, e, R, s, m, args, below, meth, c⟩ := M
  obtain ⟨D, cA, ad⟩ := V
  intro r hX H locs ls hl hP hS
  exact lv_icmp_lt O.1 O.2.1 d ht (fun q2 => absurd q2 q) (fun _ => kf r hX H locs ls hl hP hS)
theorem r_if_lt (O : sOk Z M V cc nL own ret rm) {x : Int32} {off : Int} {tgt : Nat} (d : decode cc pc = .ok (.ifCond .lt off, 3)) (ht : (pc : Int) + off = (tgt : Int)) (kt : x < 0 → sS Z M V fin tgt lv st h A) (kf : ¬ x < 0 → sS Z M V fin (pc + 3) lv st h B) : sS Z M V fin pc lv (.int x :: st) h (if x < 0 then A else B) := by
  obtain ⟨p, l, e, R, s, m, args, below, meth, c⟩ := M
  obtain ⟨D, cA, ad⟩ := V
  intro r hX H locs ls hl hP hS
  exact lv_if_lt O.1 O.2.1 d ht (fun q => kt q r (by rw [if_pos q] at hX; exact hX) H locs ls hl hP hS) (fun q => kf q r (by rw [if_neg q] at hX; exact hX) H locs ls hl hP hS)
theorem r_if_lt_t (O : sOk Z M V cc nL own ret rm) {x : Int32} {off : Int} {tgt : Nat} (d : decode cc pc = .ok (.ifCond .lt off, 3)) (ht : (pc : Int) + off = (tgt : Int)) (q : x < 0) (kt : sS Z M V fin tgt lv st h X) : sS Z M V fin pc lv (.int x :: st) h X := by
  obtain ⟨p, l, e, R, s, m, args, below, meth, c⟩ := M
  obtain ⟨D, cA, ad⟩ := V
  intro r hX H locs ls hl hP hS
  exact lv_if_lt O.1 O.2.1 d ht (fun _ => kt r hX H locs ls hl hP hS) (fun q2 => absurd q q2)
theorem r_if_lt_f (O : sOk Z M V cc nL own ret rm) {x : Int32} {off : Int} {tgt : Nat} (d : decode cc pc = .ok (.ifCond .lt off, 3)) (ht : (pc : Int) + off = (tgt : Int)) (q : ¬ x < 0) (kf : sS Z M V fin (pc + 3) lv st h X) : sS Z M V fin pc lv (.int x :: st) h X := by
  obtain ⟨p, l, e, R, s, m, args, below, meth, c⟩ := M
  obtain ⟨D, cA, ad⟩ := V
  intro r hX H locs ls hl hP hS
  exact lv_if_lt O.1 O.2.1 d ht (fun q2 => absurd q2 q) (fun _ => kf r hX H locs ls hl hP hS)
theorem r_icmp_ge (O : sOk Z M V cc nL own ret rm) {x y : Int32} {off : Int} {tgt : Nat} (d : decode cc pc = .ok (.if_icmp .ge off, 3)) (ht : (pc : Int) + off = (tgt : Int)) (kt : y ≤ x → sS Z M V fin tgt lv st h A) (kf : ¬ y ≤ x → sS Z M V fin (pc + 3) lv st h B) : sS Z M V fin pc lv (.int y :: .int x :: st) h (if y ≤ x then A else B) := by
  obtain ⟨p, l, e, R, s, m, args, below, meth, c⟩ := M
  obtain ⟨D, cA, ad⟩ := V
  intro r hX H locs ls hl hP hS
  exact lv_icmp_ge O.1 O.2.1 d ht (fun q => kt q r (by rw [if_pos q] at hX; exact hX) H locs ls hl hP hS) (fun q => kf q r (by rw [if_neg q] at hX; exact hX) H locs ls hl hP hS)
theorem r_icmp_ge_t (O : sOk Z M V cc nL own ret rm) {x y : Int32} {off : Int} {tgt : Nat} (d : decode cc pc = .ok (.if_icmp .ge off, 3)) (ht : (pc : Int) + off = (tgt : Int)) (q : y ≤ x) (kt : sS Z M V fin tgt lv st h X) : sS Z M V fin pc lv (.int y :: .int x :: st) h X := by
  obtain ⟨p, l, e, R, s, m, args, below, meth, c⟩ := M
  obtain ⟨D, cA, ad⟩ := V
  intro r hX H locs ls hl hP hS
  exact lv_icmp_ge O.1 O.2.1 d ht (fun _ => kt r hX H locs ls hl hP hS) (fun q2 => absurd q q2)
theorem r_icmp_ge_f (O : sOk Z M V cc nL own ret rm) {x y : Int32} {off : Int} {tgt : Nat} (d : decode cc pc = .ok (.if_icmp .ge off, 3)) (ht : (pc : Int) + off = (tgt : Int)) (q : ¬ y ≤ x) (kf : sS Z M V fin (pc + 3) lv st h X) : sS Z M V fin pc lv (.int y :: .int x :: st) h X := by
  obtain ⟨p, l, e, R, s, m, args, below, meth, c⟩ := M
  obtain ⟨D, cA, ad⟩ := V
  intro r hX H locs ls hl hP hS
  exact lv_icmp_ge O.1 O.2.1 d ht (fun q2 => absurd q2 q) (fun _ => kf r hX H locs ls hl hP hS)
theorem r_if_ge (O : sOk Z M V cc nL own ret rm) {x : Int32} {off : Int} {tgt : Nat} (d : decode cc pc = .ok (.ifCond .ge off, 3)) (ht : (pc : Int) + off = (tgt : Int)) (kt : 0 ≤ x → sS Z M V fin tgt lv st h A) (kf : ¬ 0 ≤ x → sS Z M V fin (pc + 3) lv st h B) : sS Z M V fin pc lv (.int x :: st) h (if 0 ≤ x then A else B) := by
  obtain ⟨p, l, e, R, s, m, args, below, meth, c⟩ := M
  obtain ⟨D, cA, ad⟩ := V
  intro r hX H locs ls hl hP hS
  exact lv_if_ge O.1 O.2.1 d ht (fun q => kt q r (by rw [if_pos q] at hX; exact hX) H locs ls hl hP hS) (fun q => kf q r (by rw [if_neg q] at hX; exact hX) H locs ls hl hP hS)
theorem r_if_ge_t (O : sOk Z M V cc nL own ret rm) {x : Int32} {off : Int} {tgt : Nat} (d : decode cc pc = .ok (.ifCond .ge off, 3)) (ht : (pc : Int) + off = (tgt : Int)) (q : 0 ≤ x) (kt : sS Z M V fin tgt lv st h X) : sS Z M V fin pc lv (.int x :: st) h X := by
  obtain ⟨p, l, e, R, s, m, args, below, meth, c⟩ := M
  obtain ⟨D, cA, ad⟩ := V
  intro r hX H locs ls hl hP hS
  exact lv_if_ge O.1 O.2.1 d ht (fun _ => kt r hX H locs ls hl hP hS) (fun q2 => absurd q q2)
theorem r_if_ge_f (O : sOk Z M V cc nL own ret rm) {x : Int32} {off : Int} {tgt : Nat} (d : decode cc pc = .ok (.ifCond .ge off, 3)) (ht : (pc : Int) + off = (tgt : Int)) (q : ¬ 0 ≤ x) (kf : sS Z M V fin (pc + 3) lv st h X) : sS Z M V fin pc lv (.int x :: st) h X := by
  obtain ⟨p, l, e, R, s, m, args, below, meth, c⟩ := M
  obtain ⟨D, cA, ad⟩ := V
  intro r hX H locs ls hl hP hS
  exact lv_if_ge O.1 O.2.1 d ht (fun q2 => absurd q2 q) (fun _ => kf r hX H locs ls hl hP hS)
theorem r_icmp_gt (O : sOk Z M V cc nL own ret rm) {x y : Int32} {off : Int} {tgt : Nat} (d : decode cc pc = .ok (.if_icmp .gt off, 3)) (ht : (pc : Int) + off = (tgt : Int)) (kt : y < x → sS Z M V fin tgt lv st h A) (kf : ¬ y < x → sS Z M V fin (pc + 3) lv st h B) : sS Z M V fin pc lv (.int y :: .int x :: st) h (if y < x then A else B) := by
  obtain ⟨p, l, e, R, s, m, args, below, meth, c⟩ := M
  obtain ⟨D, cA, ad⟩ := V
  intro r hX H locs ls hl hP hS
  exact lv_icmp_gt O.1 O.2.1 d ht (fun q => kt q r (by rw [if_pos q] at hX; exact hX) H locs ls hl hP hS) (fun q => kf q r (by rw [if_neg q] at hX; exact hX) H locs ls hl hP hS)
theorem r_icmp_gt_t (O : sOk Z M V cc nL own ret rm) {x y : Int32} {off : Int} {tgt : Nat} (d : decode cc pc = .ok (.if_icmp .gt off, 3)) (ht : (pc : Int) + off = (tgt : Int)) (q : y < x) (kt : sS Z M V fin tgt lv st h X) : sS Z M V fin pc lv (.int y :: .int x :: st) h X := by
  obtain ⟨p, l, e, R, s, m, args, below, meth, c⟩ := M
  obtain ⟨D, cA, ad⟩ := V
  intro r hX H locs ls hl hP hS
  exact lv_icmp_gt O.1 O.2.1 d ht (fun _ => kt r hX H locs ls hl hP hS) (fun q2 => absurd q q2)
theorem r_icmp_gt_f (O : sOk Z M V cc nL own ret rm) {x y : Int32} {off : Int} {tgt : Nat} (d : decode cc pc = .ok (.if_icmp .gt off, 3)) (ht : (pc : Int) + off = (tgt : Int)) (q : ¬ y < x) (kf : sS Z M V fin (pc + 3) lv st h X) : sS Z M V fin pc lv (.int y :: .int x :: st) h X := by
  obtain ⟨p, l, e, R, s, m, args, below, meth, c⟩ := M
  obtain ⟨D, cA, ad⟩ := V
  intro r hX H locs ls hl hP hS
  exact lv_icmp_gt O.1 O.2.1 d ht (fun q2 => absurd q2 q) (fun _ => kf r hX H locs ls hl hP hS)
theorem r_if_gt (O : sOk Z M V cc nL own ret rm) {x : Int32} {off : Int} {tgt : Nat} (d : decode cc pc = .ok (.ifCond .gt off, 3)) (ht : (pc : Int) + off = (tgt : Int)) (kt : 0 < x → sS Z M V fin tgt lv st h A) (kf : ¬ 0 < x → sS Z M V fin (pc + 3) lv st h B) : sS Z M V fin pc lv (.int x :: st) h (if 0 < x then A else B) := by
  obtain ⟨p, l, e, R, s, m, args, below, meth, c⟩ := M
  obtain ⟨D, cA, ad⟩ := V
  intro r hX H locs ls hl hP hS
  exact lv_if_gt O.1 O.2.1 d ht (fun q => kt q r (by rw [if_pos q] at hX; exact hX) H locs ls hl hP hS) (fun q => kf q r (by rw [if_neg q] at hX; exact hX) H locs ls hl hP hS)
theorem r_if_gt_t (O : sOk Z M V cc nL own ret rm) {x : Int32} {off : Int} {tgt : Nat} (d : decode cc pc = .ok (.ifCond .gt off, 3)) (ht : (pc : Int) + off = (tgt : Int)) (q : 0 < x) (kt : sS Z M V fin tgt lv st h X) : sS Z M V fin pc lv (.int x :: st) h X := by
  obtain ⟨p, l, e, R, s, m, args, below, meth, c⟩ := M
  obtain ⟨D, cA, ad⟩ := V
  intro r hX H locs ls hl hP hS
  exact lv_if_gt O.1 O.2.1 d ht (fun _ => kt r hX H locs ls hl hP hS) (fun q2 => absurd q q2)
theorem r_if_gt_f (O : sOk Z M V cc nL own ret rm) {x : Int32} {off : Int} {tgt : Nat} (d : decode cc pc = .ok (.ifCond .gt off, 3)) (ht : (pc : Int) + off = (tgt : Int)) (q : ¬ 0 < x) (kf : sS Z M V fin (pc + 3) lv st h X) : sS Z M V fin pc lv (.int x :: st) h X := by
  obtain ⟨p, l, e, R, s, m, args, below, meth, c⟩ := M
  obtain ⟨D, cA, ad⟩ := V
  intro r hX H locs ls hl hP hS
  exact lv_if_gt O.1 O.2.1 d ht (fun q2 => absurd q2 q) (fun _ => kf r hX H locs ls hl hP hS)
theorem r_icmp_le (O : sOk Z M V cc nL own ret rm) {x y : Int32} {off : Int} {tgt : Nat} (d : decode cc pc = .ok (.if_icmp .le off, 3)) (ht : (pc : Int) + off = (tgt : Int)) (kt : x ≤ y → sS Z M V fin tgt lv st h A) (kf : ¬ x ≤ y → sS Z M V fin (pc + 3) lv st h B) : sS Z M V fin pc lv (.int y :: .int x :: st) h (if x ≤ y then A else B) := by
  obtain ⟨p, l, e, R, s, m, args, below, meth, c⟩ := M
  obtain ⟨D, cA, ad⟩ := V
  intro r hX H locs ls hl hP hS
  exact lv_icmp_le O.1 O.2.1 d ht (fun q => kt q r (by rw [if_pos q] at hX; exact hX) H locs ls hl hP hS) (fun q => kf q r (by rw [if_neg q] at hX; exact hX) H locs ls hl hP hS)
theorem r_icmp_le_t (O : sOk Z M V cc nL own ret rm) {x y : Int32} {off : Int} {tgt : Nat} (d : decode cc pc = .ok (.if_icmp .le off, 3)) (ht : (pc : Int) + off = (tgt : Int)) (q : x ≤ y) (kt : sS Z M V fin tgt lv st h X) : sS Z M V fin pc lv (.int y :: .int x :: st) h X := by
  obtain ⟨p, l, e, R, s, m, args, below, meth, c⟩ := M
  obtain ⟨D, cA, ad⟩ := V
  intro r hX H locs ls hl hP hS
  exact lv_icmp_le O.1 O.2.1 d ht (fun _ => kt r hX H locs ls hl hP hS) (fun q2 => absurd q q2)
theorem r_icmp_le_f (O : sOk Z M V cc nL own ret rm) {x y : Int32} {off : Int} {tgt : Nat} (d : decode cc pc = .ok (.if_icmp .le off, 3)) (ht : (pc : Int) + off = (tgt : Int)) (q : ¬ x ≤ y) (kf : sS Z M V fin (pc + 3) lv st h X) : sS Z M V fin pc lv (.int y :: .int x :: st) h X := by
  obtain ⟨p, l, e, R, s, m, args, below, meth, c⟩ := M
  obtain ⟨D, cA, ad⟩ := V
  intro r hX H locs ls hl hP hS
  exact lv_icmp_le O.1 O.2.1 d ht (fun q2 => absurd q2 q) (fun _ => kf r hX H locs ls hl hP hS)
theorem r_if_le (O : sOk Z M V cc nL own ret rm) {x : Int32} {off : Int} {tgt : Nat} (d : decode cc pc = .ok (.ifCond .le off, 3)) (ht : (pc : Int) + off = (tgt : Int)) (kt : x ≤ 0 → sS Z M V fin tgt lv st h A) (kf : ¬ x ≤ 0 → sS Z M V fin (pc + 3) lv st h B) : sS Z M V fin pc lv (.int x :: st) h (if x ≤ 0 then A else B) := by
  obtain ⟨p, l, e, R, s, m, args, below, meth, c⟩ := M
  obtain ⟨D, cA, ad⟩ := V
  intro r hX H locs ls hl hP hS
  exact lv_if_le O.1 O.2.1 d ht (fun q => kt q r (by rw [if_pos q] at hX; exact hX) H locs ls hl hP hS) (fun q => kf q r (by rw [if_neg q] at hX; exact hX) H locs ls hl hP hS)
theorem r_if_le_t (O : sOk Z M V cc nL own ret rm) {x : Int32} {off : Int} {tgt : Nat} (d : decode cc pc = .ok (.ifCond .le off, 3)) (ht : (pc : Int) + off = (tgt : Int)) (q : x ≤ 0) (kt : sS Z M V fin tgt lv st h X) : sS Z M V fin pc lv (.int x :: st) h X := by
  obtain ⟨p, l, e, R, s, m, args, below, meth, c⟩ := M
  obtain ⟨D, cA, ad⟩ := V
  intro r hX H locs ls hl hP hS
  exact lv_if_le O.1 O.2.1 d ht (fun _ => kt r hX H locs ls hl hP hS) (fun q2 => absurd q q2)
theorem r_if_le_f (O : sOk Z M V cc nL own ret rm) {x : Int32} {off : Int} {tgt : Nat} (d : decode cc pc = .ok (.ifCond .le off, 3)) (ht : (pc : Int) + off = (tgt : Int)) (q : ¬ x ≤ 0) (kf : sS Z M V fin (pc + 3) lv st h X) : sS Z M V fin pc lv (.int x :: st) h X := by
  obtain ⟨p, l, e, R, s, m, args, below, meth, c⟩ := M
  obtain ⟨D, cA, ad⟩ := V
  intro r hX H locs ls hl hP hS
  exact lv_if_le O.1 O.2.1 d ht (fun q2 => absurd q2 q) (fun _ => kf r hX H locs ls hl hP hS)
theorem r_goto (O : sOk Z M V cc nL own ret rm) {off : Int} {tgt : Nat} (d : decode cc pc = .ok (.goto off, 3)) (ht : (pc : Int) + off = (tgt : Int)) (k : sS Z M V fin tgt lv st h X) : sS Z M V fin pc lv st h X := by
  obtain ⟨p, l, e, R, s, m, args, below, meth, c⟩ := M
  obtain ⟨D, cA, ad⟩ := V
  intro r hX H locs ls hl hP hS
  exact lv_goto O.1 O.2.1 d ht (k r hX H locs ls hl hP hS)
theorem r_tin (O : sOk Z M V cc nL own ret rm) {dflt lo hi : Int} {offs : Array Int} {len : Nat} {x : Int32} {off : Int} {tgt : Nat} (d : decode cc pc = .ok (.tableswitch dflt lo hi offs, len)) (h1 : ¬ x.toInt < lo) (h2 : ¬ hi < x.toInt) (ho : offs[(x.toInt - lo).toNat]? = some off) (ht : (pc : Int) + off = (tgt : Int)) (k : sS Z M V fin tgt lv st h X) : sS Z M V fin pc lv (.int x :: st) h X := by
  obtain ⟨p, l, e, R, s, m, args, below, meth, c⟩ := M
  obtain ⟨D, cA, ad⟩ := V
  intro r hX H locs ls hl hP hS
  exact lv_tableIn O.1 O.2.1 d h1 h2 ho ht (k r hX H locs ls hl hP hS)
theorem r_tout (O : sOk Z M V cc nL own ret rm) {dflt lo hi : Int} {offs : Array Int} {len : Nat} {x : Int32} {tgt : Nat} (d : decode cc pc = .ok (.tableswitch dflt lo hi offs, len)) (h1 : x.toInt < lo ∨ hi < x.toInt) (ht : (pc : Int) + dflt = (tgt : Int)) (k : sS Z M V fin tgt lv st h X) : sS Z M V fin pc lv (.int x :: st) h X := by
  obtain ⟨p, l, e, R, s, m, args, below, meth, c⟩ := M
  obtain ⟨D, cA, ad⟩ := V
  intro r hX H locs ls hl hP hS
  exact lv_tableOut O.1 O.2.1 d h1 ht (k r hX H locs ls hl hP hS)
theorem r_look (O : sOk Z M V cc nL own ret rm) {dflt : Int} {ps : Array (Int × Int)} {len : Nat} {x : Int32} {off : Int} {tgt : Nat} (d : decode cc pc = .ok (.lookupswitch dflt ps, len)) (hp : (ps.toList.zip (ps.toList.drop 1)).all (fun (a, next) => a.1 < next.1) = true) (ho : Op.lookupswitch.offset ps.toList dflt x.toInt = off) (ht : (pc : Int) + off = (tgt : Int)) (k : sS Z M V fin tgt lv st h X) : sS Z M V fin pc lv (.int x :: st) h X := by
  obtain ⟨p, l, e, R, s, m, args, below, meth, c⟩ := M
  obtain ⟨D, cA, ad⟩ := V
  intro r hX H locs ls hl hP hS
  exact lv_lookup O.1 O.2.1 d hp ho ht (k r hX H locs ls hl hP hS)
/-- a fork of the value alone -/
theorem r_ite {c : Prop} [Decidable c] (kt : c → sS Z M V fin pc lv st h A) (kf : ¬ c → sS Z M V fin pc lv st h B) : sS Z M V fin pc lv st h (if c then A else B) := by
  intro r hX
  by_cases q : c
  · rw [if_pos q] at hX; exact kt q r hX
  · rw [if_neg q] at hX; exact kf q r hX
theorem r_gd {b : Bool} (k : b = true → sS Z M V fin pc lv st h X) : sS Z M V fin pc lv st h (sGd b X) := by
  intro r hX
  obtain ⟨q1, q2⟩ := sGd_some hX
  exact k q1 r q2
theorem r_none : sS Z M V fin pc lv st h (none : Option ρ) := by
  intro r hX
  cases hX
/-- a loop -/
theorem r_fx {S : Type} (lf : S → List (Nat × Value)) (hf : S → sHp) (F : (S → Option ρ) → S → Option ρ) (k : ∀ rec : S → Option ρ, (∀ q, sS Z M V fin pc (lf q) st (hf q) (rec q)) → ∀ q, sS Z M V fin pc (lf q) st (hf q) (F rec q)) (n : Nat) : ∀ q, sS Z M V fin pc (lf q) st (hf q) (sFx F n q) := by
  induction n with
  | zero => intro q r hX; cases hX
  | succ n ih => intro q; exact k _ ih q
theorem sCl_a {cA : Nat → ClassId} {ad : Nat → Nat} {h : sHp} {i t n : Nat} (ht : ¬ t = 2) : sCl cA ad h i (.inl (t, n)) = .inl (cA t, n, .inl (h.1 i)) := by simp [sCl, ht]
theorem sCl_l {cA : Nat → ClassId} {ad : Nat → Nat} {h : sHp} {i n : Nat} : sCl cA ad h i (.inl (2, n)) = .inl (cA 2, n, .inr (.inl (h.2 i))) := by simp [sCl]
theorem pI_at (h : sHp) (i k : Nat) (x : Int32) : (pI h i k x).1 i = upd (h.1 i) k x := by simp [pI]
theorem pL_at (h : sHp) (i k : Nat) (x : Int64) : (pL h i k x).2 i = vp_updL (h.2 i) k x := by simp [pL]
theorem pI_off (h : sHp) (i k : Nat) (x : Int32) (j : Nat) (hj : j ≠ i) : (pI h i k x).1 j = h.1 j ∧ (pI h i k x).2 j = h.2 j := by simp [pI, hj]
theorem pL_off (h : sHp) (i k : Nat) (x : Int64) (j : Nat) (hj : j ≠ i) : (pL h i k x).1 j = h.1 j ∧ (pL h i k x).2 j = h.2 j := by simp [pL, hj]
theorem r_iald (O : sOk Z M V cc nL own ret rm) {i n : Nat} {j : Int32} {x : Int32} (hly : Z.2[i]? = some (.inl (0, n))) (d : decode cc pc = .ok (.iaload, 1)) (hx : h.1 i j.toNatClampNeg = x) (k : sS Z M V fin (pc + 1) lv (.int x :: st) h X) : sS Z M V fin pc lv (.int j :: .ref i :: st) h (sGd (sIn j n) X) := by
  obtain ⟨p, l, e, R, s, m, args, below, meth, c⟩ := M
  obtain ⟨D, cA, ad⟩ := V
  intro r hX H locs ls hl hP hS
  obtain ⟨q1, q2⟩ := sGd_some hX
  subst hx
  exact va_iald O.1 O.2.1 O.2.2.2.2.2.1 hP i 0 ((sWd_at hly).trans (by rw [sCl_a (by decide)])) rfl (sIn_iff.mp q1) d (k r q2 H locs ls hl hP hS)
theorem r_iald_c (O : sOk Z M V cc nL own ret rm) {i n : Nat} {j : Int32} {x : Int32} (hly : Z.2[i]? = some (.inl (0, n))) (hin : vp_in j n) (d : decode cc pc = .ok (.iaload, 1)) (hx : h.1 i j.toNatClampNeg = x) (k : sS Z M V fin (pc + 1) lv (.int x :: st) h X) : sS Z M V fin pc lv (.int j :: .ref i :: st) h X := by
  obtain ⟨p, l, e, R, s, m, args, below, meth, c⟩ := M
  obtain ⟨D, cA, ad⟩ := V
  intro r hX H locs ls hl hP hS
  subst hx
  exact va_iald O.1 O.2.1 O.2.2.2.2.2.1 hP i 0 ((sWd_at hly).trans (by rw [sCl_a (by decide)])) rfl hin d (k r hX H locs ls hl hP hS)
theorem r_zald (O : sOk Z M V cc nL own ret rm) {i n : Nat} {j : Int32} {x : Int32} (hly : Z.2[i]? = some (.inl (1, n))) (d : decode cc pc = .ok (.baload, 1)) (hx : h.1 i j.toNatClampNeg = x) (k : sS Z M V fin (pc + 1) lv (.int x :: st) h X) : sS Z M V fin pc lv (.int j :: .ref i :: st) h (sGd (sIn j n) X) := by
  obtain ⟨p, l, e, R, s, m, args, below, meth, c⟩ := M
  obtain ⟨D, cA, ad⟩ := V
  intro r hX H locs ls hl hP hS
  obtain ⟨q1, q2⟩ := sGd_some hX
  subst hx
  exact va_zald O.1 O.2.1 O.2.2.2.2.2.1 hP i 1 ((sWd_at hly).trans (by rw [sCl_a (by decide)])) rfl (sIn_iff.mp q1) d (k r q2 H locs ls hl hP hS)
theorem r_zald_c (O : sOk Z M V cc nL own ret rm) {i n : Nat} {j : Int32} {x : Int32} (hly : Z.2[i]? = some (.inl (1, n))) (hin : vp_in j n) (d : decode cc pc = .ok (.baload, 1)) (hx : h.1 i j.toNatClampNeg = x) (k : sS Z M V fin (pc + 1) lv (.int x :: st) h X) : sS Z M V fin pc lv (.int j :: .ref i :: st) h X := by
  obtain ⟨p, l, e, R, s, m, args, below, meth, c⟩ := M
  obtain ⟨D, cA, ad⟩ := V
  intro r hX H locs ls hl hP hS
  subst hx
  exact va_zald O.1 O.2.1 O.2.2.2.2.2.1 hP i 1 ((sWd_at hly).trans (by rw [sCl_a (by decide)])) rfl hin d (k r hX H locs ls hl hP hS)
theorem r_lald (O : sOk Z M V cc nL own ret rm) {i n : Nat} {j : Int32} {x : Int64} (hly : Z.2[i]? = some (.inl (2, n))) (d : decode cc pc = .ok (.laload, 1)) (hx : h.2 i j.toNatClampNeg = x) (k : sS Z M V fin (pc + 1) lv (.long x :: st) h X) : sS Z M V fin pc lv (.int j :: .ref i :: st) h (sGd (sIn j n) X) := by
  obtain ⟨p, l, e, R, s, m, args, below, meth, c⟩ := M
  obtain ⟨D, cA, ad⟩ := V
  intro r hX H locs ls hl hP hS
  obtain ⟨q1, q2⟩ := sGd_some hX
  subst hx
  exact va_lald O.1 O.2.1 O.2.2.2.2.2.1 hP i 2 ((sWd_at hly).trans (by rw [sCl_l])) rfl (sIn_iff.mp q1) d (k r q2 H locs ls hl hP hS)
theorem r_iast (O : sOk Z M V cc nL own ret rm) {i n : Nat} {j x : Int32} (hly : Z.2[i]? = some (.inl (0, n))) (d : decode cc pc = .ok (.iastore, 1)) (k : sS Z M V fin (pc + 1) lv st (pI h i j.toNatClampNeg x) X) : sS Z M V fin pc lv (.int x :: .int j :: .ref i :: st) h (sGd (sIn j n) X) := by
  obtain ⟨p, l, e, R, s, m, args, below, meth, c⟩ := M
  obtain ⟨D, cA, ad⟩ := V
  intro r hX H locs ls hl hP hS
  obtain ⟨q1, q2⟩ := sGd_some hX
  refine va_iast O.1 O.2.1 O.2.2.2.2.2.1 hP (sD_of O.2.2.2.2.2.2.1 h) hS i 0 ((sWd_at hly).trans (by rw [sCl_a (by decide)])) rfl (sIn_iff.mp q1) d (fun H1 locs1 hP1 _ hS1 => k r q2 H1 locs1 ls hl ?_ hS1)
  rw [sWd_set hly (by rw [sCl_a (by decide), pI_at]) (pI_off h i _ x)] at hP1
  exact hP1
theorem r_zast (O : sOk Z M V cc nL own ret rm) {i n : Nat} {j x y : Int32} (hly : Z.2[i]? = some (.inl (1, n))) (d : decode cc pc = .ok (.bastore, 1)) (hx : vp_nar .boolean x = y) (k : sS Z M V fin (pc + 1) lv st (pI h i j.toNatClampNeg y) X) : sS Z M V fin pc lv (.int x :: .int j :: .ref i :: st) h (sGd (sIn j n) X) := by
  obtain ⟨p, l, e, R, s, m, args, below, meth, c⟩ := M
  obtain ⟨D, cA, ad⟩ := V
  intro r hX H locs ls hl hP hS
  obtain ⟨q1, q2⟩ := sGd_some hX
  subst hx
  refine va_zast O.1 O.2.1 O.2.2.2.2.2.1 hP (sD_of O.2.2.2.2.2.2.1 h) hS i 1 ((sWd_at hly).trans (by rw [sCl_a (by decide)])) rfl (sIn_iff.mp q1) d (fun H1 locs1 hP1 _ hS1 => k r q2 H1 locs1 ls hl ?_ hS1)
  rw [sWd_set hly (by rw [sCl_a (by decide), pI_at]) (pI_off h i _ _)] at hP1
  exact hP1
theorem r_last (O : sOk Z M V cc nL own ret rm) {i n : Nat} {j : Int32} {x : Int64} (hly : Z.2[i]? = some (.inl (2, n))) (d : decode cc pc = .ok (.lastore, 1)) (k : sS Z M V fin (pc + 1) lv st (pL h i j.toNatClampNeg x) X) : sS Z M V fin pc lv (.long x :: .int j :: .ref i :: st) h (sGd (sIn j n) X) := by
  obtain ⟨p, l, e, R, s, m, args, below, meth, c⟩ := M
  obtain ⟨D, cA, ad⟩ := V
  intro r hX H locs ls hl hP hS
  obtain ⟨q1, q2⟩ := sGd_some hX
  refine va_last O.1 O.2.1 O.2.2.2.2.2.1 hP (sD_of O.2.2.2.2.2.2.1 h) hS i 2 ((sWd_at hly).trans (by rw [sCl_l])) rfl (sIn_iff.mp q1) d (fun H1 locs1 hP1 _ hS1 => k r q2 H1 locs1 ls hl ?_ hS1)
  rw [sWd_set hly (by rw [sCl_l, pL_at]) (pL_off h i _ x)] at hP1
  exact hP1
theorem r_lald_c (O : sOk Z M V cc nL own ret rm) {i n : Nat} {j : Int32} {x : Int64} (hly : Z.2[i]? = some (.inl (2, n))) (hin : vp_in j n) (d : decode cc pc = .ok (.laload, 1)) (hx : h.2 i j.toNatClampNeg = x) (k : sS Z M V fin (pc + 1) lv (.long x :: st) h X) : sS Z M V fin pc lv (.int j :: .ref i :: st) h X := by
  obtain ⟨p, l, e, R, s, m, args, below, meth, c⟩ := M
  obtain ⟨D, cA, ad⟩ := V
  intro r hX H locs ls hl hP hS
  subst hx
  exact va_lald O.1 O.2.1 O.2.2.2.2.2.1 hP i 2 ((sWd_at hly).trans (by rw [sCl_l])) rfl hin d (k r hX H locs ls hl hP hS)
theorem r_iast_c (O : sOk Z M V cc nL own ret rm) {i n : Nat} {j x : Int32} (hly : Z.2[i]? = some (.inl (0, n))) (hin : vp_in j n) (d : decode cc pc = .ok (.iastore, 1)) (k : sS Z M V fin (pc + 1) lv st (pI h i j.toNatClampNeg x) X) : sS Z M V fin pc lv (.int x :: .int j :: .ref i :: st) h X := by
  obtain ⟨p, l, e, R, s, m, args, below, meth, c⟩ := M
  obtain ⟨D, cA, ad⟩ := V
  intro r hX H locs ls hl hP hS
  refine va_iast O.1 O.2.1 O.2.2.2.2.2.1 hP (sD_of O.2.2.2.2.2.2.1 h) hS i 0 ((sWd_at hly).trans (by rw [sCl_a (by decide)])) rfl hin d (fun H1 locs1 hP1 _ hS1 => k r hX H1 locs1 ls hl ?_ hS1)
  rw [sWd_set hly (by rw [sCl_a (by decide), pI_at]) (pI_off h i _ x)] at hP1
  exact hP1
theorem r_zast_c (O : sOk Z M V cc nL own ret rm) {i n : Nat} {j x y : Int32} (hly : Z.2[i]? = some (.inl (1, n))) (hin : vp_in j n) (d : decode cc pc = .ok (.bastore, 1)) (hx : vp_nar .boolean x = y) (k : sS Z M V fin (pc + 1) lv st (pI h i j.toNatClampNeg y) X) : sS Z M V fin pc lv (.int x :: .int j :: .ref i :: st) h X := by
  obtain ⟨p, l, e, R, s, m, args, below, meth, c⟩ := M
  obtain ⟨D, cA, ad⟩ := V
  intro r hX H locs ls hl hP hS
  subst hx
  refine va_zast O.1 O.2.1 O.2.2.2.2.2.1 hP (sD_of O.2.2.2.2.2.2.1 h) hS i 1 ((sWd_at hly).trans (by rw [sCl_a (by decide)])) rfl hin d (fun H1 locs1 hP1 _ hS1 => k r hX H1 locs1 ls hl ?_ hS1)
  rw [sWd_set hly (by rw [sCl_a (by decide), pI_at]) (pI_off h i _ _)] at hP1
  exact hP1
theorem r_last_c (O : sOk Z M V cc nL own ret rm) {i n : Nat} {j : Int32} {x : Int64} (hly : Z.2[i]? = some (.inl (2, n))) (hin : vp_in j n) (d : decode cc pc = .ok (.lastore, 1)) (k : sS Z M V fin (pc + 1) lv st (pL h i j.toNatClampNeg x) X) : sS Z M V fin pc lv (.long x :: .int j :: .ref i :: st) h X := by
  obtain ⟨p, l, e, R, s, m, args, below, meth, c⟩ := M
  obtain ⟨D, cA, ad⟩ := V
  intro r hX H locs ls hl hP hS
  refine va_last O.1 O.2.1 O.2.2.2.2.2.1 hP (sD_of O.2.2.2.2.2.2.1 h) hS i 2 ((sWd_at hly).trans (by rw [sCl_l])) rfl hin d (fun H1 locs1 hP1 _ hS1 => k r hX H1 locs1 ls hl ?_ hS1)
  rw [sWd_set hly (by rw [sCl_l, pL_at]) (pL_off h i _ x)] at hP1
  exact hP1
theorem nz_0 : vp_nar .boolean 0 = 0 := by decide
theorem nz_1 : vp_nar .boolean 1 = 1 := by decide
def jMmax (x y : Int32) : Int32 := if x < y then y else x
def jMmin (x y : Int32) : Int32 := if y < x then y else x
theorem r_ldc2 (O : sOk Z M V cc nL own ret rm) {idx : Nat} {x : Int64} (d : decode cc pc = .ok (.ldc2_w idx, 3)) (w : Cond.constantLong own idx x ∈ sTB) (k : sS Z M V fin (pc + 3) lv (.long x :: st) h X) : sS Z M V fin pc lv st h X := by
  obtain ⟨p, l, e, R, s, m, args, below, meth, c⟩ := M
  obtain ⟨D, cA, ad⟩ := V
  intro r hX H locs ls hl hP hS
  exact lv_ldc2 O.1 O.2.1 O.2.2.2.1 (sTab_use O.2.2.2.2.1 w rfl args) d (k r hX H locs ls hl hP hS)
theorem r_mmax (O : sOk Z M V cc nL own ret rm) {idx : Nat} {x y : Int32} (d : decode cc pc = .ok (.invokestatic idx, 3)) (w1 : Cond.methodLink own idx Lib.Math.max.name ∈ sTB) (w2 : Cond.static Lib.Math.max.name ∈ sTB) (w3 : Cond.initialized "java/lang/Math" ∈ sTB) (w4 : Cond.code Lib.Math.max.name Lib.Math.max.code 2 (some .int) ∈ sTB) (hf : 1 ≤ rm.frames) (hlo : (st.map fun v => v.category).sum + 13 ≤ rm.locals) (k : sS Z M V fin (pc + 3) lv (.int (jMmax x y) :: st) h X) : sS Z M V fin pc lv (.int y :: .int x :: st) h X := by
  obtain ⟨p, l, e, R, s, m, args, below, meth, c⟩ := M
  obtain ⟨D, cA, ad⟩ := V
  intro r hX H locs ls hl hP hS
  obtain ⟨o1, o2, o3, o4, o5, o6, o7, o8, o9, o10⟩ := O
  subst o10
  exact va_mmax o1 o2 hl.1.symm o4 (sTab_use o5 w1 rfl args) (sTab_use o5 w2 rfl args) (sTab_use o5 w3 rfl args) (sTab_use o5 w4 rfl args) hf (by rw [sV_sum]; exact hlo) (Nat.zero_le _) (Nat.zero_le _) d (k r hX H locs ls hl hP hS)
theorem r_mmin (O : sOk Z M V cc nL own ret rm) {idx : Nat} {x y : Int32} (d : decode cc pc = .ok (.invokestatic idx, 3)) (w1 : Cond.methodLink own idx Lib.Math.min.name ∈ sTB) (w2 : Cond.static Lib.Math.min.name ∈ sTB) (w3 : Cond.initialized "java/lang/Math" ∈ sTB) (w4 : Cond.code Lib.Math.min.name Lib.Math.min.code 2 (some .int) ∈ sTB) (hf : 1 ≤ rm.frames) (hlo : (st.map fun v => v.category).sum + 13 ≤ rm.locals) (k : sS Z M V fin (pc + 3) lv (.int (jMmin x y) :: st) h X) : sS Z M V fin pc lv (.int y :: .int x :: st) h X := by
  obtain ⟨p, l, e, R, s, m, args, below, meth, c⟩ := M
  obtain ⟨D, cA, ad⟩ := V
  intro r hX H locs ls hl hP hS
  obtain ⟨o1, o2, o3, o4, o5, o6, o7, o8, o9, o10⟩ := O
  subst o10
  exact va_mmin o1 o2 hl.1.symm o4 (sTab_use o5 w1 rfl args) (sTab_use o5 w2 rfl args) (sTab_use o5 w3 rfl args) (sTab_use o5 w4 rfl args) hf (by rw [sV_sum]; exact hlo) (Nat.zero_le _) (Nat.zero_le _) d (k r hX H locs ls hl hP hS)
theorem r_alen (O : sOk Z M V cc nL own ret rm) {i t n : Nat} {x : Int32} (hly : Z.2[i]? = some (.inl (t, n))) (ht : t < 3) (hx : Int32.ofNat n = x) (d : decode cc pc = .ok (.arraylength, 1)) (k : sS Z M V fin (pc + 1) lv (.int x :: st) h X) : sS Z M V fin pc lv (.ref i :: st) h X := by
  obtain ⟨p, l, e, R, s, m, args, below, meth, c⟩ := M
  obtain ⟨D, cA, ad⟩ := V
  intro r hX H locs ls hl hP hS
  have h3 : ∃ ty, (sTy cA)[t]? = some (cA t, ty) := by
    match t, ht with
    | 0, _ => exact ⟨_, rfl⟩
    | 1, _ => exact ⟨_, rfl⟩
    | 2, _ => exact ⟨_, rfl⟩
  obtain ⟨ty, hty⟩ := h3
  exact va_alen O.1 O.2.1 O.2.2.2.2.2.1 hP i t (sWd_at hly) hty hx d (k r hX H locs ls hl hP hS)
/-- a field of a cell, as an instruction of a class names it -/
def sGf (Z : sZo) (own : String) (idx i k : Nat) (kd : sKd) : Prop := ∃ (ci N : Nat) (ks : List sKd) (C : String) (T : u_T), Z.2[i]? = some (.inr (ci, ks)) ∧ ks[k]? = some kd ∧ Z.1[ci]? = some (C, T, N) ∧ k < N ∧ (Cond.fieldLink own idx C (T k).2.1 (T k).2.2.1 ∈ sTB ∨ ∃ host, Cond.fieldLinkNest own idx C (T k).2.1 (T k).2.2.1 host ∈ sTB) ∧ (T k).1 = C ∧ ∀ w ∈ u_ws C T N, w ∈ sTB ∧ w.onTables = true
def sPf (Z : sZo) (own : String) (idx i k : Nat) (kd : sKd) (ty : FieldType) : Prop := ∃ (ci N : Nat) (ks : List sKd) (C : String) (T : u_T) (ty0 : Nat → FieldType), Z.2[i]? = some (.inr (ci, ks)) ∧ ks[k]? = some kd ∧ Z.1[ci]? = some (C, T, N) ∧ k < N ∧ (Cond.fieldLink own idx C (T k).2.1 (T k).2.2.1 ∈ sTB ∨ ∃ host, Cond.fieldLinkNest own idx C (T k).2.1 (T k).2.2.1 host ∈ sTB) ∧ (T k).1 = C ∧ (∀ w ∈ u_ws C T N, w ∈ sTB ∧ w.onTables = true) ∧ (∀ k, k < N → parseFieldDescriptor (T k).2.2.1 = some (ty0 k)) ∧ (∀ a, a < N → ∀ b, b < N → a ≠ b → (T a).2.1 ≠ (T b).2.1) ∧ (T k).2.2.2 = false ∧ parseFieldDescriptor (T k).2.2.1 = some ty
theorem r_getI (O : sOk Z M V cc nL own ret rm) {idx i q : Nat} {x : Int32} (g : sGf Z own idx i q none) (d : decode cc pc = .ok (.getfield idx, 3)) (hx : h.1 i q = x) (k : sS Z M V fin (pc + 3) lv (.int x :: st) h X) : sS Z M V fin pc lv (.ref i :: st) h X := by
  obtain ⟨p, l, e, R, s, m, args, below, meth, c⟩ := M
  obtain ⟨D, cA, ad⟩ := V
  intro r hX H locs ls hl hP hS
  obtain ⟨ci, N, ks, C, T, g1, g2, g3, g4, g5, g6, g7⟩ := g
  subst hx
  have hts : ∀ w ∈ u_ws C T N, w.before args s = true := fun w hw => sTab_use O.2.2.2.2.1 (g7 w hw).1 (g7 w hw).2 args
  rcases g5 with g5 | ⟨host, g5⟩
  · exact va_get (C := C) (T := T) (N := N) (ref := C) O.1 O.2.1 hts (fun w hw => hw) O.2.2.2.1 O.2.2.2.2.2.1 hP i (sWd_at g1) g3 q g4 (sTab_use O.2.2.2.2.1 g5 rfl args) (fun y hy => by rw [g6] at hy; exact hy) (by rw [List.getElem?_mapIdx, g2]; rfl) d (k r hX H locs ls hl hP hS)
  · exact va_getN (C := C) (T := T) (N := N) (ref := C) (host := host) O.1 O.2.1 hts (fun w hw => hw) O.2.2.2.1 O.2.2.2.2.2.1 hP i (sWd_at g1) g3 q g4 (sTab_use O.2.2.2.2.1 g5 rfl args) (fun y hy => by rw [g6] at hy; exact hy) (by rw [List.getElem?_mapIdx, g2]; rfl) d (k r hX H locs ls hl hP hS)
theorem r_getL (O : sOk Z M V cc nL own ret rm) {idx i q : Nat} {x : Int64} (g : sGf Z own idx i q (some none)) (d : decode cc pc = .ok (.getfield idx, 3)) (hx : h.2 i q = x) (k : sS Z M V fin (pc + 3) lv (.long x :: st) h X) : sS Z M V fin pc lv (.ref i :: st) h X := by
  obtain ⟨p, l, e, R, s, m, args, below, meth, c⟩ := M
  obtain ⟨D, cA, ad⟩ := V
  intro r hX H locs ls hl hP hS
  obtain ⟨ci, N, ks, C, T, g1, g2, g3, g4, g5, g6, g7⟩ := g
  subst hx
  have hts : ∀ w ∈ u_ws C T N, w.before args s = true := fun w hw => sTab_use O.2.2.2.2.1 (g7 w hw).1 (g7 w hw).2 args
  rcases g5 with g5 | ⟨host, g5⟩
  · exact va_get (C := C) (T := T) (N := N) (ref := C) O.1 O.2.1 hts (fun w hw => hw) O.2.2.2.1 O.2.2.2.2.2.1 hP i (sWd_at g1) g3 q g4 (sTab_use O.2.2.2.2.1 g5 rfl args) (fun y hy => by rw [g6] at hy; exact hy) (by rw [List.getElem?_mapIdx, g2]; rfl) d (k r hX H locs ls hl hP hS)
  · exact va_getN (C := C) (T := T) (N := N) (ref := C) (host := host) O.1 O.2.1 hts (fun w hw => hw) O.2.2.2.1 O.2.2.2.2.2.1 hP i (sWd_at g1) g3 q g4 (sTab_use O.2.2.2.2.1 g5 rfl args) (fun y hy => by rw [g6] at hy; exact hy) (by rw [List.getElem?_mapIdx, g2]; rfl) d (k r hX H locs ls hl hP hS)
theorem r_getR (O : sOk Z M V cc nL own ret rm) {idx i q : Nat} {x : Nat} (g : sGf Z own idx i q (some (some x))) (d : decode cc pc = .ok (.getfield idx, 3)) (k : sS Z M V fin (pc + 3) lv (.ref x :: st) h X) : sS Z M V fin pc lv (.ref i :: st) h X := by
  obtain ⟨p, l, e, R, s, m, args, below, meth, c⟩ := M
  obtain ⟨D, cA, ad⟩ := V
  intro r hX H locs ls hl hP hS
  obtain ⟨ci, N, ks, C, T, g1, g2, g3, g4, g5, g6, g7⟩ := g
  skip
  have hts : ∀ w ∈ u_ws C T N, w.before args s = true := fun w hw => sTab_use O.2.2.2.2.1 (g7 w hw).1 (g7 w hw).2 args
  rcases g5 with g5 | ⟨host, g5⟩
  · exact va_get (C := C) (T := T) (N := N) (ref := C) O.1 O.2.1 hts (fun w hw => hw) O.2.2.2.1 O.2.2.2.2.2.1 hP i (sWd_at g1) g3 q g4 (sTab_use O.2.2.2.2.1 g5 rfl args) (fun y hy => by rw [g6] at hy; exact hy) (by rw [List.getElem?_mapIdx, g2]; rfl) d (k r hX H locs ls hl hP hS)
  · exact va_getN (C := C) (T := T) (N := N) (ref := C) (host := host) O.1 O.2.1 hts (fun w hw => hw) O.2.2.2.1 O.2.2.2.2.2.1 hP i (sWd_at g1) g3 q g4 (sTab_use O.2.2.2.2.1 g5 rfl args) (fun y hy => by rw [g6] at hy; exact hy) (by rw [List.getElem?_mapIdx, g2]; rfl) d (k r hX H locs ls hl hP hS)
theorem sFs_setI {ad : Nat → Nat} {h : sHp} {i q : Nat} {ks : List sKd} {x : Int32} (hk : ks[q]? = some none) : (ks.mapIdx (sFd ad h i)).set q (.int x) = ks.mapIdx (sFd ad (pI h i q x) i) := by
  apply List.ext_getElem?
  intro j
  rw [List.getElem?_set]
  by_cases hj : q = j
  · subst hj
    rw [if_pos rfl, if_pos (by rw [List.length_mapIdx]; exact (List.getElem?_eq_some_iff.mp hk).1), List.getElem?_mapIdx, hk]
    simp [sFd, pI, upd]
  · rw [if_neg hj, List.getElem?_mapIdx, List.getElem?_mapIdx]
    cases ks[j]? with
    | none => rfl
    | some d =>
      have hj' : ¬ j = q := fun z => hj z.symm
      rcases d with _ | _ | z <;> simp [sFd, pI, upd, hj']
theorem sFs_setL {ad : Nat → Nat} {h : sHp} {i q : Nat} {ks : List sKd} {x : Int64} (hk : ks[q]? = some (some none)) : (ks.mapIdx (sFd ad h i)).set q (.long x) = ks.mapIdx (sFd ad (pL h i q x) i) := by
  apply List.ext_getElem?
  intro j
  rw [List.getElem?_set]
  by_cases hj : q = j
  · subst hj
    rw [if_pos rfl, if_pos (by rw [List.length_mapIdx]; exact (List.getElem?_eq_some_iff.mp hk).1), List.getElem?_mapIdx, hk]
    simp [sFd, pL, vp_updL]
  · rw [if_neg hj, List.getElem?_mapIdx, List.getElem?_mapIdx]
    cases ks[j]? with
    | none => rfl
    | some d =>
      have hj' : ¬ j = q := fun z => hj z.symm
      rcases d with _ | _ | z <;> simp [sFd, pL, vp_updL, hj']
theorem r_putI (O : sOk Z M V cc nL own ret rm) {idx i q : Nat} {x : Int32} (g : sPf Z own idx i q none .int) (d : decode cc pc = .ok (.putfield idx, 3)) (k : sS Z M V fin (pc + 3) lv st (pI h i q x) X) : sS Z M V fin pc lv (.int x :: .ref i :: st) h X := by
  obtain ⟨p, l, e, R, s, m, args, below, meth, c⟩ := M
  obtain ⟨D, cA, ad⟩ := V
  intro r hX H locs ls hl hP hS
  obtain ⟨ci, N, ks, C, T, ty0, g1, g2, g3, g4, g5, g6, g7, g8, g9, g10, g11⟩ := g
  have hts : ∀ w ∈ u_ws C T N, w.before args s = true := fun w hw => sTab_use O.2.2.2.2.1 (g7 w hw).1 (g7 w hw).2 args
  rcases g5 with g5 | ⟨host, g5⟩
  · exact va_put (C := C) (T := T) (N := N) (ref := C) O.1 O.2.1 hts (fun w hw => hw) ty0 g8 g9 O.2.2.2.1 O.2.2.2.2.2.1 hP (sD_of O.2.2.2.2.2.2.1 h) hS i (sWd_at g1) g3 q g4 (sTab_use O.2.2.2.2.1 g5 rfl args) (fun y hy => by rw [g6] at hy; exact hy) g10 (ty := .int) g11 (vp_nar_int x) rfl (by rw [List.length_mapIdx]; exact (List.getElem?_eq_some_iff.mp g2).1) d (fun H1 locs1 hP1 _ hS1 => k r hX H1 locs1 ls hl (by rw [sWd_set (h' := pI h i q x) g1 (by show _ = Sum.inr (ci, (List.mapIdx (sFd ad h i) ks).set q (.int x)); rw [sFs_setI g2]; rfl) (pI_off h i q x)] at hP1; exact hP1) hS1)
  · exact va_putN (C := C) (T := T) (N := N) (ref := C) (host := host) O.1 O.2.1 hts (fun w hw => hw) ty0 g8 g9 O.2.2.2.1 O.2.2.2.2.2.1 hP (sD_of O.2.2.2.2.2.2.1 h) hS i (sWd_at g1) g3 q g4 (sTab_use O.2.2.2.2.1 g5 rfl args) (fun y hy => by rw [g6] at hy; exact hy) g10 (ty := .int) g11 (vp_nar_int x) rfl (by rw [List.length_mapIdx]; exact (List.getElem?_eq_some_iff.mp g2).1) d (fun H1 locs1 hP1 _ hS1 => k r hX H1 locs1 ls hl (by rw [sWd_set (h' := pI h i q x) g1 (by show _ = Sum.inr (ci, (List.mapIdx (sFd ad h i) ks).set q (.int x)); rw [sFs_setI g2]; rfl) (pI_off h i q x)] at hP1; exact hP1) hS1)
theorem r_putZ (O : sOk Z M V cc nL own ret rm) {idx i q : Nat} {x : Int32} (g : sPf Z own idx i q none .boolean) (d : decode cc pc = .ok (.putfield idx, 3)) (hn : narrow .boolean (.int x) = .int x) (hf : fits .boolean (.int x) = true) (k : sS Z M V fin (pc + 3) lv st (pI h i q x) X) : sS Z M V fin pc lv (.int x :: .ref i :: st) h X := by
  obtain ⟨p, l, e, R, s, m, args, below, meth, c⟩ := M
  obtain ⟨D, cA, ad⟩ := V
  intro r hX H locs ls hl hP hS
  obtain ⟨ci, N, ks, C, T, ty0, g1, g2, g3, g4, g5, g6, g7, g8, g9, g10, g11⟩ := g
  have hts : ∀ w ∈ u_ws C T N, w.before args s = true := fun w hw => sTab_use O.2.2.2.2.1 (g7 w hw).1 (g7 w hw).2 args
  rcases g5 with g5 | ⟨host, g5⟩
  · exact va_put (C := C) (T := T) (N := N) (ref := C) O.1 O.2.1 hts (fun w hw => hw) ty0 g8 g9 O.2.2.2.1 O.2.2.2.2.2.1 hP (sD_of O.2.2.2.2.2.2.1 h) hS i (sWd_at g1) g3 q g4 (sTab_use O.2.2.2.2.1 g5 rfl args) (fun y hy => by rw [g6] at hy; exact hy) g10 (ty := .boolean) g11 hn hf (by rw [List.length_mapIdx]; exact (List.getElem?_eq_some_iff.mp g2).1) d (fun H1 locs1 hP1 _ hS1 => k r hX H1 locs1 ls hl (by rw [sWd_set (h' := pI h i q x) g1 (by show _ = Sum.inr (ci, (List.mapIdx (sFd ad h i) ks).set q (.int x)); rw [sFs_setI g2]; rfl) (pI_off h i q x)] at hP1; exact hP1) hS1)
  · exact va_putN (C := C) (T := T) (N := N) (ref := C) (host := host) O.1 O.2.1 hts (fun w hw => hw) ty0 g8 g9 O.2.2.2.1 O.2.2.2.2.2.1 hP (sD_of O.2.2.2.2.2.2.1 h) hS i (sWd_at g1) g3 q g4 (sTab_use O.2.2.2.2.1 g5 rfl args) (fun y hy => by rw [g6] at hy; exact hy) g10 (ty := .boolean) g11 hn hf (by rw [List.length_mapIdx]; exact (List.getElem?_eq_some_iff.mp g2).1) d (fun H1 locs1 hP1 _ hS1 => k r hX H1 locs1 ls hl (by rw [sWd_set (h' := pI h i q x) g1 (by show _ = Sum.inr (ci, (List.mapIdx (sFd ad h i) ks).set q (.int x)); rw [sFs_setI g2]; rfl) (pI_off h i q x)] at hP1; exact hP1) hS1)
theorem r_putL (O : sOk Z M V cc nL own ret rm) {idx i q : Nat} {x : Int64} (g : sPf Z own idx i q (some none) .long) (d : decode cc pc = .ok (.putfield idx, 3)) (k : sS Z M V fin (pc + 3) lv st (pL h i q x) X) : sS Z M V fin pc lv (.long x :: .ref i :: st) h X := by
  obtain ⟨p, l, e, R, s, m, args, below, meth, c⟩ := M
  obtain ⟨D, cA, ad⟩ := V
  intro r hX H locs ls hl hP hS
  obtain ⟨ci, N, ks, C, T, ty0, g1, g2, g3, g4, g5, g6, g7, g8, g9, g10, g11⟩ := g
  have hts : ∀ w ∈ u_ws C T N, w.before args s = true := fun w hw => sTab_use O.2.2.2.2.1 (g7 w hw).1 (g7 w hw).2 args
  rcases g5 with g5 | ⟨host, g5⟩
  · exact va_put (C := C) (T := T) (N := N) (ref := C) O.1 O.2.1 hts (fun w hw => hw) ty0 g8 g9 O.2.2.2.1 O.2.2.2.2.2.1 hP (sD_of O.2.2.2.2.2.2.1 h) hS i (sWd_at g1) g3 q g4 (sTab_use O.2.2.2.2.1 g5 rfl args) (fun y hy => by rw [g6] at hy; exact hy) g10 (ty := .long) g11 rfl rfl (by rw [List.length_mapIdx]; exact (List.getElem?_eq_some_iff.mp g2).1) d (fun H1 locs1 hP1 _ hS1 => k r hX H1 locs1 ls hl (by rw [sWd_set (h' := pL h i q x) g1 (by show _ = Sum.inr (ci, (List.mapIdx (sFd ad h i) ks).set q (.long x)); rw [sFs_setL g2]; rfl) (pL_off h i q x)] at hP1; exact hP1) hS1)
  · exact va_putN (C := C) (T := T) (N := N) (ref := C) (host := host) O.1 O.2.1 hts (fun w hw => hw) ty0 g8 g9 O.2.2.2.1 O.2.2.2.2.2.1 hP (sD_of O.2.2.2.2.2.2.1 h) hS i (sWd_at g1) g3 q g4 (sTab_use O.2.2.2.2.1 g5 rfl args) (fun y hy => by rw [g6] at hy; exact hy) g10 (ty := .long) g11 rfl rfl (by rw [List.length_mapIdx]; exact (List.getElem?_eq_some_iff.mp g2).1) d (fun H1 locs1 hP1 _ hS1 => k r hX H1 locs1 ls hl (by rw [sWd_set (h' := pL h i q x) g1 (by show _ = Sum.inr (ci, (List.mapIdx (sFd ad h i) ks).set q (.long x)); rw [sFs_setL g2]; rfl) (pL_off h i q x)] at hP1; exact hP1) hS1)
theorem r_iret (O : sOk Z M V cc nL own (some .int) rm) {x : Int32} {a : ρ} (he : fin a = (.inl (some (.int x)), h)) (d : decode cc pc = .ok (.ireturn, 1)) : sS Z M V fin pc lv [.int x] h (some a) := by
  obtain ⟨p, l, e, R, s, m, args, below, meth, c⟩ := M
  obtain ⟨D, cA, ad⟩ := V
  intro r hX H locs ls hl hP hS
  cases hX
  rw [he]
  exact W.iret O.1 O.2.1 O.2.2.2.2.2.2.2.2.1 (fun t ht _ => ⟨rfl, by rw [ht]; exact hP, hS.F ht⟩) hS.2.2 d O.2.2.2.2.2.2.2.1
theorem r_zret (O : sOk Z M V cc nL own (some .boolean) rm) {x : Int32} {a : ρ} (he : fin a = (.inl (some (.int x)), h)) (d : decode cc pc = .ok (.ireturn, 1)) (hn : narrow .boolean (.int x) = .int x) : sS Z M V fin pc lv [.int x] h (some a) := by
  obtain ⟨p, l, e, R, s, m, args, below, meth, c⟩ := M
  obtain ⟨D, cA, ad⟩ := V
  intro r hX H locs ls hl hP hS
  cases hX
  rw [he]
  exact W.zret O.1 O.2.1 O.2.2.2.2.2.2.2.2.1 hn (fun t ht _ => ⟨rfl, by rw [ht]; exact hP, hS.F ht⟩) hS.2.2 d O.2.2.2.2.2.2.2.1
theorem r_lret (O : sOk Z M V cc nL own (some .long) rm) {x : Int64} {a : ρ} (he : fin a = (.inl (some (.long x)), h)) (d : decode cc pc = .ok (.lreturn, 1)) : sS Z M V fin pc lv [.long x] h (some a) := by
  obtain ⟨p, l, e, R, s, m, args, below, meth, c⟩ := M
  obtain ⟨D, cA, ad⟩ := V
  intro r hX H locs ls hl hP hS
  cases hX
  rw [he]
  exact W.lret O.1 O.2.1 O.2.2.2.2.2.2.2.2.1 (fun t ht _ => ⟨rfl, by rw [ht]; exact hP, hS.F ht⟩) hS.2.2 d O.2.2.2.2.2.2.2.1
def jB (x : Int32) : Bool := decide (x = 0 ∨ x = 1)
theorem nb_0 : narrow .boolean (.int 0) = .int 0 := by decide
theorem nb_1 : narrow .boolean (.int 1) = .int 1 := by decide
theorem r_zretg (O : sOk Z M V cc nL own (some .boolean) rm) {x : Int32} {a : ρ} (he : fin a = (.inl (some (.int x)), h)) (d : decode cc pc = .ok (.ireturn, 1)) : sS Z M V fin pc lv [.int x] h (sGd (jB x) (some a)) := by
  refine r_gd (fun q => r_zret O he d ?_)
  rcases of_decide_eq_true q with q | q <;> subst q
  · exact nb_0
  · exact nb_1
theorem r_vret (O : sOk Z M V cc nL own none rm) {a : ρ} (he : fin a = (.inl none, h)) (d : decode cc pc = .ok (.return_, 1)) : sS Z M V fin pc lv [] h (some a) := by
  obtain ⟨p, l, e, R, s, m, args, below, meth, c⟩ := M
  obtain ⟨D, cA, ad⟩ := V
  intro r hX H locs ls hl hP hS
  cases hX
  rw [he]
  exact W.vret O.1 O.2.1 O.2.2.2.2.2.2.2.2.1 (fun t ht _ => ⟨rfl, by rw [ht]; exact hP, hS.F ht⟩) hS.2.2 d O.2.2.2.2.2.2.2.1
end SR
def sPc (Z : sZo) : sWo → List Value → sHp → Array Value → State → Prop
  | (D, cA, ad), av, h => va_Pc (av.map (sV ad)) (fun U => sTab U ∧ va_K D Z.1 (sTy cA) U ∧ sApart Z.2 ad ∧ va_P D Z.1 (sWd Z.2 cA ad h) U.heap)
/-- a method, at these arguments and this heap, ends as X says -/
def sM {ρ : Type} (Z : sZo) (fin : ρ → Option Value × sHp) (y : MethodName) (cc : ByteArray) (nL : Nat) (ret : Option FieldType) (rm : Room) (av : List Value) (h : sHp) (X : Option ρ) : Prop :=
  ∀ (l : Launch) (V : sWo) (r : ρ), X = some r → Met l y [.code y cc nL ret] rm (sPc Z V av h) (sQr Z V (fin r).1 (fin r).2) 0 0 (sAr Z.2 V.2.2)
def sEb {ρ : Type} (fin : ρ → Option Value × sHp) (r : ρ) : sOut × sHp := (.inl (fin r).1, (fin r).2)
theorem sV_len (ad : Nat → Nat) (av : List Value) : (lg_sl (av.map (sV ad))).length = (lg_sl av).length := by
  induction av with
  | nil => rfl
  | cons a t ih =>
    simp only [lg_sl, List.map_cons, List.flatMap_cons, List.length_append] at ih ⊢
    rw [ih, sV_cat]
    split <;> rfl
theorem sV_args (ad : Nat → Nat) (av : List Value) : ∀ i, lv_args i (av.map (sV ad)) = sLv ad (lv_args i av) := by
  induction av with
  | nil => intro i; rfl
  | cons a t ih =>
    intro i
    simp only [List.map_cons, lv_args, sLv, List.map_cons, sV_cat]
    rw [ih]
    rfl
theorem sM_of {ρ : Type} {Z : sZo} {fin : ρ → Option Value × sHp} {y : MethodName} {cc : ByteArray} {nL : Nat} {ret : Option FieldType} {rm : Room} {av : List Value} {h : sHp} {X : Option ρ} {own : String} (ho : y.cls = own) (hy : plainName y.cls = true) (hlen : (lg_sl av).length ≤ nL)
    (body : ∀ (M : sMa) (V : sWo), sOk Z M V cc nL own ret rm → sS Z M V (sEb fin) 0 (lv_args 0 av) [] h X) : sM Z fin y cc nL ret rm av h X := by
  intro l V r hX
  subst ho
  obtain ⟨D, cA, ad⟩ := V
  refine Met.ofW (cc := cc) (maxL := nL) (ret := ret) hy rfl ?_
  intro p e s m args below meth c s₁ B hml hv
  obtain ⟨rfl, hT, hK, hA, hP⟩ := hv
  have hl := lv_entry (av.map (sV ad)) (n := nL) (by rw [sV_len]; exact hlen)
  rw [lg_entry_eq]
  rw [sV_args] at hl
  exact body (p, l, e, rm, s, m, _, below, meth, c) (D, cA, ad) ⟨B.exec, B.bytes, hml, findClass_of_methodNamed B.named, hT, hK, hA, B.notSynchronized, B.returns, rfl⟩ r hX s.heap [] _ (by rw [hml]; exact hl) hP va_S.rf
theorem sPc_blind (Z : sZo) (V : sWo) (av : List Value) (h : sHp) : FrameBlind (sPc Z V av h) := by
  obtain ⟨D, cA, ad⟩ := V
  intro a U g mk q
  obtain ⟨q1, q2, q3, q4, q5⟩ := q
  exact ⟨q1, sTab_calling g mk a q2, va_K.moved (u := U) (U := U.calling g mk a) (Vm.Alike.refl U.vm) q3, q4, q5⟩
theorem sCodeW {s : State} {y : MethodName} {cc : ByteArray} {nL : Nat} {ret : Option FieldType} {args : Array Value} (h : (Cond.code y cc nL ret).before args s = true) : ∀ w ∈ [Cond.code y cc nL ret], ∀ (a' : Array Value) (U : State), s.WarmedH U.vm → w.before a' U = true := by
  intro w hw a' U hW
  rw [List.mem_singleton.mp hw]
  exact word_at hW (Or.inl (by first | rfl | simp [Cond.onTables, Cond.keeps, Cond.steady])) h
section SC
variable {p : Program} {l : Launch} {e : Env} {R : Room} {s : State} {m : MethodId} {args : Array Value} {below : List Frame} {meth : Method} {c : Code} {H : Heap} {locs : List Loc} {Q : State → Prop}
theorem sCall {Z : sZo} {D : va_G} {cA : Nat → ClassId} {ad : Nat → Nat} {o : Option Value} {h' : sHp} {a : Array Value} {pc : Nat} {ls : Array Slot} {st0 rest : List Value} (hr : va_Run p l e R s m args below meth c H locs 0 0 0 0 (F0 m pc ls st0) rest (sQr Z (D, cA, ad) o h' a) (sAr Z.2 ad)) (hS : va_S (sAr Z.2 ad) s.heap H locs)
    (kk : ∀ (H1 : Heap) (locs1 : List Loc), va_P D Z.1 (sWd Z.2 cA ad h') H1 → va_S (sAr Z.2 ad) s.heap H1 locs1 → W p l e R s m args below meth c H1 locs1 0 0 Q (F0 m (pc + 3) ls (o.toList ++ rest))) : W p l e R s m args below meth c H locs 0 0 Q (F0 m pc ls st0) := by
  intro T hT X
  obtain ⟨v, st₀, t, T', L, h0, X', hL, e1, e2, ⟨hv, hp, hz, hk⟩, st⟩ := hr T hT X
  cases hv
  rw [h0] at hz hk
  obtain ⟨t2, a1, b1⟩ := kk T'.heap (locs ++ L) (by rw [e1]; exact hp)
    ⟨Nat.le_trans hS.1 (by rw [e1]; exact hz), fun q h1 h2 => by rw [e1, hk q (Nat.lt_of_lt_of_le h1 hS.1) h2]; exact hS.2.1 q h1 h2, fun q hq => by
      rcases List.mem_append.mp hq with h | h
      · exact hS.2.2 q h
      · exact hL q h⟩ T' rfl X'
  exact ⟨t2, st t2 a1, b1⟩
end SC
/-- what the tables say of a call -/
def sCw (own : String) (idx : Nat) (y : MethodName) (cc : ByteArray) (nL : Nat) (ret : Option FieldType) (rm' rm : Room) (n : Nat) : Prop := (Cond.methodLink own idx y ∈ sTB ∨ ∃ host, Cond.methodLinkNest own idx y host ∈ sTB) ∧ Cond.initialized y.cls ∈ sTB ∧ Cond.code y cc nL ret ∈ sTB ∧ (y.cls ≠ "java/lang/invoke/MethodHandle" ∧ y.cls ≠ "java/lang/invoke/VarHandle") ∧ (parseMethodDescriptor y.desc).map (fun d => d.parameters.length) = some n ∧ (rm'.cells = 0 ∧ rm'.slots = 0) ∧ rm'.frames + 1 ≤ rm.frames ∧ 8 + (nL + 11) + rm'.locals ≤ rm.locals
theorem sDesc {y : MethodName} {n : Nat} (h : (parseMethodDescriptor y.desc).map (fun d => d.parameters.length) = some n) : ∀ sig, parseMethodDescriptor y.desc = some sig → n = sig.parameters.length := by
  intro sig hs
  rw [hs] at h
  exact (Option.some.inj h).symm
section SK
variable {ρ β : Type} {Z : sZo} {M : sMa} {V : sWo} {fin : ρ → sOut × sHp} {cc cc' : ByteArray} {nL nL' pc idx n : Nat} {own : String} {y : MethodName} {ret ret' : Option FieldType} {rm rm' : Room} {lv : List (Nat × Value)} {st av : List Value} {h : sHp} {o : β → Option Value × sHp} {X : Option β} {F : β → Option ρ}
theorem r_callS (O : sOk Z M V cc nL own ret rm) (ho : ∀ (ad : Nat → Nat) (w : β), ((o w).1.toList).map (sV ad) = (o w).1.toList) (hM : sM Z o y cc' nL' ret' rm' av h X) (cw : sCw own idx y cc' nL' ret' rm' rm n) (hst : Cond.static y ∈ sTB) (hn : av.length = n) (hw : (st.map fun v => v.category).sum ≤ 8) (d : decode cc pc = .ok (.invokestatic idx, 3)) (k : ∀ v, sS Z M V fin (pc + 3) lv ((o v).1.toList ++ st) (o v).2 (F v)) : sS Z M V fin pc lv (av.reverse ++ st) h (X.bind F) := by
  obtain ⟨p, l, e, R, s, m, args, below, meth, c⟩ := M
  obtain ⟨D, cA, ad⟩ := V
  intro r hX H locs ls hl hP hS
  obtain ⟨w, hX2, hF⟩ := sB_of hX
  obtain ⟨c1, c2, c3, c4, c5, c6, c7, c8⟩ := cw
  obtain ⟨o1, o2, o3, o4, o5, o6, o7, o8, o9, o10⟩ := O
  subst o10
  have hm := hM l (D, cA, ad) w hX2
  have hpre : PreS s H (sPc Z (D, cA, ad) av h) (av.map (sV ad)) := ⟨sPc_blind Z (D, cA, ad) av h, fun U hU hW => ⟨rfl, sTab_warm hW o5, va_K.moved hW.alike o6, o7, by rw [hU]; exact hP⟩⟩
  have hstk : ((av.reverse ++ st).map (sV ad)) = (av.map (sV ad)).reverse ++ st.map (sV ad) := by rw [List.map_append, List.map_reverse]
  have hwt : 2 * (F0 m pc ls ((av.reverse ++ st).map (sV ad))).monitorRoom + ((st.map (sV ad)).map fun v => v.category).sum ≤ 8 := lv_room (by rw [sV_sum]; exact hw)
  have hcode : (Cond.code y cc' nL' ret').before args s = true := sTab_use o5 c3 rfl args
  have hini : (Cond.initialized y.cls).before args s = true := sTab_use o5 c2 rfl args
  have hstat : (Cond.static y).before args s = true := sTab_use o5 hst rfl args
  have key : va_Run p l e R s m args below meth c H locs 0 0 0 0 (F0 m pc ls ((av.reverse ++ st).map (sV ad))) (st.map (sV ad)) (sQr Z (D, cA, ad) (o w).1 (o w).2 (av.map (sV ad)).toArray) (sAr Z.2 ad) := by
    rcases c1 with c1 | ⟨host, c1⟩
    · exact va_runS (n := n) (bytes := cc') (maxL := nL') (ret := ret') ⟨o1, o2, o3, o4, (fun w (hw : w ∈ ([] : List Cond)) => by cases hw)⟩ hm ⟨⟨c6.1, c6.2, c7, c8, sCodeW hcode, List.mem_singleton.mpr rfl, hcode, hini, c4, sDesc c5, sTab_use o5 c1 rfl args⟩, hstat⟩ hpre rfl (by rw [List.length_map]; exact hn) (hl.1.trans o3) hstk hwt d ⟨Nat.zero_le _, Nat.zero_le _⟩
    · exact va_runSN (n := n) (bytes := cc') (maxL := nL') (ret := ret') (host := host) ⟨o1, o2, o3, o4, (fun w (hw : w ∈ ([] : List Cond)) => by cases hw)⟩ hm ⟨⟨⟨c6.1, c6.2, c7, c8, sCodeW hcode, List.mem_singleton.mpr rfl⟩, hcode, hini, c4, sDesc c5, sTab_use o5 c1 rfl args⟩, hstat, trivial⟩ hpre rfl (by rw [List.length_map]; exact hn) (hl.1.trans o3) hstk hwt d ⟨Nat.zero_le _, Nat.zero_le _⟩
  refine sCall key hS (fun H1 locs1 hP1 hS1 => ?_)
  have kk := k w r hF H1 locs1 ls hl hP1 hS1
  rw [List.map_append] at kk
  rw [ho ad w] at kk
  exact kk
theorem r_callV (O : sOk Z M V cc nL own ret rm) {i ci N : Nat} {ks : List sKd} {C : String} {T : u_T} (g1 : Z.2[i]? = some (.inr (ci, ks))) (g3 : Z.1[ci]? = some (C, T, N)) (ho : ∀ (ad : Nat → Nat) (w : β), ((o w).1.toList).map (sV ad) = (o w).1.toList) (hM : sM Z o y cc' nL' ret' rm' (.ref i :: av) h X) (cw : sCw own idx y cc' nL' ret' rm' rm n) (hst : Cond.instanceMethod y ∈ sTB) (hse : Cond.selects C y y ∈ sTB) (hn : av.length = n) (hw : (st.map fun v => v.category).sum ≤ 8) (d : decode cc pc = .ok (.invokevirtual idx, 3)) (k : ∀ v, sS Z M V fin (pc + 3) lv ((o v).1.toList ++ st) (o v).2 (F v)) : sS Z M V fin pc lv (av.reverse ++ .ref i :: st) h (X.bind F) := by
  obtain ⟨p, l, e, R, s, m, args, below, meth, c⟩ := M
  obtain ⟨D, cA, ad⟩ := V
  intro r hX H locs ls hl hP hS
  obtain ⟨w, hX2, hF⟩ := sB_of hX
  obtain ⟨c1, c2, c3, c4, c5, c6, c7, c8⟩ := cw
  obtain ⟨o1, o2, o3, o4, o5, o6, o7, o8, o9, o10⟩ := O
  subst o10
  have hm := hM l (D, cA, ad) w hX2
  have hcell : ∃ cellB : Cell, H[ad i]? = some cellB ∧ cellB.vm.isStatics = false ∧ s.vm.findClass C = some cellB.cls := by
    obtain ⟨r, h1, cell, q1, q2, q3, q4⟩ := hP i _ (sWd_at g1)
    obtain ⟨hSl, hfc, kC, hkC, hkind⟩ := o6.1 ci _ g3
    exact ⟨cell, q1, by rw [q3]; rfl, by rw [q2]; exact hfc⟩
  have hpre : PreV s H C (ad i) (sPc Z (D, cA, ad) (.ref i :: av) h) (av.map (sV ad)) := ⟨sPc_blind Z (D, cA, ad) _ h, hcell, fun U hU hW => ⟨rfl, sTab_warm hW o5, va_K.moved hW.alike o6, o7, by rw [hU]; exact hP⟩⟩
  have hstk : ((av.reverse ++ .ref i :: st).map (sV ad)) = (av.map (sV ad)).reverse ++ .ref (ad i) :: st.map (sV ad) := by rw [List.map_append, List.map_reverse]; rfl
  have hwt : 2 * (F0 m pc ls ((av.reverse ++ .ref i :: st).map (sV ad))).monitorRoom + ((st.map (sV ad)).map fun v => v.category).sum ≤ 8 := lv_room (by rw [sV_sum]; exact hw)
  have hcode : (Cond.code y cc' nL' ret').before args s = true := sTab_use o5 c3 rfl args
  have hini : (Cond.initialized y.cls).before args s = true := sTab_use o5 c2 rfl args
  have hinst : (Cond.instanceMethod y).before args s = true := sTab_use o5 hst rfl args
  have hsel : (Cond.selects C y y).before args s = true := sTab_use o5 hse rfl args
  have key : va_Run p l e R s m args below meth c H locs 0 0 0 0 (F0 m pc ls ((av.reverse ++ .ref i :: st).map (sV ad))) (st.map (sV ad)) (sQr Z (D, cA, ad) (o w).1 (o w).2 (Value.ref (ad i) :: av.map (sV ad)).toArray) (sAr Z.2 ad) := by
    rcases c1 with c1 | ⟨host, c1⟩
    · exact va_runV (n := n) (C := C) (bytes := cc') (maxL := nL') (ret := ret') ⟨o1, o2, o3, o4, (fun w (hw : w ∈ ([] : List Cond)) => by cases hw)⟩ hm ⟨⟨c6.1, c6.2, c7, c8, sCodeW hcode, List.mem_singleton.mpr rfl, hcode, hini, c4, sDesc c5, sTab_use o5 c1 rfl args⟩, hinst, hsel⟩ hpre rfl (by rw [List.length_map]; exact hn) (hl.1.trans o3) hstk hwt d ⟨Nat.zero_le _, Nat.zero_le _⟩
    · exact va_runVN (n := n) (C := C) (bytes := cc') (maxL := nL') (ret := ret') (host := host) ⟨o1, o2, o3, o4, (fun w (hw : w ∈ ([] : List Cond)) => by cases hw)⟩ hm ⟨⟨⟨c6.1, c6.2, c7, c8, sCodeW hcode, List.mem_singleton.mpr rfl⟩, hcode, hini, c4, sDesc c5, sTab_use o5 c1 rfl args⟩, hinst, hsel⟩ hpre rfl (by rw [List.length_map]; exact hn) (hl.1.trans o3) hstk hwt d ⟨Nat.zero_le _, Nat.zero_le _⟩
  refine sCall key hS (fun H1 locs1 hP1 hS1 => ?_)
  have kk := k w r hF H1 locs1 ls hl hP1 hS1
  rw [List.map_append] at kk
  rw [ho ad w] at kk
  exact kk

/-- what a call leaves: an int, a long, nothing; a heap, or the heap as it was -/
def sOi (r : Int32 × sHp) : Option Value × sHp := (some (.int r.1), r.2)
def sOl (r : Int64 × sHp) : Option Value × sHp := (some (.long r.1), r.2)
def sOv (r : sHp) : Option Value × sHp := (none, r)
def sPi (h : sHp) (r : Int32) : Option Value × sHp := (some (.int r), h)
def sPl (h : sHp) (r : Int64) : Option Value × sHp := (some (.long r), h)
theorem r_callSi {X : Option (Int32 × sHp)} {F : Int32 × sHp → Option ρ} (O : sOk Z M V cc nL own ret rm) (av : List Value) (hM : sM Z sOi y cc' nL' ret' rm' av h X) (cw : sCw own idx y cc' nL' ret' rm' rm n) (hst : Cond.static y ∈ sTB) (hn : av.length = n) (hw : (st.map fun v => v.category).sum ≤ 8) (d : decode cc pc = .ok (.invokestatic idx, 3)) {st0 : List Value} (h0 : av.reverse ++ st = st0) (k : ∀ v, sS Z M V fin (pc + 3) lv (.int v.1 :: st) v.2 (F v)) : sS Z M V fin pc lv st0 h (X.bind F) := by
  subst h0
  exact r_callS O (fun _ _ => rfl) hM cw hst hn hw d k
theorem r_callVi {X : Option (Int32 × sHp)} {F : Int32 × sHp → Option ρ} (O : sOk Z M V cc nL own ret rm) (av : List Value) {i ci N : Nat} {ks : List sKd} {C : String} {T : u_T} (g1 : Z.2[i]? = some (.inr (ci, ks))) (g3 : Z.1[ci]? = some (C, T, N)) (hM : sM Z sOi y cc' nL' ret' rm' (.ref i :: av) h X) (cw : sCw own idx y cc' nL' ret' rm' rm n) (hst : Cond.instanceMethod y ∈ sTB) (hse : Cond.selects C y y ∈ sTB) (hn : av.length = n) (hw : (st.map fun v => v.category).sum ≤ 8) (d : decode cc pc = .ok (.invokevirtual idx, 3)) {st0 : List Value} (h0 : av.reverse ++ .ref i :: st = st0) (k : ∀ v, sS Z M V fin (pc + 3) lv (.int v.1 :: st) v.2 (F v)) : sS Z M V fin pc lv st0 h (X.bind F) := by
  subst h0
  exact r_callV O g1 g3 (fun _ _ => rfl) hM cw hst hse hn hw d k
theorem r_callSl {X : Option (Int64 × sHp)} {F : Int64 × sHp → Option ρ} (O : sOk Z M V cc nL own ret rm) (av : List Value) (hM : sM Z sOl y cc' nL' ret' rm' av h X) (cw : sCw own idx y cc' nL' ret' rm' rm n) (hst : Cond.static y ∈ sTB) (hn : av.length = n) (hw : (st.map fun v => v.category).sum ≤ 8) (d : decode cc pc = .ok (.invokestatic idx, 3)) {st0 : List Value} (h0 : av.reverse ++ st = st0) (k : ∀ v, sS Z M V fin (pc + 3) lv (.long v.1 :: st) v.2 (F v)) : sS Z M V fin pc lv st0 h (X.bind F) := by
  subst h0
  exact r_callS O (fun _ _ => rfl) hM cw hst hn hw d k
theorem r_callVl {X : Option (Int64 × sHp)} {F : Int64 × sHp → Option ρ} (O : sOk Z M V cc nL own ret rm) (av : List Value) {i ci N : Nat} {ks : List sKd} {C : String} {T : u_T} (g1 : Z.2[i]? = some (.inr (ci, ks))) (g3 : Z.1[ci]? = some (C, T, N)) (hM : sM Z sOl y cc' nL' ret' rm' (.ref i :: av) h X) (cw : sCw own idx y cc' nL' ret' rm' rm n) (hst : Cond.instanceMethod y ∈ sTB) (hse : Cond.selects C y y ∈ sTB) (hn : av.length = n) (hw : (st.map fun v => v.category).sum ≤ 8) (d : decode cc pc = .ok (.invokevirtual idx, 3)) {st0 : List Value} (h0 : av.reverse ++ .ref i :: st = st0) (k : ∀ v, sS Z M V fin (pc + 3) lv (.long v.1 :: st) v.2 (F v)) : sS Z M V fin pc lv st0 h (X.bind F) := by
  subst h0
  exact r_callV O g1 g3 (fun _ _ => rfl) hM cw hst hse hn hw d k
theorem r_callSv {X : Option (sHp)} {F : sHp → Option ρ} (O : sOk Z M V cc nL own ret rm) (av : List Value) (hM : sM Z sOv y cc' nL' ret' rm' av h X) (cw : sCw own idx y cc' nL' ret' rm' rm n) (hst : Cond.static y ∈ sTB) (hn : av.length = n) (hw : (st.map fun v => v.category).sum ≤ 8) (d : decode cc pc = .ok (.invokestatic idx, 3)) {st0 : List Value} (h0 : av.reverse ++ st = st0) (k : ∀ v, sS Z M V fin (pc + 3) lv (st) v (F v)) : sS Z M V fin pc lv st0 h (X.bind F) := by
  subst h0
  exact r_callS O (fun _ _ => rfl) hM cw hst hn hw d k
theorem r_callVv {X : Option (sHp)} {F : sHp → Option ρ} (O : sOk Z M V cc nL own ret rm) (av : List Value) {i ci N : Nat} {ks : List sKd} {C : String} {T : u_T} (g1 : Z.2[i]? = some (.inr (ci, ks))) (g3 : Z.1[ci]? = some (C, T, N)) (hM : sM Z sOv y cc' nL' ret' rm' (.ref i :: av) h X) (cw : sCw own idx y cc' nL' ret' rm' rm n) (hst : Cond.instanceMethod y ∈ sTB) (hse : Cond.selects C y y ∈ sTB) (hn : av.length = n) (hw : (st.map fun v => v.category).sum ≤ 8) (d : decode cc pc = .ok (.invokevirtual idx, 3)) {st0 : List Value} (h0 : av.reverse ++ .ref i :: st = st0) (k : ∀ v, sS Z M V fin (pc + 3) lv (st) v (F v)) : sS Z M V fin pc lv st0 h (X.bind F) := by
  subst h0
  exact r_callV O g1 g3 (fun _ _ => rfl) hM cw hst hse hn hw d k
theorem r_callSip {X : Option (Int32)} {F : Int32 → Option ρ} (O : sOk Z M V cc nL own ret rm) (av : List Value) (hM : sM Z (sPi h) y cc' nL' ret' rm' av h X) (cw : sCw own idx y cc' nL' ret' rm' rm n) (hst : Cond.static y ∈ sTB) (hn : av.length = n) (hw : (st.map fun v => v.category).sum ≤ 8) (d : decode cc pc = .ok (.invokestatic idx, 3)) {st0 : List Value} (h0 : av.reverse ++ st = st0) (k : ∀ v, sS Z M V fin (pc + 3) lv (.int v :: st) h (F v)) : sS Z M V fin pc lv st0 h (X.bind F) := by
  subst h0
  exact r_callS O (fun _ _ => rfl) hM cw hst hn hw d k
theorem r_callVip {X : Option (Int32)} {F : Int32 → Option ρ} (O : sOk Z M V cc nL own ret rm) (av : List Value) {i ci N : Nat} {ks : List sKd} {C : String} {T : u_T} (g1 : Z.2[i]? = some (.inr (ci, ks))) (g3 : Z.1[ci]? = some (C, T, N)) (hM : sM Z (sPi h) y cc' nL' ret' rm' (.ref i :: av) h X) (cw : sCw own idx y cc' nL' ret' rm' rm n) (hst : Cond.instanceMethod y ∈ sTB) (hse : Cond.selects C y y ∈ sTB) (hn : av.length = n) (hw : (st.map fun v => v.category).sum ≤ 8) (d : decode cc pc = .ok (.invokevirtual idx, 3)) {st0 : List Value} (h0 : av.reverse ++ .ref i :: st = st0) (k : ∀ v, sS Z M V fin (pc + 3) lv (.int v :: st) h (F v)) : sS Z M V fin pc lv st0 h (X.bind F) := by
  subst h0
  exact r_callV O g1 g3 (fun _ _ => rfl) hM cw hst hse hn hw d k
theorem r_callSlp {X : Option (Int64)} {F : Int64 → Option ρ} (O : sOk Z M V cc nL own ret rm) (av : List Value) (hM : sM Z (sPl h) y cc' nL' ret' rm' av h X) (cw : sCw own idx y cc' nL' ret' rm' rm n) (hst : Cond.static y ∈ sTB) (hn : av.length = n) (hw : (st.map fun v => v.category).sum ≤ 8) (d : decode cc pc = .ok (.invokestatic idx, 3)) {st0 : List Value} (h0 : av.reverse ++ st = st0) (k : ∀ v, sS Z M V fin (pc + 3) lv (.long v :: st) h (F v)) : sS Z M V fin pc lv st0 h (X.bind F) := by
  subst h0
  exact r_callS O (fun _ _ => rfl) hM cw hst hn hw d k
theorem r_callVlp {X : Option (Int64)} {F : Int64 → Option ρ} (O : sOk Z M V cc nL own ret rm) (av : List Value) {i ci N : Nat} {ks : List sKd} {C : String} {T : u_T} (g1 : Z.2[i]? = some (.inr (ci, ks))) (g3 : Z.1[ci]? = some (C, T, N)) (hM : sM Z (sPl h) y cc' nL' ret' rm' (.ref i :: av) h X) (cw : sCw own idx y cc' nL' ret' rm' rm n) (hst : Cond.instanceMethod y ∈ sTB) (hse : Cond.selects C y y ∈ sTB) (hn : av.length = n) (hw : (st.map fun v => v.category).sum ≤ 8) (d : decode cc pc = .ok (.invokevirtual idx, 3)) {st0 : List Value} (h0 : av.reverse ++ .ref i :: st = st0) (k : ∀ v, sS Z M V fin (pc + 3) lv (.long v :: st) h (F v)) : sS Z M V fin pc lv st0 h (X.bind F) := by
  subst h0
  exact r_callV O g1 g3 (fun _ _ => rfl) hM cw hst hse hn hw d k
end SK
end
section
def T_c0 : u_T := fun k => match k with
  | 0 => ("StoryStates", "engine", "LStoryStates$Engine;", true)
  | 1 => ("StoryStates", "world", "LStoryStates$World;", true)
  | 2 => ("StoryStates", "atlas", "LStoryStates$Atlas;", true)
  | 3 => ("StoryStates", "line", "[J", true)
  | 4 => ("StoryStates", "texts", "[I", true)
  | 5 => ("StoryStates", "turns", "I", false)
  | _ => ("StoryStates", "textCount", "I", false)
def ty_c0 : Nat → FieldType := fun k => match k with
  | 0 => (.object "StoryStates$Engine")
  | 1 => (.object "StoryStates$World")
  | 2 => (.object "StoryStates$Atlas")
  | 3 => (.array .long)
  | 4 => (.array .int)
  | 5 => .int
  | _ => .int
theorem nm_c0 : ∀ a, a < 7 → ∀ b, b < 7 → a ≠ b → (T_c0 a).2.1 ≠ (T_c0 b).2.1 := by decide +kernel
theorem tyok_c0 : ∀ k, k < 7 → parseFieldDescriptor (T_c0 k).2.2.1 = some (ty_c0 k) := by decide +kernel
set_option maxRecDepth 20000 in
theorem us_c0 : ∀ w ∈ u_ws "StoryStates" T_c0 7, w ∈ sTB ∧ w.onTables = true := by
  intro w hw
  obtain ⟨k, hk, rfl⟩ := List.mem_map.mp hw
  have hk := List.mem_range.mp hk
  match k, hk with
  | 0, _ => exact ⟨sMem 252 (by decide +kernel) rfl, rfl⟩
  | 1, _ => exact ⟨sMem 254 (by decide +kernel) rfl, rfl⟩
  | 2, _ => exact ⟨sMem 256 (by decide +kernel) rfl, rfl⟩
  | 3, _ => exact ⟨sMem 258 (by decide +kernel) rfl, rfl⟩
  | 4, _ => exact ⟨sMem 260 (by decide +kernel) rfl, rfl⟩
  | 5, _ => exact ⟨sMem 262 (by decide +kernel) rfl, rfl⟩
  | 6, _ => exact ⟨sMem 264 (by decide +kernel) rfl, rfl⟩
  | n + 7, h => exact absurd h (by omega)
def T_c1 : u_T := fun k => match k with
  | 0 => ("StoryStates$Engine", "world", "LStoryStates$World;", true)
  | 1 => ("StoryStates$Engine", "texts", "[I", true)
  | 2 => ("StoryStates$Engine", "textCount", "I", false)
  | 3 => ("StoryStates$Engine", "rulesDone", "I", false)
  | _ => ("StoryStates$Engine", "now", "J", false)
def ty_c1 : Nat → FieldType := fun k => match k with
  | 0 => (.object "StoryStates$World")
  | 1 => (.array .int)
  | 2 => .int
  | 3 => .int
  | _ => .long
theorem nm_c1 : ∀ a, a < 5 → ∀ b, b < 5 → a ≠ b → (T_c1 a).2.1 ≠ (T_c1 b).2.1 := by decide +kernel
theorem tyok_c1 : ∀ k, k < 5 → parseFieldDescriptor (T_c1 k).2.2.1 = some (ty_c1 k) := by decide +kernel
set_option maxRecDepth 20000 in
theorem us_c1 : ∀ w ∈ u_ws "StoryStates$Engine" T_c1 5, w ∈ sTB ∧ w.onTables = true := by
  intro w hw
  obtain ⟨k, hk, rfl⟩ := List.mem_map.mp hw
  have hk := List.mem_range.mp hk
  match k, hk with
  | 0, _ => exact ⟨sMem 188 (by decide +kernel) rfl, rfl⟩
  | 1, _ => exact ⟨sMem 190 (by decide +kernel) rfl, rfl⟩
  | 2, _ => exact ⟨sMem 192 (by decide +kernel) rfl, rfl⟩
  | 3, _ => exact ⟨sMem 194 (by decide +kernel) rfl, rfl⟩
  | 4, _ => exact ⟨sMem 196 (by decide +kernel) rfl, rfl⟩
  | n + 5, h => exact absurd h (by omega)
def T_c2 : u_T := fun k => match k with
  | 0 => ("StoryStates$World", "exitRooms", "[I", true)
  | 1 => ("StoryStates$World", "exitDoors", "[I", true)
  | 2 => ("StoryStates$World", "places", "[I", true)
  | 3 => ("StoryStates$World", "kinds", "[I", true)
  | 4 => ("StoryStates$World", "firstAmounts", "[I", true)
  | 5 => ("StoryStates$World", "mostAmounts", "[I", true)
  | 6 => ("StoryStates$World", "isGood", "[Z", true)
  | 7 => ("StoryStates$World", "rules", "LStoryStates$Rules;", true)
  | 8 => ("StoryStates$World", "walkerThings", "[I", true)
  | 9 => ("StoryStates$World", "walkerRooms", "[I", true)
  | 10 => ("StoryStates$World", "timerRules", "[I", true)
  | 11 => ("StoryStates$World", "timerCounts", "[I", true)
  | 12 => ("StoryStates$World", "rooms", "I", false)
  | 13 => ("StoryStates$World", "things", "I", false)
  | 14 => ("StoryStates$World", "numbers", "I", false)
  | 15 => ("StoryStates$World", "endings", "I", false)
  | 16 => ("StoryStates$World", "walkers", "I", false)
  | _ => ("StoryStates$World", "timers", "I", false)
def ty_c2 : Nat → FieldType := fun k => match k with
  | 0 => (.array .int)
  | 1 => (.array .int)
  | 2 => (.array .int)
  | 3 => (.array .int)
  | 4 => (.array .int)
  | 5 => (.array .int)
  | 6 => (.array .boolean)
  | 7 => (.object "StoryStates$Rules")
  | 8 => (.array .int)
  | 9 => (.array .int)
  | 10 => (.array .int)
  | 11 => (.array .int)
  | 12 => .int
  | 13 => .int
  | 14 => .int
  | 15 => .int
  | 16 => .int
  | _ => .int
theorem nm_c2 : ∀ a, a < 18 → ∀ b, b < 18 → a ≠ b → (T_c2 a).2.1 ≠ (T_c2 b).2.1 := by decide +kernel
theorem tyok_c2 : ∀ k, k < 18 → parseFieldDescriptor (T_c2 k).2.2.1 = some (ty_c2 k) := by decide +kernel
set_option maxRecDepth 20000 in
theorem us_c2 : ∀ w ∈ u_ws "StoryStates$World" T_c2 18, w ∈ sTB ∧ w.onTables = true := by
  intro w hw
  obtain ⟨k, hk, rfl⟩ := List.mem_map.mp hw
  have hk := List.mem_range.mp hk
  match k, hk with
  | 0, _ => exact ⟨sMem 141 (by decide +kernel) rfl, rfl⟩
  | 1, _ => exact ⟨sMem 143 (by decide +kernel) rfl, rfl⟩
  | 2, _ => exact ⟨sMem 145 (by decide +kernel) rfl, rfl⟩
  | 3, _ => exact ⟨sMem 147 (by decide +kernel) rfl, rfl⟩
  | 4, _ => exact ⟨sMem 149 (by decide +kernel) rfl, rfl⟩
  | 5, _ => exact ⟨sMem 151 (by decide +kernel) rfl, rfl⟩
  | 6, _ => exact ⟨sMem 153 (by decide +kernel) rfl, rfl⟩
  | 7, _ => exact ⟨sMem 155 (by decide +kernel) rfl, rfl⟩
  | 8, _ => exact ⟨sMem 157 (by decide +kernel) rfl, rfl⟩
  | 9, _ => exact ⟨sMem 159 (by decide +kernel) rfl, rfl⟩
  | 10, _ => exact ⟨sMem 161 (by decide +kernel) rfl, rfl⟩
  | 11, _ => exact ⟨sMem 163 (by decide +kernel) rfl, rfl⟩
  | 12, _ => exact ⟨sMem 165 (by decide +kernel) rfl, rfl⟩
  | 13, _ => exact ⟨sMem 167 (by decide +kernel) rfl, rfl⟩
  | 14, _ => exact ⟨sMem 169 (by decide +kernel) rfl, rfl⟩
  | 15, _ => exact ⟨sMem 171 (by decide +kernel) rfl, rfl⟩
  | 16, _ => exact ⟨sMem 173 (by decide +kernel) rfl, rfl⟩
  | 17, _ => exact ⟨sMem 175 (by decide +kernel) rfl, rfl⟩
  | n + 18, h => exact absurd h (by omega)
def T_c3 : u_T := fun k => match k with
  | 0 => ("StoryStates$Rules", "verbs", "[I", true)
  | 1 => ("StoryStates$Rules", "firsts", "[I", true)
  | 2 => ("StoryStates$Rules", "seconds", "[I", true)
  | 3 => ("StoryStates$Rules", "texts", "[I", true)
  | 4 => ("StoryStates$Rules", "ofTimer", "[Z", true)
  | 5 => ("StoryStates$Rules", "conditions", "LStoryStates$Clauses;", true)
  | 6 => ("StoryStates$Rules", "effects", "LStoryStates$Clauses;", true)
  | _ => ("StoryStates$Rules", "size", "I", false)
def ty_c3 : Nat → FieldType := fun k => match k with
  | 0 => (.array .int)
  | 1 => (.array .int)
  | 2 => (.array .int)
  | 3 => (.array .int)
  | 4 => (.array .boolean)
  | 5 => (.object "StoryStates$Clauses")
  | 6 => (.object "StoryStates$Clauses")
  | _ => .int
theorem nm_c3 : ∀ a, a < 8 → ∀ b, b < 8 → a ≠ b → (T_c3 a).2.1 ≠ (T_c3 b).2.1 := by decide +kernel
theorem tyok_c3 : ∀ k, k < 8 → parseFieldDescriptor (T_c3 k).2.2.1 = some (ty_c3 k) := by decide +kernel
set_option maxRecDepth 20000 in
theorem us_c3 : ∀ w ∈ u_ws "StoryStates$Rules" T_c3 8, w ∈ sTB ∧ w.onTables = true := by
  intro w hw
  obtain ⟨k, hk, rfl⟩ := List.mem_map.mp hw
  have hk := List.mem_range.mp hk
  match k, hk with
  | 0, _ => exact ⟨sMem 88 (by decide +kernel) rfl, rfl⟩
  | 1, _ => exact ⟨sMem 90 (by decide +kernel) rfl, rfl⟩
  | 2, _ => exact ⟨sMem 92 (by decide +kernel) rfl, rfl⟩
  | 3, _ => exact ⟨sMem 94 (by decide +kernel) rfl, rfl⟩
  | 4, _ => exact ⟨sMem 96 (by decide +kernel) rfl, rfl⟩
  | 5, _ => exact ⟨sMem 98 (by decide +kernel) rfl, rfl⟩
  | 6, _ => exact ⟨sMem 100 (by decide +kernel) rfl, rfl⟩
  | 7, _ => exact ⟨sMem 102 (by decide +kernel) rfl, rfl⟩
  | n + 8, h => exact absurd h (by omega)
def T_c4 : u_T := fun k => match k with
  | 0 => ("StoryStates$Clauses", "sizes", "[I", true)
  | 1 => ("StoryStates$Clauses", "kinds", "[I", true)
  | 2 => ("StoryStates$Clauses", "xs", "[I", true)
  | _ => ("StoryStates$Clauses", "ys", "[I", true)
def ty_c4 : Nat → FieldType := fun k => match k with
  | 0 => (.array .int)
  | 1 => (.array .int)
  | 2 => (.array .int)
  | _ => (.array .int)
theorem nm_c4 : ∀ a, a < 4 → ∀ b, b < 4 → a ≠ b → (T_c4 a).2.1 ≠ (T_c4 b).2.1 := by decide +kernel
theorem tyok_c4 : ∀ k, k < 4 → parseFieldDescriptor (T_c4 k).2.2.1 = some (ty_c4 k) := by decide +kernel
set_option maxRecDepth 20000 in
theorem us_c4 : ∀ w ∈ u_ws "StoryStates$Clauses" T_c4 4, w ∈ sTB ∧ w.onTables = true := by
  intro w hw
  obtain ⟨k, hk, rfl⟩ := List.mem_map.mp hw
  have hk := List.mem_range.mp hk
  match k, hk with
  | 0, _ => exact ⟨sMem 59 (by decide +kernel) rfl, rfl⟩
  | 1, _ => exact ⟨sMem 61 (by decide +kernel) rfl, rfl⟩
  | 2, _ => exact ⟨sMem 63 (by decide +kernel) rfl, rfl⟩
  | 3, _ => exact ⟨sMem 65 (by decide +kernel) rfl, rfl⟩
  | n + 4, h => exact absurd h (by omega)
def T_c5 : u_T := fun k => match k with
  | 0 => ("StoryStates$Atlas", "codes", "[I", true)
  | 1 => ("StoryStates$Atlas", "codeCount", "I", false)
  | 2 => ("StoryStates$Atlas", "states", "[J", true)
  | 3 => ("StoryStates$Atlas", "origins", "[I", true)
  | 4 => ("StoryStates$Atlas", "codesHere", "[I", true)
  | 5 => ("StoryStates$Atlas", "slots", "[I", true)
  | 6 => ("StoryStates$Atlas", "leads", "[J", true)
  | 7 => ("StoryStates$Atlas", "hopeful", "[J", true)
  | 8 => ("StoryStates$Atlas", "rulesDone", "I", false)
  | 9 => ("StoryStates$Atlas", "gone", "I", false)
  | 10 => ("StoryStates$Atlas", "found", "I", false)
  | _ => ("StoryStates$Atlas", "limitMet", "Z", false)
def ty_c5 : Nat → FieldType := fun k => match k with
  | 0 => (.array .int)
  | 1 => .int
  | 2 => (.array .long)
  | 3 => (.array .int)
  | 4 => (.array .int)
  | 5 => (.array .int)
  | 6 => (.array .long)
  | 7 => (.array .long)
  | 8 => .int
  | 9 => .int
  | 10 => .int
  | _ => .boolean
theorem nm_c5 : ∀ a, a < 12 → ∀ b, b < 12 → a ≠ b → (T_c5 a).2.1 ≠ (T_c5 b).2.1 := by decide +kernel
theorem tyok_c5 : ∀ k, k < 12 → parseFieldDescriptor (T_c5 k).2.2.1 = some (ty_c5 k) := by decide +kernel
set_option maxRecDepth 20000 in
theorem us_c5 : ∀ w ∈ u_ws "StoryStates$Atlas" T_c5 12, w ∈ sTB ∧ w.onTables = true := by
  intro w hw
  obtain ⟨k, hk, rfl⟩ := List.mem_map.mp hw
  have hk := List.mem_range.mp hk
  match k, hk with
  | 0, _ => exact ⟨sMem 219 (by decide +kernel) rfl, rfl⟩
  | 1, _ => exact ⟨sMem 221 (by decide +kernel) rfl, rfl⟩
  | 2, _ => exact ⟨sMem 223 (by decide +kernel) rfl, rfl⟩
  | 3, _ => exact ⟨sMem 225 (by decide +kernel) rfl, rfl⟩
  | 4, _ => exact ⟨sMem 227 (by decide +kernel) rfl, rfl⟩
  | 5, _ => exact ⟨sMem 229 (by decide +kernel) rfl, rfl⟩
  | 6, _ => exact ⟨sMem 231 (by decide +kernel) rfl, rfl⟩
  | 7, _ => exact ⟨sMem 233 (by decide +kernel) rfl, rfl⟩
  | 8, _ => exact ⟨sMem 235 (by decide +kernel) rfl, rfl⟩
  | 9, _ => exact ⟨sMem 237 (by decide +kernel) rfl, rfl⟩
  | 10, _ => exact ⟨sMem 239 (by decide +kernel) rfl, rfl⟩
  | 11, _ => exact ⟨sMem 241 (by decide +kernel) rfl, rfl⟩
  | n + 12, h => exact absurd h (by omega)
def Zc : sZo := ([("StoryStates", T_c0, 7), ("StoryStates$Engine", T_c1, 5), ("StoryStates$World", T_c2, 18), ("StoryStates$Rules", T_c3, 8), ("StoryStates$Clauses", T_c4, 4), ("StoryStates$Atlas", T_c5, 12)], [.inr (0, [some (some 1), some (some 2), some (some 6), some (some 7), some (some 8), none, none]), .inr (1, [some (some 2), some (some 9), none, none, some none]), .inr (2, [some (some 10), some (some 11), some (some 12), some (some 13), some (some 14), some (some 15), some (some 16), some (some 3), some (some 17), some (some 18), some (some 19), some (some 20), none, none, none, none, none, none]), .inr (3, [some (some 21), some (some 22), some (some 23), some (some 24), some (some 25), some (some 4), some (some 5), none]), .inr (4, [some (some 26), some (some 27), some (some 28), some (some 29)]), .inr (4, [some (some 30), some (some 31), some (some 32), some (some 33)]), .inr (5, [some (some 34), none, some (some 35), some (some 36), some (some 37), some (some 38), some (some 39), some (some 40), none, none, none, none]), .inl (2, 61), .inl (0, 3), .inl (0, 3), .inl (0, 24), .inl (0, 24), .inl (0, 6), .inl (0, 6), .inl (0, 3), .inl (0, 3), .inl (1, 4), .inl (0, 2), .inl (0, 6), .inl (0, 2), .inl (0, 2), .inl (0, 12), .inl (0, 12), .inl (0, 12), .inl (0, 12), .inl (1, 12), .inl (0, 12), .inl (0, 36), .inl (0, 36), .inl (0, 36), .inl (0, 12), .inl (0, 36), .inl (0, 36), .inl (0, 36), .inl (0, 163), .inl (2, 160), .inl (0, 160), .inl (0, 160), .inl (0, 512), .inl (2, 480), .inl (2, 3)])
def T_m0 : u_T := fun k => match k with
  | 0 => ("StoryStatesModel", "code", "I", false)
  | 1 => ("StoryStatesModel", "rooms", "I", false)
  | 2 => ("StoryStatesModel", "exits", "[I", true)
  | 3 => ("StoryStatesModel", "doors", "[I", true)
  | 4 => ("StoryStatesModel", "things", "I", false)
  | 5 => ("StoryStatesModel", "kinds", "[I", true)
  | 6 => ("StoryStatesModel", "firstPlaces", "[I", true)
  | 7 => ("StoryStatesModel", "numbers", "I", false)
  | 8 => ("StoryStatesModel", "mosts", "[I", true)
  | 9 => ("StoryStatesModel", "firstNumbers", "[I", true)
  | 10 => ("StoryStatesModel", "endings", "I", false)
  | 11 => ("StoryStatesModel", "good", "[Z", true)
  | 12 => ("StoryStatesModel", "rules", "I", false)
  | 13 => ("StoryStatesModel", "verbs", "[I", true)
  | 14 => ("StoryStatesModel", "firsts", "[I", true)
  | 15 => ("StoryStatesModel", "seconds", "[I", true)
  | 16 => ("StoryStatesModel", "texts", "[I", true)
  | 17 => ("StoryStatesModel", "timed", "[Z", true)
  | 18 => ("StoryStatesModel", "conditions", "[I", true)
  | 19 => ("StoryStatesModel", "conditionKind", "[I", true)
  | 20 => ("StoryStatesModel", "conditionX", "[I", true)
  | 21 => ("StoryStatesModel", "conditionY", "[I", true)
  | 22 => ("StoryStatesModel", "effects", "[I", true)
  | 23 => ("StoryStatesModel", "effectKind", "[I", true)
  | 24 => ("StoryStatesModel", "effectX", "[I", true)
  | 25 => ("StoryStatesModel", "effectY", "[I", true)
  | 26 => ("StoryStatesModel", "walkers", "I", false)
  | 27 => ("StoryStatesModel", "walking", "[I", true)
  | 28 => ("StoryStatesModel", "route", "[I", true)
  | 29 => ("StoryStatesModel", "timers", "I", false)
  | 30 => ("StoryStatesModel", "timerRule", "[I", true)
  | 31 => ("StoryStatesModel", "firstCounts", "[I", true)
  | 32 => ("StoryStatesModel", "here", "I", false)
  | 33 => ("StoryStatesModel", "places", "[I", true)
  | 34 => ("StoryStatesModel", "open", "[Z", true)
  | 35 => ("StoryStatesModel", "amounts", "[I", true)
  | 36 => ("StoryStatesModel", "steps", "[I", true)
  | 37 => ("StoryStatesModel", "counts", "[I", true)
  | 38 => ("StoryStatesModel", "over", "I", false)
  | 39 => ("StoryStatesModel", "lines", "I", false)
  | 40 => ("StoryStatesModel", "line", "[I", true)
  | 41 => ("StoryStatesModel", "done", "I", false)
  | 42 => ("StoryStatesModel", "nowA", "I", false)
  | 43 => ("StoryStatesModel", "nowB", "I", false)
  | 44 => ("StoryStatesModel", "turns", "I", false)
  | 45 => ("StoryStatesModel", "pastA", "[I", true)
  | 46 => ("StoryStatesModel", "pastB", "[I", true)
  | 47 => ("StoryStatesModel", "spoken", "I", false)
  | 48 => ("StoryStatesModel", "speech", "[I", true)
  | 49 => ("StoryStatesModel", "found", "I", false)
  | 50 => ("StoryStatesModel", "gone", "I", false)
  | 51 => ("StoryStatesModel", "full", "Z", false)
  | 52 => ("StoryStatesModel", "foundA", "[I", true)
  | 53 => ("StoryStatesModel", "foundB", "[I", true)
  | 54 => ("StoryStatesModel", "from", "[I", true)
  | 55 => ("StoryStatesModel", "byVerb", "[I", true)
  | 56 => ("StoryStatesModel", "byFirst", "[I", true)
  | 57 => ("StoryStatesModel", "bySecond", "[I", true)
  | 58 => ("StoryStatesModel", "follows", "[I", true)
  | _ => ("StoryStatesModel", "hope", "[Z", true)
def ty_m0 : Nat → FieldType := fun k => match k with
  | 0 => .int
  | 1 => .int
  | 2 => (.array .int)
  | 3 => (.array .int)
  | 4 => .int
  | 5 => (.array .int)
  | 6 => (.array .int)
  | 7 => .int
  | 8 => (.array .int)
  | 9 => (.array .int)
  | 10 => .int
  | 11 => (.array .boolean)
  | 12 => .int
  | 13 => (.array .int)
  | 14 => (.array .int)
  | 15 => (.array .int)
  | 16 => (.array .int)
  | 17 => (.array .boolean)
  | 18 => (.array .int)
  | 19 => (.array .int)
  | 20 => (.array .int)
  | 21 => (.array .int)
  | 22 => (.array .int)
  | 23 => (.array .int)
  | 24 => (.array .int)
  | 25 => (.array .int)
  | 26 => .int
  | 27 => (.array .int)
  | 28 => (.array .int)
  | 29 => .int
  | 30 => (.array .int)
  | 31 => (.array .int)
  | 32 => .int
  | 33 => (.array .int)
  | 34 => (.array .boolean)
  | 35 => (.array .int)
  | 36 => (.array .int)
  | 37 => (.array .int)
  | 38 => .int
  | 39 => .int
  | 40 => (.array .int)
  | 41 => .int
  | 42 => .int
  | 43 => .int
  | 44 => .int
  | 45 => (.array .int)
  | 46 => (.array .int)
  | 47 => .int
  | 48 => (.array .int)
  | 49 => .int
  | 50 => .int
  | 51 => .boolean
  | 52 => (.array .int)
  | 53 => (.array .int)
  | 54 => (.array .int)
  | 55 => (.array .int)
  | 56 => (.array .int)
  | 57 => (.array .int)
  | 58 => (.array .int)
  | _ => (.array .boolean)
theorem nm_m0 : ∀ a, a < 60 → ∀ b, b < 60 → a ≠ b → (T_m0 a).2.1 ≠ (T_m0 b).2.1 := by decide +kernel
theorem tyok_m0 : ∀ k, k < 60 → parseFieldDescriptor (T_m0 k).2.2.1 = some (ty_m0 k) := by decide +kernel
set_option maxRecDepth 20000 in
theorem us_m0 : ∀ w ∈ u_ws "StoryStatesModel" T_m0 60, w ∈ sTB ∧ w.onTables = true := by
  intro w hw
  obtain ⟨k, hk, rfl⟩ := List.mem_map.mp hw
  have hk := List.mem_range.mp hk
  match k, hk with
  | 0, _ => exact ⟨sMem 982 (by decide +kernel) rfl, rfl⟩
  | 1, _ => exact ⟨sMem 984 (by decide +kernel) rfl, rfl⟩
  | 2, _ => exact ⟨sMem 986 (by decide +kernel) rfl, rfl⟩
  | 3, _ => exact ⟨sMem 988 (by decide +kernel) rfl, rfl⟩
  | 4, _ => exact ⟨sMem 990 (by decide +kernel) rfl, rfl⟩
  | 5, _ => exact ⟨sMem 992 (by decide +kernel) rfl, rfl⟩
  | 6, _ => exact ⟨sMem 994 (by decide +kernel) rfl, rfl⟩
  | 7, _ => exact ⟨sMem 996 (by decide +kernel) rfl, rfl⟩
  | 8, _ => exact ⟨sMem 998 (by decide +kernel) rfl, rfl⟩
  | 9, _ => exact ⟨sMem 1000 (by decide +kernel) rfl, rfl⟩
  | 10, _ => exact ⟨sMem 1002 (by decide +kernel) rfl, rfl⟩
  | 11, _ => exact ⟨sMem 1004 (by decide +kernel) rfl, rfl⟩
  | 12, _ => exact ⟨sMem 1006 (by decide +kernel) rfl, rfl⟩
  | 13, _ => exact ⟨sMem 1008 (by decide +kernel) rfl, rfl⟩
  | 14, _ => exact ⟨sMem 1010 (by decide +kernel) rfl, rfl⟩
  | 15, _ => exact ⟨sMem 1012 (by decide +kernel) rfl, rfl⟩
  | 16, _ => exact ⟨sMem 1014 (by decide +kernel) rfl, rfl⟩
  | 17, _ => exact ⟨sMem 1016 (by decide +kernel) rfl, rfl⟩
  | 18, _ => exact ⟨sMem 1018 (by decide +kernel) rfl, rfl⟩
  | 19, _ => exact ⟨sMem 1020 (by decide +kernel) rfl, rfl⟩
  | 20, _ => exact ⟨sMem 1022 (by decide +kernel) rfl, rfl⟩
  | 21, _ => exact ⟨sMem 1024 (by decide +kernel) rfl, rfl⟩
  | 22, _ => exact ⟨sMem 1026 (by decide +kernel) rfl, rfl⟩
  | 23, _ => exact ⟨sMem 1028 (by decide +kernel) rfl, rfl⟩
  | 24, _ => exact ⟨sMem 1030 (by decide +kernel) rfl, rfl⟩
  | 25, _ => exact ⟨sMem 1032 (by decide +kernel) rfl, rfl⟩
  | 26, _ => exact ⟨sMem 1034 (by decide +kernel) rfl, rfl⟩
  | 27, _ => exact ⟨sMem 1036 (by decide +kernel) rfl, rfl⟩
  | 28, _ => exact ⟨sMem 1038 (by decide +kernel) rfl, rfl⟩
  | 29, _ => exact ⟨sMem 1040 (by decide +kernel) rfl, rfl⟩
  | 30, _ => exact ⟨sMem 1042 (by decide +kernel) rfl, rfl⟩
  | 31, _ => exact ⟨sMem 1044 (by decide +kernel) rfl, rfl⟩
  | 32, _ => exact ⟨sMem 1046 (by decide +kernel) rfl, rfl⟩
  | 33, _ => exact ⟨sMem 1048 (by decide +kernel) rfl, rfl⟩
  | 34, _ => exact ⟨sMem 1050 (by decide +kernel) rfl, rfl⟩
  | 35, _ => exact ⟨sMem 1052 (by decide +kernel) rfl, rfl⟩
  | 36, _ => exact ⟨sMem 1054 (by decide +kernel) rfl, rfl⟩
  | 37, _ => exact ⟨sMem 1056 (by decide +kernel) rfl, rfl⟩
  | 38, _ => exact ⟨sMem 1058 (by decide +kernel) rfl, rfl⟩
  | 39, _ => exact ⟨sMem 1060 (by decide +kernel) rfl, rfl⟩
  | 40, _ => exact ⟨sMem 1062 (by decide +kernel) rfl, rfl⟩
  | 41, _ => exact ⟨sMem 1064 (by decide +kernel) rfl, rfl⟩
  | 42, _ => exact ⟨sMem 1066 (by decide +kernel) rfl, rfl⟩
  | 43, _ => exact ⟨sMem 1068 (by decide +kernel) rfl, rfl⟩
  | 44, _ => exact ⟨sMem 1070 (by decide +kernel) rfl, rfl⟩
  | 45, _ => exact ⟨sMem 1072 (by decide +kernel) rfl, rfl⟩
  | 46, _ => exact ⟨sMem 1074 (by decide +kernel) rfl, rfl⟩
  | 47, _ => exact ⟨sMem 1076 (by decide +kernel) rfl, rfl⟩
  | 48, _ => exact ⟨sMem 1078 (by decide +kernel) rfl, rfl⟩
  | 49, _ => exact ⟨sMem 1080 (by decide +kernel) rfl, rfl⟩
  | 50, _ => exact ⟨sMem 1082 (by decide +kernel) rfl, rfl⟩
  | 51, _ => exact ⟨sMem 1084 (by decide +kernel) rfl, rfl⟩
  | 52, _ => exact ⟨sMem 1086 (by decide +kernel) rfl, rfl⟩
  | 53, _ => exact ⟨sMem 1088 (by decide +kernel) rfl, rfl⟩
  | 54, _ => exact ⟨sMem 1090 (by decide +kernel) rfl, rfl⟩
  | 55, _ => exact ⟨sMem 1092 (by decide +kernel) rfl, rfl⟩
  | 56, _ => exact ⟨sMem 1094 (by decide +kernel) rfl, rfl⟩
  | 57, _ => exact ⟨sMem 1096 (by decide +kernel) rfl, rfl⟩
  | 58, _ => exact ⟨sMem 1098 (by decide +kernel) rfl, rfl⟩
  | 59, _ => exact ⟨sMem 1100 (by decide +kernel) rfl, rfl⟩
  | n + 60, h => exact absurd h (by omega)
def Zm : sZo := ([("StoryStatesModel", T_m0, 60)], [.inr (0, [none, none, some (some 1), some (some 2), none, some (some 3), some (some 4), none, some (some 5), some (some 6), none, some (some 7), none, some (some 8), some (some 9), some (some 10), some (some 11), some (some 12), some (some 13), some (some 14), some (some 15), some (some 16), some (some 17), some (some 18), some (some 19), some (some 20), none, some (some 21), some (some 22), none, some (some 23), some (some 24), none, some (some 25), some (some 26), some (some 27), some (some 28), some (some 29), none, none, some (some 30), none, none, none, none, some (some 31), some (some 32), none, some (some 33), none, none, none, some (some 34), some (some 35), some (some 36), some (some 37), some (some 38), some (some 39), some (some 40), some (some 41)]), .inl (0, 24), .inl (0, 24), .inl (0, 6), .inl (0, 6), .inl (0, 3), .inl (0, 3), .inl (1, 4), .inl (0, 12), .inl (0, 12), .inl (0, 12), .inl (0, 12), .inl (1, 12), .inl (0, 12), .inl (0, 36), .inl (0, 36), .inl (0, 36), .inl (0, 12), .inl (0, 36), .inl (0, 36), .inl (0, 36), .inl (0, 2), .inl (0, 6), .inl (0, 2), .inl (0, 2), .inl (0, 6), .inl (1, 6), .inl (0, 3), .inl (0, 2), .inl (0, 2), .inl (0, 4), .inl (0, 60), .inl (0, 60), .inl (0, 4), .inl (0, 160), .inl (0, 160), .inl (0, 160), .inl (0, 160), .inl (0, 160), .inl (0, 160), .inl (0, 800), .inl (1, 160)])
end
section
theorem bc_m2 : (Int8.ofInt (-2)).toInt32 = (-2) := by decide
theorem bc_m7 : (Int8.ofInt (-7)).toInt32 = (-7) := by decide
theorem bc_100 : (Int8.ofInt 100).toInt32 = 100 := by decide
theorem bc_15 : (Int8.ofInt 15).toInt32 = 15 := by decide
theorem bc_27 : (Int8.ofInt 27).toInt32 = 27 := by decide
theorem bc_33 : (Int8.ofInt 33).toInt32 = 33 := by decide
theorem bc_42 : (Int8.ofInt 42).toInt32 = 42 := by decide
theorem bc_46 : (Int8.ofInt 46).toInt32 = 46 := by decide
theorem bc_54 : (Int8.ofInt 54).toInt32 = 54 := by decide
theorem bc_55 : (Int8.ofInt 55).toInt32 = 55 := by decide
theorem bc_6 : (Int8.ofInt 6).toInt32 = 6 := by decide
theorem bc_64 : (Int8.ofInt 64).toInt32 = 64 := by decide
theorem bc_7 : (Int8.ofInt 7).toInt32 = 7 := by decide
theorem bc_8 : (Int8.ofInt 8).toInt32 = 8 := by decide
theorem bc_99 : (Int8.ofInt 99).toInt32 = 99 := by decide
theorem ic_m1 : Int32.ofInt (-1) = (-1) := by decide
theorem ic_0 : Int32.ofInt 0 = 0 := by decide
theorem ic_1 : Int32.ofInt 1 = 1 := by decide
theorem ic_2 : Int32.ofInt 2 = 2 := by decide
theorem ic_3 : Int32.ofInt 3 = 3 := by decide
theorem ic_4 : Int32.ofInt 4 = 4 := by decide
theorem lc_0 : Int64.ofNat ((0 : Fin 2) : Nat) = 0 := by decide
theorem lc_1 : Int64.ofNat ((1 : Fin 2) : Nat) = 1 := by decide
theorem nc_3 : Int32.ofNat 3 = 3 := by decide
theorem nc_512 : Int32.ofNat 512 = 512 := by decide
theorem sc_160 : (Int16.ofInt 160).toInt32 = 160 := by decide
theorem sc_163 : (Int16.ofInt 163).toInt32 = 163 := by decide
theorem sc_511 : (Int16.ofInt 511).toInt32 = 511 := by decide
theorem sc_512 : (Int16.ofInt 512).toInt32 = 512 := by decide
def y_W_becomeEmpty : MethodName := ⟨"StoryStates$World", "becomeEmpty", "()V"⟩
def y_S_isFrom : MethodName := ⟨"StoryStates", "isFrom", "(III)Z"⟩
def y_W_hasRoom : MethodName := ⟨"StoryStates$World", "hasRoom", "(I)Z"⟩
def y_W_hasThing : MethodName := ⟨"StoryStates$World", "hasThing", "(I)Z"⟩
def y_W_hasNumber : MethodName := ⟨"StoryStates$World", "hasNumber", "(I)Z"⟩
def y_W_hasEnding : MethodName := ⟨"StoryStates$World", "hasEnding", "(I)Z"⟩
def y_W_hasRule : MethodName := ⟨"StoryStates$World", "hasRule", "(I)Z"⟩
def y_W_hasPlace : MethodName := ⟨"StoryStates$World", "hasPlace", "(I)Z"⟩
def y_W_hasSubject : MethodName := ⟨"StoryStates$World", "hasSubject", "(II)Z"⟩
def y_W_hasCommand : MethodName := ⟨"StoryStates$World", "hasCommand", "(III)Z"⟩
def y_W_isWalker : MethodName := ⟨"StoryStates$World", "isWalker", "(I)Z"⟩
def y_W_setExit : MethodName := ⟨"StoryStates$World", "setExit", "(IIII)V"⟩
def y_W_addRoom : MethodName := ⟨"StoryStates$World", "addRoom", "()I"⟩
def y_W_addThing : MethodName := ⟨"StoryStates$World", "addThing", "(II)I"⟩
def y_W_addNumber : MethodName := ⟨"StoryStates$World", "addNumber", "(II)I"⟩
def y_W_addEnding : MethodName := ⟨"StoryStates$World", "addEnding", "(Z)I"⟩
def y_W_addWalker : MethodName := ⟨"StoryStates$World", "addWalker", "(IIII)V"⟩
def y_W_addTimer : MethodName := ⟨"StoryStates$World", "addTimer", "(II)V"⟩
def y_B_write : MethodName := ⟨"StoryStates$Bits", "write", "(JIII)J"⟩
def y_B_withPlace : MethodName := ⟨"StoryStates$Bits", "withPlace", "(JII)J"⟩
def y_B_withOpen : MethodName := ⟨"StoryStates$Bits", "withOpen", "(JII)J"⟩
def y_B_withAmount : MethodName := ⟨"StoryStates$Bits", "withAmount", "(JII)J"⟩
def y_B_withCount : MethodName := ⟨"StoryStates$Bits", "withCount", "(JII)J"⟩
def y_W_firstState : MethodName := ⟨"StoryStates$World", "firstState", "()J"⟩
def y_R_append : MethodName := ⟨"StoryStates$Rules", "append", "(IIII)I"⟩
def y_C_hasSpace : MethodName := ⟨"StoryStates$Clauses", "hasSpace", "(I)Z"⟩
def y_C_endOf : MethodName := ⟨"StoryStates$Clauses", "endOf", "(I)I"⟩
def y_C_append : MethodName := ⟨"StoryStates$Clauses", "append", "(IIII)V"⟩
def y_B_placeOf : MethodName := ⟨"StoryStates$Bits", "placeOf", "(JI)I"⟩
def y_B_isOpen : MethodName := ⟨"StoryStates$Bits", "isOpen", "(JI)Z"⟩
def y_B_roomOf : MethodName := ⟨"StoryStates$Bits", "roomOf", "(J)I"⟩
def y_B_isSeen : MethodName := ⟨"StoryStates$Bits", "isSeen", "(JI)Z"⟩
def y_E_isSeenOrNone : MethodName := ⟨"StoryStates$Engine", "isSeenOrNone", "(I)Z"⟩
def y_R_answers : MethodName := ⟨"StoryStates$Rules", "answers", "(IIII)Z"⟩
def y_C_startOf : MethodName := ⟨"StoryStates$Clauses", "startOf", "(I)I"⟩
def y_B_amountOf : MethodName := ⟨"StoryStates$Bits", "amountOf", "(JI)I"⟩
def y_E_holds : MethodName := ⟨"StoryStates$Engine", "holds", "(III)Z"⟩
def y_E_conditionsHold : MethodName := ⟨"StoryStates$Engine", "conditionsHold", "(I)Z"⟩
def y_E_fittingRule : MethodName := ⟨"StoryStates$Engine", "fittingRule", "(III)I"⟩
def y_E_say : MethodName := ⟨"StoryStates$Engine", "say", "(I)V"⟩
def y_B_endingOf : MethodName := ⟨"StoryStates$Bits", "endingOf", "(J)I"⟩
def y_B_isOver : MethodName := ⟨"StoryStates$Bits", "isOver", "(J)Z"⟩
def y_B_withEnding : MethodName := ⟨"StoryStates$Bits", "withEnding", "(JI)J"⟩
def y_B_isPartOf : MethodName := ⟨"StoryStates$Bits", "isPartOf", "(JII)Z"⟩
def y_B_withRoom : MethodName := ⟨"StoryStates$Bits", "withRoom", "(JI)J"⟩
def y_E_doEffect : MethodName := ⟨"StoryStates$Engine", "doEffect", "(III)V"⟩
def y_E_doRule : MethodName := ⟨"StoryStates$Engine", "doRule", "(I)V"⟩
def y_B_stepOf : MethodName := ⟨"StoryStates$Bits", "stepOf", "(JI)I"⟩
def y_B_withStep : MethodName := ⟨"StoryStates$Bits", "withStep", "(JII)J"⟩
def y_E_stepWalkers : MethodName := ⟨"StoryStates$Engine", "stepWalkers", "()V"⟩
def y_B_countOf : MethodName := ⟨"StoryStates$Bits", "countOf", "(JI)I"⟩
def y_E_runsOut : MethodName := ⟨"StoryStates$Engine", "runsOut", "(I)Z"⟩
def y_E_putInto : MethodName := ⟨"StoryStates$Engine", "putInto", "(II)Z"⟩
def y_E_turnLid : MethodName := ⟨"StoryStates$Engine", "turnLid", "(II)Z"⟩
def y_E_putDown : MethodName := ⟨"StoryStates$Engine", "putDown", "(I)Z"⟩
def y_E_takeUp : MethodName := ⟨"StoryStates$Engine", "takeUp", "(I)Z"⟩
def y_E_goThrough : MethodName := ⟨"StoryStates$Engine", "goThrough", "(I)Z"⟩
def y_E_actWithoutRule : MethodName := ⟨"StoryStates$Engine", "actWithoutRule", "(III)Z"⟩
def y_E_take : MethodName := ⟨"StoryStates$Engine", "take", "(JIII)J"⟩
def y_A_forget : MethodName := ⟨"StoryStates$Atlas", "forget", "()V"⟩
def y_U_fill : MethodName := ⟨"java/util/Arrays", "fill", "([II)V"⟩
def y_D_of : MethodName := ⟨"StoryStates$Code", "of", "(III)I"⟩
def y_A_listCommands : MethodName := ⟨"StoryStates$Atlas", "listCommands", "(LStoryStates$World;)V"⟩
def y_A_slotOf : MethodName := ⟨"StoryStates$Atlas", "slotOf", "(J)I"⟩
def y_A_append : MethodName := ⟨"StoryStates$Atlas", "append", "(JIII)V"⟩
def y_A_opn : MethodName := ⟨"StoryStates$Atlas", "open", "(LStoryStates$World;)V"⟩
def y_A_hasMore : MethodName := ⟨"StoryStates$Atlas", "hasMore", "()Z"⟩
def y_A_isFinished : MethodName := ⟨"StoryStates$Atlas", "isFinished", "()Z"⟩
def y_D_verbOf : MethodName := ⟨"StoryStates$Code", "verbOf", "(I)I"⟩
def y_D_firstOf : MethodName := ⟨"StoryStates$Code", "firstOf", "(I)I"⟩
def y_D_secondOf : MethodName := ⟨"StoryStates$Code", "secondOf", "(I)I"⟩
def y_A_addTo : MethodName := ⟨"StoryStates$Atlas", "addTo", "([JII)V"⟩
def y_A_note : MethodName := ⟨"StoryStates$Atlas", "note", "(JI)V"⟩
def y_U_fillL : MethodName := ⟨"java/util/Arrays", "fill", "([JJ)V"⟩
def y_A_isHopeful : MethodName := ⟨"StoryStates$Atlas", "isHopeful", "(I)Z"⟩
def y_A_isWon : MethodName := ⟨"StoryStates$Atlas", "isWon", "(ILStoryStates$World;)Z"⟩
def y_A_leadsToHope : MethodName := ⟨"StoryStates$Atlas", "leadsToHope", "(I)Z"⟩
def y_A_findHope : MethodName := ⟨"StoryStates$Atlas", "findHope", "(LStoryStates$World;)V"⟩
def y_A_goThroughNext : MethodName := ⟨"StoryStates$Atlas", "goThroughNext", "(LStoryStates$Engine;)V"⟩
def y_A_isHopeless : MethodName := ⟨"StoryStates$Atlas", "isHopeless", "(J)Z"⟩
def y_A_leadsOnlyToItself : MethodName := ⟨"StoryStates$Atlas", "leadsOnlyToItself", "(I)Z"⟩
def y_A_countStuck : MethodName := ⟨"StoryStates$Atlas", "countStuck", "()I"⟩
def y_A_idleRule : MethodName := ⟨"StoryStates$Atlas", "idleRule", "(II)I"⟩
def y_A_firstOverWith : MethodName := ⟨"StoryStates$Atlas", "firstOverWith", "(I)I"⟩
def y_A_depthOf : MethodName := ⟨"StoryStates$Atlas", "depthOf", "(I)I"⟩
def y_A_codeOnWay : MethodName := ⟨"StoryStates$Atlas", "codeOnWay", "(II)I"⟩
def y_S_startPlay : MethodName := ⟨"StoryStates", "startPlay", "()V"⟩
def y_S_startAnew : MethodName := ⟨"StoryStates", "startAnew", "()V"⟩
def y_S_hasAsked : MethodName := ⟨"StoryStates", "hasAsked", "(II)Z"⟩
def y_S_spoilingTurn : MethodName := ⟨"StoryStates", "spoilingTurn", "()I"⟩
def y_S_isThingKind : MethodName := ⟨"StoryStates", "isThingKind", "(I)Z"⟩
def y_S_isConditionLevel : MethodName := ⟨"StoryStates", "isConditionLevel", "(II)Z"⟩
def y_S_isEffectLevel : MethodName := ⟨"StoryStates", "isEffectLevel", "(II)Z"⟩
def y_S_clear : MethodName := ⟨"StoryStates", "clear", "()V"⟩
def y_S_said : MethodName := ⟨"StoryStates", "said", "(I)I"⟩
def y_S_undo : MethodName := ⟨"StoryStates", "undo", "()Z"⟩
def rm_W_becomeEmpty : Room := { frames := 0, cells := 0, slots := 0, locals := 0 }
def rm_S_isFrom : Room := { frames := 0, cells := 0, slots := 0, locals := 0 }
def rm_W_hasRoom : Room := { frames := 1, cells := 0, slots := 0, locals := 22 }
def rm_W_hasThing : Room := { frames := 1, cells := 0, slots := 0, locals := 22 }
def rm_W_hasNumber : Room := { frames := 1, cells := 0, slots := 0, locals := 22 }
def rm_W_hasEnding : Room := { frames := 1, cells := 0, slots := 0, locals := 22 }
def rm_W_hasRule : Room := { frames := 1, cells := 0, slots := 0, locals := 22 }
def rm_W_hasPlace : Room := { frames := 2, cells := 0, slots := 0, locals := 43 }
def rm_W_hasSubject : Room := { frames := 2, cells := 0, slots := 0, locals := 43 }
def rm_W_hasCommand : Room := { frames := 2, cells := 0, slots := 0, locals := 43 }
def rm_W_isWalker : Room := { frames := 0, cells := 0, slots := 0, locals := 0 }
def rm_W_setExit : Room := { frames := 0, cells := 0, slots := 0, locals := 0 }
def rm_W_addRoom : Room := { frames := 1, cells := 0, slots := 0, locals := 24 }
def rm_W_addThing : Room := { frames := 0, cells := 0, slots := 0, locals := 0 }
def rm_W_addNumber : Room := { frames := 0, cells := 0, slots := 0, locals := 0 }
def rm_W_addEnding : Room := { frames := 0, cells := 0, slots := 0, locals := 0 }
def rm_W_addWalker : Room := { frames := 0, cells := 0, slots := 0, locals := 0 }
def rm_W_addTimer : Room := { frames := 0, cells := 0, slots := 0, locals := 0 }
def rm_B_write : Room := { frames := 0, cells := 0, slots := 0, locals := 0 }
def rm_B_withPlace : Room := { frames := 1, cells := 0, slots := 0, locals := 24 }
def rm_B_withOpen : Room := { frames := 1, cells := 0, slots := 0, locals := 24 }
def rm_B_withAmount : Room := { frames := 1, cells := 0, slots := 0, locals := 24 }
def rm_B_withCount : Room := { frames := 1, cells := 0, slots := 0, locals := 24 }
def rm_W_firstState : Room := { frames := 2, cells := 0, slots := 0, locals := 47 }
def rm_R_append : Room := { frames := 0, cells := 0, slots := 0, locals := 0 }
def rm_C_hasSpace : Room := { frames := 0, cells := 0, slots := 0, locals := 0 }
def rm_C_hasSpace_1 : Room := { frames := 0, cells := 0, slots := 0, locals := 0 }
def rm_C_endOf : Room := { frames := 0, cells := 0, slots := 0, locals := 0 }
def rm_C_append : Room := { frames := 1, cells := 0, slots := 0, locals := 21 }
def rm_C_endOf_1 : Room := { frames := 0, cells := 0, slots := 0, locals := 0 }
def rm_C_append_1 : Room := { frames := 1, cells := 0, slots := 0, locals := 21 }
def rm_B_placeOf : Room := { frames := 0, cells := 0, slots := 0, locals := 0 }
def rm_B_isOpen : Room := { frames := 0, cells := 0, slots := 0, locals := 0 }
def rm_B_roomOf : Room := { frames := 0, cells := 0, slots := 0, locals := 0 }
def rm_B_isSeen : Room := { frames := 1, cells := 0, slots := 0, locals := 22 }
def rm_E_isSeenOrNone : Room := { frames := 2, cells := 0, slots := 0, locals := 46 }
def rm_R_answers : Room := { frames := 0, cells := 0, slots := 0, locals := 0 }
def rm_C_startOf : Room := { frames := 0, cells := 0, slots := 0, locals := 0 }
def rm_B_amountOf : Room := { frames := 0, cells := 0, slots := 0, locals := 0 }
def rm_E_holds : Room := { frames := 1, cells := 0, slots := 0, locals := 22 }
def rm_E_conditionsHold : Room := { frames := 2, cells := 0, slots := 0, locals := 45 }
def rm_E_fittingRule : Room := { frames := 3, cells := 0, slots := 0, locals := 69 }
def rm_E_say : Room := { frames := 0, cells := 0, slots := 0, locals := 0 }
def rm_C_startOf_1 : Room := { frames := 0, cells := 0, slots := 0, locals := 0 }
def rm_B_endingOf : Room := { frames := 0, cells := 0, slots := 0, locals := 0 }
def rm_B_isOver : Room := { frames := 1, cells := 0, slots := 0, locals := 21 }
def rm_B_withEnding : Room := { frames := 1, cells := 0, slots := 0, locals := 24 }
def rm_B_isPartOf : Room := { frames := 1, cells := 0, slots := 0, locals := 22 }
def rm_B_withRoom : Room := { frames := 1, cells := 0, slots := 0, locals := 24 }
def rm_E_doEffect : Room := { frames := 2, cells := 0, slots := 0, locals := 47 }
def rm_E_doRule : Room := { frames := 3, cells := 0, slots := 0, locals := 71 }
def rm_B_stepOf : Room := { frames := 0, cells := 0, slots := 0, locals := 0 }
def rm_B_withStep : Room := { frames := 1, cells := 0, slots := 0, locals := 24 }
def rm_E_stepWalkers : Room := { frames := 2, cells := 0, slots := 0, locals := 47 }
def rm_B_countOf : Room := { frames := 0, cells := 0, slots := 0, locals := 0 }
def rm_E_runsOut : Room := { frames := 2, cells := 0, slots := 0, locals := 47 }
def rm_E_putInto : Room := { frames := 2, cells := 0, slots := 0, locals := 47 }
def rm_E_turnLid : Room := { frames := 2, cells := 0, slots := 0, locals := 47 }
def rm_E_putDown : Room := { frames := 2, cells := 0, slots := 0, locals := 47 }
def rm_E_takeUp : Room := { frames := 2, cells := 0, slots := 0, locals := 47 }
def rm_E_goThrough : Room := { frames := 2, cells := 0, slots := 0, locals := 46 }
def rm_E_actWithoutRule : Room := { frames := 3, cells := 0, slots := 0, locals := 69 }
def rm_E_take : Room := { frames := 4, cells := 0, slots := 0, locals := 95 }
def rm_A_forget : Room := { frames := 0, cells := 0, slots := 0, locals := 0 }
def rm_U_fill : Room := { frames := 0, cells := 0, slots := 0, locals := 0 }
def rm_D_of : Room := { frames := 0, cells := 0, slots := 0, locals := 0 }
def rm_A_listCommands : Room := { frames := 3, cells := 0, slots := 0, locals := 66 }
def rm_A_slotOf : Room := { frames := 0, cells := 0, slots := 0, locals := 0 }
def rm_A_append : Room := { frames := 0, cells := 0, slots := 0, locals := 0 }
def rm_A_opn : Room := { frames := 4, cells := 0, slots := 0, locals := 90 }
def rm_A_hasMore : Room := { frames := 0, cells := 0, slots := 0, locals := 0 }
def rm_A_isFinished : Room := { frames := 0, cells := 0, slots := 0, locals := 0 }
def rm_D_verbOf : Room := { frames := 0, cells := 0, slots := 0, locals := 0 }
def rm_D_firstOf : Room := { frames := 0, cells := 0, slots := 0, locals := 0 }
def rm_D_secondOf : Room := { frames := 0, cells := 0, slots := 0, locals := 0 }
def rm_A_addTo : Room := { frames := 0, cells := 0, slots := 0, locals := 0 }
def rm_A_note : Room := { frames := 1, cells := 0, slots := 0, locals := 26 }
def rm_U_fillL : Room := { frames := 0, cells := 0, slots := 0, locals := 0 }
def rm_A_isHopeful : Room := { frames := 0, cells := 0, slots := 0, locals := 0 }
def rm_A_isWon : Room := { frames := 2, cells := 0, slots := 0, locals := 43 }
def rm_A_leadsToHope : Room := { frames := 0, cells := 0, slots := 0, locals := 0 }
def rm_A_addTo_1 : Room := { frames := 0, cells := 0, slots := 0, locals := 0 }
def rm_A_findHope : Room := { frames := 3, cells := 0, slots := 0, locals := 66 }
def rm_A_goThroughNext : Room := { frames := 5, cells := 0, slots := 0, locals := 123 }
def rm_A_isHopeless : Room := { frames := 1, cells := 0, slots := 0, locals := 24 }
def rm_A_leadsOnlyToItself : Room := { frames := 0, cells := 0, slots := 0, locals := 0 }
def rm_A_countStuck : Room := { frames := 2, cells := 0, slots := 0, locals := 42 }
def rm_A_idleRule : Room := { frames := 0, cells := 0, slots := 0, locals := 0 }
def rm_A_firstOverWith : Room := { frames := 1, cells := 0, slots := 0, locals := 21 }
def rm_A_depthOf : Room := { frames := 0, cells := 0, slots := 0, locals := 0 }
def rm_A_codeOnWay : Room := { frames := 1, cells := 0, slots := 0, locals := 23 }
def rm_S_startPlay : Room := { frames := 3, cells := 0, slots := 0, locals := 70 }
def rm_S_startAnew : Room := { frames := 4, cells := 0, slots := 0, locals := 90 }
def rm_S_hasAsked : Room := { frames := 2, cells := 0, slots := 0, locals := 43 }
def rm_S_spoilingTurn : Room := { frames := 2, cells := 0, slots := 0, locals := 47 }
def rm_S_isThingKind : Room := { frames := 1, cells := 0, slots := 0, locals := 22 }
def rm_S_isConditionLevel : Room := { frames := 1, cells := 0, slots := 0, locals := 22 }
def rm_S_isEffectLevel : Room := { frames := 1, cells := 0, slots := 0, locals := 22 }
def rm_S_clear : Room := { frames := 5, cells := 0, slots := 0, locals := 110 }
def rm_S_said : Room := { frames := 1, cells := 0, slots := 0, locals := 22 }
def rm_S_undo : Room := { frames := 0, cells := 0, slots := 0, locals := 0 }
theorem wm_127 : (Jvm.Cond.fieldLink "StoryStates$World" (53 : Nat) "StoryStates$World" "rooms" "I") ∈ sTB := sMem 127 (by decide +kernel) rfl
theorem pf_c_W_53_2 : sPf Zc "StoryStates$World" 53 2 12 none .int := ⟨2, 18, _, "StoryStates$World", T_c2, ty_c2, rfl, rfl, rfl, by decide, Or.inl wm_127, rfl, us_c2, tyok_c2, nm_c2, rfl, by decide +kernel⟩
theorem wm_129 : (Jvm.Cond.fieldLink "StoryStates$World" (57 : Nat) "StoryStates$World" "things" "I") ∈ sTB := sMem 129 (by decide +kernel) rfl
theorem pf_c_W_57_2 : sPf Zc "StoryStates$World" 57 2 13 none .int := ⟨2, 18, _, "StoryStates$World", T_c2, ty_c2, rfl, rfl, rfl, by decide, Or.inl wm_129, rfl, us_c2, tyok_c2, nm_c2, rfl, by decide +kernel⟩
theorem wm_131 : (Jvm.Cond.fieldLink "StoryStates$World" (60 : Nat) "StoryStates$World" "numbers" "I") ∈ sTB := sMem 131 (by decide +kernel) rfl
theorem pf_c_W_60_2 : sPf Zc "StoryStates$World" 60 2 14 none .int := ⟨2, 18, _, "StoryStates$World", T_c2, ty_c2, rfl, rfl, rfl, by decide, Or.inl wm_131, rfl, us_c2, tyok_c2, nm_c2, rfl, by decide +kernel⟩
theorem wm_133 : (Jvm.Cond.fieldLink "StoryStates$World" (63 : Nat) "StoryStates$World" "endings" "I") ∈ sTB := sMem 133 (by decide +kernel) rfl
theorem pf_c_W_63_2 : sPf Zc "StoryStates$World" 63 2 15 none .int := ⟨2, 18, _, "StoryStates$World", T_c2, ty_c2, rfl, rfl, rfl, by decide, Or.inl wm_133, rfl, us_c2, tyok_c2, nm_c2, rfl, by decide +kernel⟩
theorem wm_117 : (Jvm.Cond.fieldLink "StoryStates$World" (37 : Nat) "StoryStates$World" "rules" "LStoryStates$Rules;") ∈ sTB := sMem 117 (by decide +kernel) rfl
theorem gf_c_W_37_2 : sGf Zc "StoryStates$World" 37 2 7 (some (some 3)) := ⟨2, 18, _, "StoryStates$World", T_c2, rfl, rfl, rfl, by decide, Or.inl wm_117, rfl, us_c2⟩
theorem wm_85 : (Jvm.Cond.fieldLink "StoryStates$World" (66 : Nat) "StoryStates$Rules" "size" "I") ∈ sTB := sMem 85 (by decide +kernel) rfl
theorem pf_c_W_66_3 : sPf Zc "StoryStates$World" 66 3 7 none .int := ⟨3, 8, _, "StoryStates$Rules", T_c3, ty_c3, rfl, rfl, rfl, by decide, Or.inl wm_85, rfl, us_c3, tyok_c3, nm_c3, rfl, by decide +kernel⟩
theorem wm_135 : (Jvm.Cond.fieldLink "StoryStates$World" (69 : Nat) "StoryStates$World" "walkers" "I") ∈ sTB := sMem 135 (by decide +kernel) rfl
theorem pf_c_W_69_2 : sPf Zc "StoryStates$World" 69 2 16 none .int := ⟨2, 18, _, "StoryStates$World", T_c2, ty_c2, rfl, rfl, rfl, by decide, Or.inl wm_135, rfl, us_c2, tyok_c2, nm_c2, rfl, by decide +kernel⟩
theorem wm_138 : (Jvm.Cond.fieldLink "StoryStates$World" (72 : Nat) "StoryStates$World" "timers" "I") ∈ sTB := sMem 138 (by decide +kernel) rfl
theorem pf_c_W_72_2 : sPf Zc "StoryStates$World" 72 2 17 none .int := ⟨2, 18, _, "StoryStates$World", T_c2, ty_c2, rfl, rfl, rfl, by decide, Or.inl wm_138, rfl, us_c2, tyok_c2, nm_c2, rfl, by decide +kernel⟩
theorem gf_c_W_53_2 : sGf Zc "StoryStates$World" 53 2 12 none := ⟨2, 18, _, "StoryStates$World", T_c2, rfl, rfl, rfl, by decide, Or.inl wm_127, rfl, us_c2⟩
theorem wm_413 : (Jvm.Cond.methodLinkNest "StoryStates$World" (75 : Nat) ({ cls := "StoryStates", name := "isFrom", desc := "(III)Z" } : Jvm.MethodName) "StoryStates") ∈ sTB := sMem 413 (by decide +kernel) rfl
theorem wm_1 : (Jvm.Cond.initialized "StoryStates") ∈ sTB := sMem 1 (by decide +kernel) rfl
theorem wm_313 : (Jvm.Cond.code ({ cls := "StoryStates", name := "isFrom", desc := "(III)Z" } : Jvm.MethodName) prog_1_method_29_code (3 : Nat) (Option.some Jvm.ClassFile.FieldType.boolean)) ∈ sTB := sMem 313 (by decide +kernel) rfl
theorem cw_W_hasRoom_8 : sCw "StoryStates$World" 75 y_S_isFrom prog_1_method_29_code 3 (some .boolean) rm_S_isFrom rm_W_hasRoom 3 := ⟨Or.inr ⟨_, wm_413⟩, wm_1, wm_313, by decide, by decide +kernel, ⟨rfl, rfl⟩, by decide, by decide⟩
theorem wm_312 : (Jvm.Cond.static ({ cls := "StoryStates", name := "isFrom", desc := "(III)Z" } : Jvm.MethodName)) ∈ sTB := sMem 312 (by decide +kernel) rfl
theorem gf_c_W_57_2 : sGf Zc "StoryStates$World" 57 2 13 none := ⟨2, 18, _, "StoryStates$World", T_c2, rfl, rfl, rfl, by decide, Or.inl wm_129, rfl, us_c2⟩
theorem cw_W_hasThing_8 : sCw "StoryStates$World" 75 y_S_isFrom prog_1_method_29_code 3 (some .boolean) rm_S_isFrom rm_W_hasThing 3 := ⟨Or.inr ⟨_, wm_413⟩, wm_1, wm_313, by decide, by decide +kernel, ⟨rfl, rfl⟩, by decide, by decide⟩
theorem gf_c_W_60_2 : sGf Zc "StoryStates$World" 60 2 14 none := ⟨2, 18, _, "StoryStates$World", T_c2, rfl, rfl, rfl, by decide, Or.inl wm_131, rfl, us_c2⟩
theorem cw_W_hasNumber_8 : sCw "StoryStates$World" 75 y_S_isFrom prog_1_method_29_code 3 (some .boolean) rm_S_isFrom rm_W_hasNumber 3 := ⟨Or.inr ⟨_, wm_413⟩, wm_1, wm_313, by decide, by decide +kernel, ⟨rfl, rfl⟩, by decide, by decide⟩
theorem gf_c_W_63_2 : sGf Zc "StoryStates$World" 63 2 15 none := ⟨2, 18, _, "StoryStates$World", T_c2, rfl, rfl, rfl, by decide, Or.inl wm_133, rfl, us_c2⟩
theorem cw_W_hasEnding_8 : sCw "StoryStates$World" 75 y_S_isFrom prog_1_method_29_code 3 (some .boolean) rm_S_isFrom rm_W_hasEnding 3 := ⟨Or.inr ⟨_, wm_413⟩, wm_1, wm_313, by decide, by decide +kernel, ⟨rfl, rfl⟩, by decide, by decide⟩
theorem gf_c_W_66_3 : sGf Zc "StoryStates$World" 66 3 7 none := ⟨3, 8, _, "StoryStates$Rules", T_c3, rfl, rfl, rfl, by decide, Or.inl wm_85, rfl, us_c3⟩
theorem cw_W_hasRule_11 : sCw "StoryStates$World" 75 y_S_isFrom prog_1_method_29_code 3 (some .boolean) rm_S_isFrom rm_W_hasRule 3 := ⟨Or.inr ⟨_, wm_413⟩, wm_1, wm_313, by decide, by decide +kernel, ⟨rfl, rfl⟩, by decide, by decide⟩
theorem wm_466 : (Jvm.Cond.methodLink "StoryStates$World" (79 : Nat) ({ cls := "StoryStates$World", name := "hasRoom", desc := "(I)Z" } : Jvm.MethodName)) ∈ sTB := sMem 466 (by decide +kernel) rfl
theorem wm_3 : (Jvm.Cond.initialized "StoryStates$World") ∈ sTB := sMem 3 (by decide +kernel) rfl
theorem wm_412 : (Jvm.Cond.code ({ cls := "StoryStates$World", name := "hasRoom", desc := "(I)Z" } : Jvm.MethodName) prog_8_method_3_code (2 : Nat) (Option.some Jvm.ClassFile.FieldType.boolean)) ∈ sTB := sMem 412 (by decide +kernel) rfl
theorem cw_W_hasPlace_2 : sCw "StoryStates$World" 79 y_W_hasRoom prog_8_method_3_code 2 (some .boolean) rm_W_hasRoom rm_W_hasPlace 1 := ⟨Or.inl wm_466, wm_3, wm_412, by decide, by decide +kernel, ⟨rfl, rfl⟩, by decide, by decide⟩
theorem wm_410 : (Jvm.Cond.instanceMethod ({ cls := "StoryStates$World", name := "hasRoom", desc := "(I)Z" } : Jvm.MethodName)) ∈ sTB := sMem 410 (by decide +kernel) rfl
theorem wm_411 : (Jvm.Cond.selects "StoryStates$World" ({ cls := "StoryStates$World", name := "hasRoom", desc := "(I)Z" } : Jvm.MethodName) ({ cls := "StoryStates$World", name := "hasRoom", desc := "(I)Z" } : Jvm.MethodName)) ∈ sTB := sMem 411 (by decide +kernel) rfl
theorem cw_W_hasPlace_20 : sCw "StoryStates$World" 75 y_S_isFrom prog_1_method_29_code 3 (some .boolean) rm_S_isFrom rm_W_hasPlace 3 := ⟨Or.inr ⟨_, wm_413⟩, wm_1, wm_313, by decide, by decide +kernel, ⟨rfl, rfl⟩, by decide, by decide⟩
theorem cw_W_hasSubject_30 : sCw "StoryStates$World" 79 y_W_hasRoom prog_8_method_3_code 2 (some .boolean) rm_W_hasRoom rm_W_hasSubject 1 := ⟨Or.inl wm_466, wm_3, wm_412, by decide, by decide +kernel, ⟨rfl, rfl⟩, by decide, by decide⟩
theorem wm_522 : (Jvm.Cond.methodLink "StoryStates$World" (83 : Nat) ({ cls := "StoryStates$World", name := "hasThing", desc := "(I)Z" } : Jvm.MethodName)) ∈ sTB := sMem 522 (by decide +kernel) rfl
theorem wm_417 : (Jvm.Cond.code ({ cls := "StoryStates$World", name := "hasThing", desc := "(I)Z" } : Jvm.MethodName) prog_8_method_4_code (2 : Nat) (Option.some Jvm.ClassFile.FieldType.boolean)) ∈ sTB := sMem 417 (by decide +kernel) rfl
theorem cw_W_hasSubject_36 : sCw "StoryStates$World" 83 y_W_hasThing prog_8_method_4_code 2 (some .boolean) rm_W_hasThing rm_W_hasSubject 1 := ⟨Or.inl wm_522, wm_3, wm_417, by decide, by decide +kernel, ⟨rfl, rfl⟩, by decide, by decide⟩
theorem wm_415 : (Jvm.Cond.instanceMethod ({ cls := "StoryStates$World", name := "hasThing", desc := "(I)Z" } : Jvm.MethodName)) ∈ sTB := sMem 415 (by decide +kernel) rfl
theorem wm_416 : (Jvm.Cond.selects "StoryStates$World" ({ cls := "StoryStates$World", name := "hasThing", desc := "(I)Z" } : Jvm.MethodName) ({ cls := "StoryStates$World", name := "hasThing", desc := "(I)Z" } : Jvm.MethodName)) ∈ sTB := sMem 416 (by decide +kernel) rfl
theorem wm_523 : (Jvm.Cond.methodLink "StoryStates$World" (86 : Nat) ({ cls := "StoryStates$World", name := "hasNumber", desc := "(I)Z" } : Jvm.MethodName)) ∈ sTB := sMem 523 (by decide +kernel) rfl
theorem wm_526 : (Jvm.Cond.code ({ cls := "StoryStates$World", name := "hasNumber", desc := "(I)Z" } : Jvm.MethodName) prog_8_method_5_code (2 : Nat) (Option.some Jvm.ClassFile.FieldType.boolean)) ∈ sTB := sMem 526 (by decide +kernel) rfl
theorem cw_W_hasSubject_42 : sCw "StoryStates$World" 86 y_W_hasNumber prog_8_method_5_code 2 (some .boolean) rm_W_hasNumber rm_W_hasSubject 1 := ⟨Or.inl wm_523, wm_3, wm_526, by decide, by decide +kernel, ⟨rfl, rfl⟩, by decide, by decide⟩
theorem wm_524 : (Jvm.Cond.instanceMethod ({ cls := "StoryStates$World", name := "hasNumber", desc := "(I)Z" } : Jvm.MethodName)) ∈ sTB := sMem 524 (by decide +kernel) rfl
theorem wm_525 : (Jvm.Cond.selects "StoryStates$World" ({ cls := "StoryStates$World", name := "hasNumber", desc := "(I)Z" } : Jvm.MethodName) ({ cls := "StoryStates$World", name := "hasNumber", desc := "(I)Z" } : Jvm.MethodName)) ∈ sTB := sMem 525 (by decide +kernel) rfl
theorem cw_W_hasCommand_55 : sCw "StoryStates$World" 75 y_S_isFrom prog_1_method_29_code 3 (some .boolean) rm_S_isFrom rm_W_hasCommand 3 := ⟨Or.inr ⟨_, wm_413⟩, wm_1, wm_313, by decide, by decide +kernel, ⟨rfl, rfl⟩, by decide, by decide⟩
theorem cw_W_hasCommand_74 : sCw "StoryStates$World" 83 y_W_hasThing prog_8_method_4_code 2 (some .boolean) rm_W_hasThing rm_W_hasCommand 1 := ⟨Or.inl wm_522, wm_3, wm_417, by decide, by decide +kernel, ⟨rfl, rfl⟩, by decide, by decide⟩
theorem cw_W_hasCommand_93 : sCw "StoryStates$World" 83 y_W_hasThing prog_8_method_4_code 2 (some .boolean) rm_W_hasThing rm_W_hasCommand 1 := ⟨Or.inl wm_522, wm_3, wm_417, by decide, by decide +kernel, ⟨rfl, rfl⟩, by decide, by decide⟩
theorem cw_W_hasCommand_101 : sCw "StoryStates$World" 83 y_W_hasThing prog_8_method_4_code 2 (some .boolean) rm_W_hasThing rm_W_hasCommand 1 := ⟨Or.inl wm_522, wm_3, wm_417, by decide, by decide +kernel, ⟨rfl, rfl⟩, by decide, by decide⟩
theorem cw_W_hasCommand_136 : sCw "StoryStates$World" 83 y_W_hasThing prog_8_method_4_code 2 (some .boolean) rm_W_hasThing rm_W_hasCommand 1 := ⟨Or.inl wm_522, wm_3, wm_417, by decide, by decide +kernel, ⟨rfl, rfl⟩, by decide, by decide⟩
theorem cw_W_hasCommand_149 : sCw "StoryStates$World" 83 y_W_hasThing prog_8_method_4_code 2 (some .boolean) rm_W_hasThing rm_W_hasCommand 1 := ⟨Or.inl wm_522, wm_3, wm_417, by decide, by decide +kernel, ⟨rfl, rfl⟩, by decide, by decide⟩
theorem gf_c_W_69_2 : sGf Zc "StoryStates$World" 69 2 16 none := ⟨2, 18, _, "StoryStates$World", T_c2, rfl, rfl, rfl, by decide, Or.inl wm_135, rfl, us_c2⟩
theorem wm_120 : (Jvm.Cond.fieldLink "StoryStates$World" (41 : Nat) "StoryStates$World" "walkerThings" "[I") ∈ sTB := sMem 120 (by decide +kernel) rfl
theorem gf_c_W_41_2 : sGf Zc "StoryStates$World" 41 2 8 (some (some 17)) := ⟨2, 18, _, "StoryStates$World", T_c2, rfl, rfl, rfl, by decide, Or.inl wm_120, rfl, us_c2⟩
theorem wm_105 : (Jvm.Cond.fieldLink "StoryStates$World" (9 : Nat) "StoryStates$World" "exitRooms" "[I") ∈ sTB := sMem 105 (by decide +kernel) rfl
theorem gf_c_W_9_2 : sGf Zc "StoryStates$World" 9 2 0 (some (some 10)) := ⟨2, 18, _, "StoryStates$World", T_c2, rfl, rfl, rfl, by decide, Or.inl wm_105, rfl, us_c2⟩
theorem wm_107 : (Jvm.Cond.fieldLink "StoryStates$World" (15 : Nat) "StoryStates$World" "exitDoors" "[I") ∈ sTB := sMem 107 (by decide +kernel) rfl
theorem gf_c_W_15_2 : sGf Zc "StoryStates$World" 15 2 1 (some (some 11)) := ⟨2, 18, _, "StoryStates$World", T_c2, rfl, rfl, rfl, by decide, Or.inl wm_107, rfl, us_c2⟩
theorem wm_396 : (Jvm.Cond.methodLink "StoryStates$World" (89 : Nat) ({ cls := "StoryStates$World", name := "setExit", desc := "(IIII)V" } : Jvm.MethodName)) ∈ sTB := sMem 396 (by decide +kernel) rfl
theorem wm_399 : (Jvm.Cond.code ({ cls := "StoryStates$World", name := "setExit", desc := "(IIII)V" } : Jvm.MethodName) prog_8_method_13_code (5 : Nat) (Option.none : Option Jvm.ClassFile.FieldType)) ∈ sTB := sMem 399 (by decide +kernel) rfl
theorem cw_W_addRoom_15 : sCw "StoryStates$World" 89 y_W_setExit prog_8_method_13_code 5 none rm_W_setExit rm_W_addRoom 4 := ⟨Or.inl wm_396, wm_3, wm_399, by decide, by decide +kernel, ⟨rfl, rfl⟩, by decide, by decide⟩
theorem wm_397 : (Jvm.Cond.instanceMethod ({ cls := "StoryStates$World", name := "setExit", desc := "(IIII)V" } : Jvm.MethodName)) ∈ sTB := sMem 397 (by decide +kernel) rfl
theorem wm_398 : (Jvm.Cond.selects "StoryStates$World" ({ cls := "StoryStates$World", name := "setExit", desc := "(IIII)V" } : Jvm.MethodName) ({ cls := "StoryStates$World", name := "setExit", desc := "(IIII)V" } : Jvm.MethodName)) ∈ sTB := sMem 398 (by decide +kernel) rfl
theorem wm_109 : (Jvm.Cond.fieldLink "StoryStates$World" (18 : Nat) "StoryStates$World" "places" "[I") ∈ sTB := sMem 109 (by decide +kernel) rfl
theorem gf_c_W_18_2 : sGf Zc "StoryStates$World" 18 2 2 (some (some 12)) := ⟨2, 18, _, "StoryStates$World", T_c2, rfl, rfl, rfl, by decide, Or.inl wm_109, rfl, us_c2⟩
theorem wm_110 : (Jvm.Cond.fieldLink "StoryStates$World" (21 : Nat) "StoryStates$World" "kinds" "[I") ∈ sTB := sMem 110 (by decide +kernel) rfl
theorem gf_c_W_21_2 : sGf Zc "StoryStates$World" 21 2 3 (some (some 13)) := ⟨2, 18, _, "StoryStates$World", T_c2, rfl, rfl, rfl, by decide, Or.inl wm_110, rfl, us_c2⟩
theorem wm_112 : (Jvm.Cond.fieldLink "StoryStates$World" (24 : Nat) "StoryStates$World" "firstAmounts" "[I") ∈ sTB := sMem 112 (by decide +kernel) rfl
theorem gf_c_W_24_2 : sGf Zc "StoryStates$World" 24 2 4 (some (some 14)) := ⟨2, 18, _, "StoryStates$World", T_c2, rfl, rfl, rfl, by decide, Or.inl wm_112, rfl, us_c2⟩
theorem wm_113 : (Jvm.Cond.fieldLink "StoryStates$World" (27 : Nat) "StoryStates$World" "mostAmounts" "[I") ∈ sTB := sMem 113 (by decide +kernel) rfl
theorem gf_c_W_27_2 : sGf Zc "StoryStates$World" 27 2 5 (some (some 15)) := ⟨2, 18, _, "StoryStates$World", T_c2, rfl, rfl, rfl, by decide, Or.inl wm_113, rfl, us_c2⟩
theorem wm_115 : (Jvm.Cond.fieldLink "StoryStates$World" (30 : Nat) "StoryStates$World" "isGood" "[Z") ∈ sTB := sMem 115 (by decide +kernel) rfl
theorem gf_c_W_30_2 : sGf Zc "StoryStates$World" 30 2 6 (some (some 16)) := ⟨2, 18, _, "StoryStates$World", T_c2, rfl, rfl, rfl, by decide, Or.inl wm_115, rfl, us_c2⟩
theorem wm_122 : (Jvm.Cond.fieldLink "StoryStates$World" (44 : Nat) "StoryStates$World" "walkerRooms" "[I") ∈ sTB := sMem 122 (by decide +kernel) rfl
theorem gf_c_W_44_2 : sGf Zc "StoryStates$World" 44 2 9 (some (some 18)) := ⟨2, 18, _, "StoryStates$World", T_c2, rfl, rfl, rfl, by decide, Or.inl wm_122, rfl, us_c2⟩
theorem wm_124 : (Jvm.Cond.fieldLink "StoryStates$World" (47 : Nat) "StoryStates$World" "timerRules" "[I") ∈ sTB := sMem 124 (by decide +kernel) rfl
theorem gf_c_W_47_2 : sGf Zc "StoryStates$World" 47 2 10 (some (some 19)) := ⟨2, 18, _, "StoryStates$World", T_c2, rfl, rfl, rfl, by decide, Or.inl wm_124, rfl, us_c2⟩
theorem gf_c_W_72_2 : sGf Zc "StoryStates$World" 72 2 17 none := ⟨2, 18, _, "StoryStates$World", T_c2, rfl, rfl, rfl, by decide, Or.inl wm_138, rfl, us_c2⟩
theorem wm_126 : (Jvm.Cond.fieldLink "StoryStates$World" (50 : Nat) "StoryStates$World" "timerCounts" "[I") ∈ sTB := sMem 126 (by decide +kernel) rfl
theorem gf_c_W_50_2 : sGf Zc "StoryStates$World" 50 2 11 (some (some 20)) := ⟨2, 18, _, "StoryStates$World", T_c2, rfl, rfl, rfl, by decide, Or.inl wm_126, rfl, us_c2⟩
theorem wm_77 : (Jvm.Cond.fieldLink "StoryStates$World" (93 : Nat) "StoryStates$Rules" "ofTimer" "[Z") ∈ sTB := sMem 77 (by decide +kernel) rfl
theorem gf_c_W_93_3 : sGf Zc "StoryStates$World" 93 3 4 (some (some 25)) := ⟨3, 8, _, "StoryStates$Rules", T_c3, rfl, rfl, rfl, by decide, Or.inl wm_77, rfl, us_c3⟩
theorem wm_293 : (Jvm.Cond.constantLong "StoryStates$Bits" (30 : Nat) (-1 : Int64)) ∈ sTB := sMem 293 (by decide +kernel) rfl
theorem wm_290 : (Jvm.Cond.methodLink "StoryStates$Bits" (9 : Nat) ({ cls := "StoryStates$Bits", name := "write", desc := "(JIII)J" } : Jvm.MethodName)) ∈ sTB := sMem 290 (by decide +kernel) rfl
theorem wm_8 : (Jvm.Cond.initialized "StoryStates$Bits") ∈ sTB := sMem 8 (by decide +kernel) rfl
theorem wm_292 : (Jvm.Cond.code ({ cls := "StoryStates$Bits", name := "write", desc := "(JIII)J" } : Jvm.MethodName) prog_3_method_19_code (5 : Nat) (Option.some Jvm.ClassFile.FieldType.long)) ∈ sTB := sMem 292 (by decide +kernel) rfl
theorem cw_B_withPlace_9 : sCw "StoryStates$Bits" 9 y_B_write prog_3_method_19_code 5 (some .long) rm_B_write rm_B_withPlace 4 := ⟨Or.inl wm_290, wm_8, wm_292, by decide, by decide +kernel, ⟨rfl, rfl⟩, by decide, by decide⟩
theorem wm_291 : (Jvm.Cond.static ({ cls := "StoryStates$Bits", name := "write", desc := "(JIII)J" } : Jvm.MethodName)) ∈ sTB := sMem 291 (by decide +kernel) rfl
theorem cw_B_withOpen_7 : sCw "StoryStates$Bits" 9 y_B_write prog_3_method_19_code 5 (some .long) rm_B_write rm_B_withOpen 4 := ⟨Or.inl wm_290, wm_8, wm_292, by decide, by decide +kernel, ⟨rfl, rfl⟩, by decide, by decide⟩
theorem cw_B_withAmount_10 : sCw "StoryStates$Bits" 9 y_B_write prog_3_method_19_code 5 (some .long) rm_B_write rm_B_withAmount 4 := ⟨Or.inl wm_290, wm_8, wm_292, by decide, by decide +kernel, ⟨rfl, rfl⟩, by decide, by decide⟩
theorem cw_B_withCount_10 : sCw "StoryStates$Bits" 9 y_B_write prog_3_method_19_code 5 (some .long) rm_B_write rm_B_withCount 4 := ⟨Or.inl wm_290, wm_8, wm_292, by decide, by decide +kernel, ⟨rfl, rfl⟩, by decide, by decide⟩
theorem wm_287 : (Jvm.Cond.methodLink "StoryStates$World" (96 : Nat) ({ cls := "StoryStates$Bits", name := "withPlace", desc := "(JII)J" } : Jvm.MethodName)) ∈ sTB := sMem 287 (by decide +kernel) rfl
theorem wm_289 : (Jvm.Cond.code ({ cls := "StoryStates$Bits", name := "withPlace", desc := "(JII)J" } : Jvm.MethodName) prog_3_method_5_code (4 : Nat) (Option.some Jvm.ClassFile.FieldType.long)) ∈ sTB := sMem 289 (by decide +kernel) rfl
theorem cw_W_firstState_20 : sCw "StoryStates$World" 96 y_B_withPlace prog_3_method_5_code 4 (some .long) rm_B_withPlace rm_W_firstState 3 := ⟨Or.inl wm_287, wm_8, wm_289, by decide, by decide +kernel, ⟨rfl, rfl⟩, by decide, by decide⟩
theorem wm_288 : (Jvm.Cond.static ({ cls := "StoryStates$Bits", name := "withPlace", desc := "(JII)J" } : Jvm.MethodName)) ∈ sTB := sMem 288 (by decide +kernel) rfl
theorem wm_294 : (Jvm.Cond.methodLink "StoryStates$World" (102 : Nat) ({ cls := "StoryStates$Bits", name := "withOpen", desc := "(JII)J" } : Jvm.MethodName)) ∈ sTB := sMem 294 (by decide +kernel) rfl
theorem wm_296 : (Jvm.Cond.code ({ cls := "StoryStates$Bits", name := "withOpen", desc := "(JII)J" } : Jvm.MethodName) prog_3_method_7_code (4 : Nat) (Option.some Jvm.ClassFile.FieldType.long)) ∈ sTB := sMem 296 (by decide +kernel) rfl
theorem cw_W_firstState_42 : sCw "StoryStates$World" 102 y_B_withOpen prog_3_method_7_code 4 (some .long) rm_B_withOpen rm_W_firstState 3 := ⟨Or.inl wm_294, wm_8, wm_296, by decide, by decide +kernel, ⟨rfl, rfl⟩, by decide, by decide⟩
theorem wm_295 : (Jvm.Cond.static ({ cls := "StoryStates$Bits", name := "withOpen", desc := "(JII)J" } : Jvm.MethodName)) ∈ sTB := sMem 295 (by decide +kernel) rfl
theorem wm_297 : (Jvm.Cond.methodLink "StoryStates$World" (105 : Nat) ({ cls := "StoryStates$Bits", name := "withAmount", desc := "(JII)J" } : Jvm.MethodName)) ∈ sTB := sMem 297 (by decide +kernel) rfl
theorem wm_299 : (Jvm.Cond.code ({ cls := "StoryStates$Bits", name := "withAmount", desc := "(JII)J" } : Jvm.MethodName) prog_3_method_9_code (4 : Nat) (Option.some Jvm.ClassFile.FieldType.long)) ∈ sTB := sMem 299 (by decide +kernel) rfl
theorem cw_W_firstState_70 : sCw "StoryStates$World" 105 y_B_withAmount prog_3_method_9_code 4 (some .long) rm_B_withAmount rm_W_firstState 3 := ⟨Or.inl wm_297, wm_8, wm_299, by decide, by decide +kernel, ⟨rfl, rfl⟩, by decide, by decide⟩
theorem wm_298 : (Jvm.Cond.static ({ cls := "StoryStates$Bits", name := "withAmount", desc := "(JII)J" } : Jvm.MethodName)) ∈ sTB := sMem 298 (by decide +kernel) rfl
theorem wm_300 : (Jvm.Cond.methodLink "StoryStates$World" (108 : Nat) ({ cls := "StoryStates$Bits", name := "withCount", desc := "(JII)J" } : Jvm.MethodName)) ∈ sTB := sMem 300 (by decide +kernel) rfl
theorem wm_302 : (Jvm.Cond.code ({ cls := "StoryStates$Bits", name := "withCount", desc := "(JII)J" } : Jvm.MethodName) prog_3_method_13_code (4 : Nat) (Option.some Jvm.ClassFile.FieldType.long)) ∈ sTB := sMem 302 (by decide +kernel) rfl
theorem cw_W_firstState_98 : sCw "StoryStates$World" 108 y_B_withCount prog_3_method_13_code 4 (some .long) rm_B_withCount rm_W_firstState 3 := ⟨Or.inl wm_300, wm_8, wm_302, by decide, by decide +kernel, ⟨rfl, rfl⟩, by decide, by decide⟩
theorem wm_301 : (Jvm.Cond.static ({ cls := "StoryStates$Bits", name := "withCount", desc := "(JII)J" } : Jvm.MethodName)) ∈ sTB := sMem 301 (by decide +kernel) rfl
theorem wm_70 : (Jvm.Cond.fieldLink "StoryStates$Rules" (9 : Nat) "StoryStates$Rules" "verbs" "[I") ∈ sTB := sMem 70 (by decide +kernel) rfl
theorem gf_c_R_9_3 : sGf Zc "StoryStates$Rules" 9 3 0 (some (some 21)) := ⟨3, 8, _, "StoryStates$Rules", T_c3, rfl, rfl, rfl, by decide, Or.inl wm_70, rfl, us_c3⟩
theorem wm_84 : (Jvm.Cond.fieldLink "StoryStates$Rules" (38 : Nat) "StoryStates$Rules" "size" "I") ∈ sTB := sMem 84 (by decide +kernel) rfl
theorem gf_c_R_38_3 : sGf Zc "StoryStates$Rules" 38 3 7 none := ⟨3, 8, _, "StoryStates$Rules", T_c3, rfl, rfl, rfl, by decide, Or.inl wm_84, rfl, us_c3⟩
theorem wm_71 : (Jvm.Cond.fieldLink "StoryStates$Rules" (15 : Nat) "StoryStates$Rules" "firsts" "[I") ∈ sTB := sMem 71 (by decide +kernel) rfl
theorem gf_c_R_15_3 : sGf Zc "StoryStates$Rules" 15 3 1 (some (some 22)) := ⟨3, 8, _, "StoryStates$Rules", T_c3, rfl, rfl, rfl, by decide, Or.inl wm_71, rfl, us_c3⟩
theorem wm_72 : (Jvm.Cond.fieldLink "StoryStates$Rules" (18 : Nat) "StoryStates$Rules" "seconds" "[I") ∈ sTB := sMem 72 (by decide +kernel) rfl
theorem gf_c_R_18_3 : sGf Zc "StoryStates$Rules" 18 3 2 (some (some 23)) := ⟨3, 8, _, "StoryStates$Rules", T_c3, rfl, rfl, rfl, by decide, Or.inl wm_72, rfl, us_c3⟩
theorem wm_73 : (Jvm.Cond.fieldLink "StoryStates$Rules" (21 : Nat) "StoryStates$Rules" "texts" "[I") ∈ sTB := sMem 73 (by decide +kernel) rfl
theorem gf_c_R_21_3 : sGf Zc "StoryStates$Rules" 21 3 3 (some (some 24)) := ⟨3, 8, _, "StoryStates$Rules", T_c3, rfl, rfl, rfl, by decide, Or.inl wm_73, rfl, us_c3⟩
theorem wm_75 : (Jvm.Cond.fieldLink "StoryStates$Rules" (24 : Nat) "StoryStates$Rules" "ofTimer" "[Z") ∈ sTB := sMem 75 (by decide +kernel) rfl
theorem gf_c_R_24_3 : sGf Zc "StoryStates$Rules" 24 3 4 (some (some 25)) := ⟨3, 8, _, "StoryStates$Rules", T_c3, rfl, rfl, rfl, by decide, Or.inl wm_75, rfl, us_c3⟩
theorem wm_78 : (Jvm.Cond.fieldLink "StoryStates$Rules" (31 : Nat) "StoryStates$Rules" "conditions" "LStoryStates$Clauses;") ∈ sTB := sMem 78 (by decide +kernel) rfl
theorem gf_c_R_31_3 : sGf Zc "StoryStates$Rules" 31 3 5 (some (some 4)) := ⟨3, 8, _, "StoryStates$Rules", T_c3, rfl, rfl, rfl, by decide, Or.inl wm_78, rfl, us_c3⟩
theorem wm_52 : (Jvm.Cond.fieldLink "StoryStates$Rules" (42 : Nat) "StoryStates$Clauses" "sizes" "[I") ∈ sTB := sMem 52 (by decide +kernel) rfl
theorem gf_c_R_42_4 : sGf Zc "StoryStates$Rules" 42 4 0 (some (some 26)) := ⟨4, 4, _, "StoryStates$Clauses", T_c4, rfl, rfl, rfl, by decide, Or.inl wm_52, rfl, us_c4⟩
theorem wm_81 : (Jvm.Cond.fieldLink "StoryStates$Rules" (35 : Nat) "StoryStates$Rules" "effects" "LStoryStates$Clauses;") ∈ sTB := sMem 81 (by decide +kernel) rfl
theorem gf_c_R_35_3 : sGf Zc "StoryStates$Rules" 35 3 6 (some (some 5)) := ⟨3, 8, _, "StoryStates$Rules", T_c3, rfl, rfl, rfl, by decide, Or.inl wm_81, rfl, us_c3⟩
theorem gf_c_R_42_5 : sGf Zc "StoryStates$Rules" 42 5 0 (some (some 30)) := ⟨4, 4, _, "StoryStates$Clauses", T_c4, rfl, rfl, rfl, by decide, Or.inl wm_52, rfl, us_c4⟩
theorem pf_c_R_38_3 : sPf Zc "StoryStates$Rules" 38 3 7 none .int := ⟨3, 8, _, "StoryStates$Rules", T_c3, ty_c3, rfl, rfl, rfl, by decide, Or.inl wm_84, rfl, us_c3, tyok_c3, nm_c3, rfl, by decide +kernel⟩
theorem wm_51 : (Jvm.Cond.fieldLink "StoryStates$Clauses" (9 : Nat) "StoryStates$Clauses" "sizes" "[I") ∈ sTB := sMem 51 (by decide +kernel) rfl
theorem gf_c_C_9_4 : sGf Zc "StoryStates$Clauses" 9 4 0 (some (some 26)) := ⟨4, 4, _, "StoryStates$Clauses", T_c4, rfl, rfl, rfl, by decide, Or.inl wm_51, rfl, us_c4⟩
theorem gf_c_C_9_5 : sGf Zc "StoryStates$Clauses" 9 5 0 (some (some 30)) := ⟨4, 4, _, "StoryStates$Clauses", T_c4, rfl, rfl, rfl, by decide, Or.inl wm_51, rfl, us_c4⟩
theorem wm_538 : (Jvm.Cond.methodLink "StoryStates$Clauses" (24 : Nat) ({ cls := "StoryStates$Clauses", name := "endOf", desc := "(I)I" } : Jvm.MethodName)) ∈ sTB := sMem 538 (by decide +kernel) rfl
theorem wm_5 : (Jvm.Cond.initialized "StoryStates$Clauses") ∈ sTB := sMem 5 (by decide +kernel) rfl
theorem wm_541 : (Jvm.Cond.code ({ cls := "StoryStates$Clauses", name := "endOf", desc := "(I)I" } : Jvm.MethodName) prog_4_method_4_code (2 : Nat) (Option.some Jvm.ClassFile.FieldType.int)) ∈ sTB := sMem 541 (by decide +kernel) rfl
theorem cw_C_append_2 : sCw "StoryStates$Clauses" 24 y_C_endOf prog_4_method_4_code 2 (some .int) rm_C_endOf rm_C_append 1 := ⟨Or.inl wm_538, wm_5, wm_541, by decide, by decide +kernel, ⟨rfl, rfl⟩, by decide, by decide⟩
theorem wm_539 : (Jvm.Cond.instanceMethod ({ cls := "StoryStates$Clauses", name := "endOf", desc := "(I)I" } : Jvm.MethodName)) ∈ sTB := sMem 539 (by decide +kernel) rfl
theorem wm_540 : (Jvm.Cond.selects "StoryStates$Clauses" ({ cls := "StoryStates$Clauses", name := "endOf", desc := "(I)I" } : Jvm.MethodName) ({ cls := "StoryStates$Clauses", name := "endOf", desc := "(I)I" } : Jvm.MethodName)) ∈ sTB := sMem 540 (by decide +kernel) rfl
theorem wm_53 : (Jvm.Cond.fieldLink "StoryStates$Clauses" (15 : Nat) "StoryStates$Clauses" "kinds" "[I") ∈ sTB := sMem 53 (by decide +kernel) rfl
theorem gf_c_C_15_4 : sGf Zc "StoryStates$Clauses" 15 4 1 (some (some 27)) := ⟨4, 4, _, "StoryStates$Clauses", T_c4, rfl, rfl, rfl, by decide, Or.inl wm_53, rfl, us_c4⟩
theorem wm_55 : (Jvm.Cond.fieldLink "StoryStates$Clauses" (18 : Nat) "StoryStates$Clauses" "xs" "[I") ∈ sTB := sMem 55 (by decide +kernel) rfl
theorem gf_c_C_18_4 : sGf Zc "StoryStates$Clauses" 18 4 2 (some (some 28)) := ⟨4, 4, _, "StoryStates$Clauses", T_c4, rfl, rfl, rfl, by decide, Or.inl wm_55, rfl, us_c4⟩
theorem wm_57 : (Jvm.Cond.fieldLink "StoryStates$Clauses" (21 : Nat) "StoryStates$Clauses" "ys" "[I") ∈ sTB := sMem 57 (by decide +kernel) rfl
theorem gf_c_C_21_4 : sGf Zc "StoryStates$Clauses" 21 4 3 (some (some 29)) := ⟨4, 4, _, "StoryStates$Clauses", T_c4, rfl, rfl, rfl, by decide, Or.inl wm_57, rfl, us_c4⟩
theorem cw_C_append_1_2 : sCw "StoryStates$Clauses" 24 y_C_endOf prog_4_method_4_code 2 (some .int) rm_C_endOf_1 rm_C_append_1 1 := ⟨Or.inl wm_538, wm_5, wm_541, by decide, by decide +kernel, ⟨rfl, rfl⟩, by decide, by decide⟩
theorem gf_c_C_15_5 : sGf Zc "StoryStates$Clauses" 15 5 1 (some (some 31)) := ⟨4, 4, _, "StoryStates$Clauses", T_c4, rfl, rfl, rfl, by decide, Or.inl wm_53, rfl, us_c4⟩
theorem gf_c_C_18_5 : sGf Zc "StoryStates$Clauses" 18 5 2 (some (some 32)) := ⟨4, 4, _, "StoryStates$Clauses", T_c4, rfl, rfl, rfl, by decide, Or.inl wm_55, rfl, us_c4⟩
theorem gf_c_C_21_5 : sGf Zc "StoryStates$Clauses" 21 5 3 (some (some 33)) := ⟨4, 4, _, "StoryStates$Clauses", T_c4, rfl, rfl, rfl, by decide, Or.inl wm_57, rfl, us_c4⟩
theorem wm_621 : (Jvm.Cond.methodLink "StoryStates$Bits" (19 : Nat) ({ cls := "StoryStates$Bits", name := "placeOf", desc := "(JI)I" } : Jvm.MethodName)) ∈ sTB := sMem 621 (by decide +kernel) rfl
theorem wm_623 : (Jvm.Cond.code ({ cls := "StoryStates$Bits", name := "placeOf", desc := "(JI)I" } : Jvm.MethodName) prog_3_method_4_code (3 : Nat) (Option.some Jvm.ClassFile.FieldType.int)) ∈ sTB := sMem 623 (by decide +kernel) rfl
theorem cw_B_isSeen_2 : sCw "StoryStates$Bits" 19 y_B_placeOf prog_3_method_4_code 3 (some .int) rm_B_placeOf rm_B_isSeen 2 := ⟨Or.inl wm_621, wm_8, wm_623, by decide, by decide +kernel, ⟨rfl, rfl⟩, by decide, by decide⟩
theorem wm_622 : (Jvm.Cond.static ({ cls := "StoryStates$Bits", name := "placeOf", desc := "(JI)I" } : Jvm.MethodName)) ∈ sTB := sMem 622 (by decide +kernel) rfl
theorem wm_624 : (Jvm.Cond.methodLink "StoryStates$Bits" (23 : Nat) ({ cls := "StoryStates$Bits", name := "isOpen", desc := "(JI)Z" } : Jvm.MethodName)) ∈ sTB := sMem 624 (by decide +kernel) rfl
theorem wm_626 : (Jvm.Cond.code ({ cls := "StoryStates$Bits", name := "isOpen", desc := "(JI)Z" } : Jvm.MethodName) prog_3_method_6_code (3 : Nat) (Option.some Jvm.ClassFile.FieldType.boolean)) ∈ sTB := sMem 626 (by decide +kernel) rfl
theorem cw_B_isSeen_27 : sCw "StoryStates$Bits" 23 y_B_isOpen prog_3_method_6_code 3 (some .boolean) rm_B_isOpen rm_B_isSeen 2 := ⟨Or.inl wm_624, wm_8, wm_626, by decide, by decide +kernel, ⟨rfl, rfl⟩, by decide, by decide⟩
theorem wm_625 : (Jvm.Cond.static ({ cls := "StoryStates$Bits", name := "isOpen", desc := "(JI)Z" } : Jvm.MethodName)) ∈ sTB := sMem 625 (by decide +kernel) rfl
theorem cw_B_isSeen_40 : sCw "StoryStates$Bits" 19 y_B_placeOf prog_3_method_4_code 3 (some .int) rm_B_placeOf rm_B_isSeen 2 := ⟨Or.inl wm_621, wm_8, wm_623, by decide, by decide +kernel, ⟨rfl, rfl⟩, by decide, by decide⟩
theorem wm_627 : (Jvm.Cond.methodLink "StoryStates$Bits" (27 : Nat) ({ cls := "StoryStates$Bits", name := "roomOf", desc := "(J)I" } : Jvm.MethodName)) ∈ sTB := sMem 627 (by decide +kernel) rfl
theorem wm_629 : (Jvm.Cond.code ({ cls := "StoryStates$Bits", name := "roomOf", desc := "(J)I" } : Jvm.MethodName) prog_3_method_2_code (2 : Nat) (Option.some Jvm.ClassFile.FieldType.int)) ∈ sTB := sMem 629 (by decide +kernel) rfl
theorem cw_B_isSeen_58 : sCw "StoryStates$Bits" 27 y_B_roomOf prog_3_method_2_code 2 (some .int) rm_B_roomOf rm_B_isSeen 1 := ⟨Or.inl wm_627, wm_8, wm_629, by decide, by decide +kernel, ⟨rfl, rfl⟩, by decide, by decide⟩
theorem wm_628 : (Jvm.Cond.static ({ cls := "StoryStates$Bits", name := "roomOf", desc := "(J)I" } : Jvm.MethodName)) ∈ sTB := sMem 628 (by decide +kernel) rfl
theorem wm_187 : (Jvm.Cond.fieldLink "StoryStates$Engine" (22 : Nat) "StoryStates$Engine" "now" "J") ∈ sTB := sMem 187 (by decide +kernel) rfl
theorem gf_c_E_22_1 : sGf Zc "StoryStates$Engine" 22 1 4 (some none) := ⟨1, 5, _, "StoryStates$Engine", T_c1, rfl, rfl, rfl, by decide, Or.inl wm_187, rfl, us_c1⟩
theorem wm_618 : (Jvm.Cond.methodLink "StoryStates$Engine" (86 : Nat) ({ cls := "StoryStates$Bits", name := "isSeen", desc := "(JI)Z" } : Jvm.MethodName)) ∈ sTB := sMem 618 (by decide +kernel) rfl
theorem wm_620 : (Jvm.Cond.code ({ cls := "StoryStates$Bits", name := "isSeen", desc := "(JI)Z" } : Jvm.MethodName) prog_3_method_17_code (5 : Nat) (Option.some Jvm.ClassFile.FieldType.boolean)) ∈ sTB := sMem 620 (by decide +kernel) rfl
theorem cw_E_isSeenOrNone_10 : sCw "StoryStates$Engine" 86 y_B_isSeen prog_3_method_17_code 5 (some .boolean) rm_B_isSeen rm_E_isSeenOrNone 2 := ⟨Or.inl wm_618, wm_8, wm_620, by decide, by decide +kernel, ⟨rfl, rfl⟩, by decide, by decide⟩
theorem wm_619 : (Jvm.Cond.static ({ cls := "StoryStates$Bits", name := "isSeen", desc := "(JI)Z" } : Jvm.MethodName)) ∈ sTB := sMem 619 (by decide +kernel) rfl
theorem wm_647 : (Jvm.Cond.methodLink "StoryStates$Engine" (115 : Nat) ({ cls := "StoryStates$Bits", name := "roomOf", desc := "(J)I" } : Jvm.MethodName)) ∈ sTB := sMem 647 (by decide +kernel) rfl
theorem cw_E_holds_36 : sCw "StoryStates$Engine" 115 y_B_roomOf prog_3_method_2_code 2 (some .int) rm_B_roomOf rm_E_holds 1 := ⟨Or.inl wm_647, wm_8, wm_629, by decide, by decide +kernel, ⟨rfl, rfl⟩, by decide, by decide⟩
theorem wm_648 : (Jvm.Cond.methodLink "StoryStates$Engine" (119 : Nat) ({ cls := "StoryStates$Bits", name := "placeOf", desc := "(JI)I" } : Jvm.MethodName)) ∈ sTB := sMem 648 (by decide +kernel) rfl
theorem cw_E_holds_54 : sCw "StoryStates$Engine" 119 y_B_placeOf prog_3_method_4_code 3 (some .int) rm_B_placeOf rm_E_holds 2 := ⟨Or.inl wm_648, wm_8, wm_623, by decide, by decide +kernel, ⟨rfl, rfl⟩, by decide, by decide⟩
theorem wm_649 : (Jvm.Cond.methodLink "StoryStates$Engine" (123 : Nat) ({ cls := "StoryStates$Bits", name := "isOpen", desc := "(JI)Z" } : Jvm.MethodName)) ∈ sTB := sMem 649 (by decide +kernel) rfl
theorem cw_E_holds_72 : sCw "StoryStates$Engine" 123 y_B_isOpen prog_3_method_6_code 3 (some .boolean) rm_B_isOpen rm_E_holds 2 := ⟨Or.inl wm_649, wm_8, wm_626, by decide, by decide +kernel, ⟨rfl, rfl⟩, by decide, by decide⟩
theorem wm_650 : (Jvm.Cond.methodLink "StoryStates$Engine" (126 : Nat) ({ cls := "StoryStates$Bits", name := "amountOf", desc := "(JI)I" } : Jvm.MethodName)) ∈ sTB := sMem 650 (by decide +kernel) rfl
theorem wm_652 : (Jvm.Cond.code ({ cls := "StoryStates$Bits", name := "amountOf", desc := "(JI)I" } : Jvm.MethodName) prog_3_method_8_code (3 : Nat) (Option.some Jvm.ClassFile.FieldType.int)) ∈ sTB := sMem 652 (by decide +kernel) rfl
theorem cw_E_holds_99 : sCw "StoryStates$Engine" 126 y_B_amountOf prog_3_method_8_code 3 (some .int) rm_B_amountOf rm_E_holds 2 := ⟨Or.inl wm_650, wm_8, wm_652, by decide, by decide +kernel, ⟨rfl, rfl⟩, by decide, by decide⟩
theorem wm_651 : (Jvm.Cond.static ({ cls := "StoryStates$Bits", name := "amountOf", desc := "(JI)I" } : Jvm.MethodName)) ∈ sTB := sMem 651 (by decide +kernel) rfl
theorem cw_E_holds_117 : sCw "StoryStates$Engine" 126 y_B_amountOf prog_3_method_8_code 3 (some .int) rm_B_amountOf rm_E_holds 2 := ⟨Or.inl wm_650, wm_8, wm_652, by decide, by decide +kernel, ⟨rfl, rfl⟩, by decide, by decide⟩
theorem wm_178 : (Jvm.Cond.fieldLink "StoryStates$Engine" (12 : Nat) "StoryStates$Engine" "world" "LStoryStates$World;") ∈ sTB := sMem 178 (by decide +kernel) rfl
theorem gf_c_E_12_1 : sGf Zc "StoryStates$Engine" 12 1 0 (some (some 2)) := ⟨1, 5, _, "StoryStates$Engine", T_c1, rfl, rfl, rfl, by decide, Or.inl wm_178, rfl, us_c1⟩
theorem wm_118 : (Jvm.Cond.fieldLink "StoryStates$Engine" (73 : Nat) "StoryStates$World" "rules" "LStoryStates$Rules;") ∈ sTB := sMem 118 (by decide +kernel) rfl
theorem gf_c_E_73_2 : sGf Zc "StoryStates$Engine" 73 2 7 (some (some 3)) := ⟨2, 18, _, "StoryStates$World", T_c2, rfl, rfl, rfl, by decide, Or.inl wm_118, rfl, us_c2⟩
theorem wm_79 : (Jvm.Cond.fieldLink "StoryStates$Engine" (90 : Nat) "StoryStates$Rules" "conditions" "LStoryStates$Clauses;") ∈ sTB := sMem 79 (by decide +kernel) rfl
theorem gf_c_E_90_3 : sGf Zc "StoryStates$Engine" 90 3 5 (some (some 4)) := ⟨3, 8, _, "StoryStates$Rules", T_c3, rfl, rfl, rfl, by decide, Or.inl wm_79, rfl, us_c3⟩
theorem wm_638 : (Jvm.Cond.methodLink "StoryStates$Engine" (94 : Nat) ({ cls := "StoryStates$Clauses", name := "endOf", desc := "(I)I" } : Jvm.MethodName)) ∈ sTB := sMem 638 (by decide +kernel) rfl
theorem cw_E_conditionsHold_13 : sCw "StoryStates$Engine" 94 y_C_endOf prog_4_method_4_code 2 (some .int) rm_C_endOf rm_E_conditionsHold 1 := ⟨Or.inl wm_638, wm_5, wm_541, by decide, by decide +kernel, ⟨rfl, rfl⟩, by decide, by decide⟩
theorem wm_639 : (Jvm.Cond.methodLink "StoryStates$Engine" (100 : Nat) ({ cls := "StoryStates$Clauses", name := "startOf", desc := "(I)I" } : Jvm.MethodName)) ∈ sTB := sMem 639 (by decide +kernel) rfl
theorem wm_642 : (Jvm.Cond.code ({ cls := "StoryStates$Clauses", name := "startOf", desc := "(I)I" } : Jvm.MethodName) prog_4_method_3_code (2 : Nat) (Option.some Jvm.ClassFile.FieldType.int)) ∈ sTB := sMem 642 (by decide +kernel) rfl
theorem cw_E_conditionsHold_19 : sCw "StoryStates$Engine" 100 y_C_startOf prog_4_method_3_code 2 (some .int) rm_C_startOf rm_E_conditionsHold 1 := ⟨Or.inl wm_639, wm_5, wm_642, by decide, by decide +kernel, ⟨rfl, rfl⟩, by decide, by decide⟩
theorem wm_640 : (Jvm.Cond.instanceMethod ({ cls := "StoryStates$Clauses", name := "startOf", desc := "(I)I" } : Jvm.MethodName)) ∈ sTB := sMem 640 (by decide +kernel) rfl
theorem wm_641 : (Jvm.Cond.selects "StoryStates$Clauses" ({ cls := "StoryStates$Clauses", name := "startOf", desc := "(I)I" } : Jvm.MethodName) ({ cls := "StoryStates$Clauses", name := "startOf", desc := "(I)I" } : Jvm.MethodName)) ∈ sTB := sMem 641 (by decide +kernel) rfl
theorem wm_54 : (Jvm.Cond.fieldLink "StoryStates$Engine" (103 : Nat) "StoryStates$Clauses" "kinds" "[I") ∈ sTB := sMem 54 (by decide +kernel) rfl
theorem gf_c_E_103_4 : sGf Zc "StoryStates$Engine" 103 4 1 (some (some 27)) := ⟨4, 4, _, "StoryStates$Clauses", T_c4, rfl, rfl, rfl, by decide, Or.inl wm_54, rfl, us_c4⟩
theorem wm_56 : (Jvm.Cond.fieldLink "StoryStates$Engine" (106 : Nat) "StoryStates$Clauses" "xs" "[I") ∈ sTB := sMem 56 (by decide +kernel) rfl
theorem gf_c_E_106_4 : sGf Zc "StoryStates$Engine" 106 4 2 (some (some 28)) := ⟨4, 4, _, "StoryStates$Clauses", T_c4, rfl, rfl, rfl, by decide, Or.inl wm_56, rfl, us_c4⟩
theorem wm_58 : (Jvm.Cond.fieldLink "StoryStates$Engine" (109 : Nat) "StoryStates$Clauses" "ys" "[I") ∈ sTB := sMem 58 (by decide +kernel) rfl
theorem gf_c_E_109_4 : sGf Zc "StoryStates$Engine" 109 4 3 (some (some 29)) := ⟨4, 4, _, "StoryStates$Clauses", T_c4, rfl, rfl, rfl, by decide, Or.inl wm_58, rfl, us_c4⟩
theorem wm_643 : (Jvm.Cond.methodLink "StoryStates$Engine" (112 : Nat) ({ cls := "StoryStates$Engine", name := "holds", desc := "(III)Z" } : Jvm.MethodName)) ∈ sTB := sMem 643 (by decide +kernel) rfl
theorem wm_2 : (Jvm.Cond.initialized "StoryStates$Engine") ∈ sTB := sMem 2 (by decide +kernel) rfl
theorem wm_646 : (Jvm.Cond.code ({ cls := "StoryStates$Engine", name := "holds", desc := "(III)Z" } : Jvm.MethodName) prog_6_method_6_code (4 : Nat) (Option.some Jvm.ClassFile.FieldType.boolean)) ∈ sTB := sMem 646 (by decide +kernel) rfl
theorem cw_E_conditionsHold_52 : sCw "StoryStates$Engine" 112 y_E_holds prog_6_method_6_code 4 (some .boolean) rm_E_holds rm_E_conditionsHold 3 := ⟨Or.inl wm_643, wm_2, wm_646, by decide, by decide +kernel, ⟨rfl, rfl⟩, by decide, by decide⟩
theorem wm_645 : (Jvm.Cond.instanceMethod ({ cls := "StoryStates$Engine", name := "holds", desc := "(III)Z" } : Jvm.MethodName)) ∈ sTB := sMem 645 (by decide +kernel) rfl
theorem ws_E_holds : Jvm.Cond.selects "StoryStates$Engine" ({ cls := "StoryStates$Engine", name := "holds", desc := "(III)Z" } : Jvm.MethodName) ({ cls := "StoryStates$Engine", name := "holds", desc := "(III)Z" } : Jvm.MethodName) ∈ sTB := sSel 5 ({ cls := "StoryStates$Engine", name := "holds", desc := "(III)Z" } : Jvm.MethodName) (by decide +kernel) rfl
theorem wm_614 : (Jvm.Cond.methodLink "StoryStates$Engine" (70 : Nat) ({ cls := "StoryStates$Engine", name := "isSeenOrNone", desc := "(I)Z" } : Jvm.MethodName)) ∈ sTB := sMem 614 (by decide +kernel) rfl
theorem wm_617 : (Jvm.Cond.code ({ cls := "StoryStates$Engine", name := "isSeenOrNone", desc := "(I)Z" } : Jvm.MethodName) prog_6_method_4_code (2 : Nat) (Option.some Jvm.ClassFile.FieldType.boolean)) ∈ sTB := sMem 617 (by decide +kernel) rfl
theorem cw_E_fittingRule_6 : sCw "StoryStates$Engine" 70 y_E_isSeenOrNone prog_6_method_4_code 2 (some .boolean) rm_E_isSeenOrNone rm_E_fittingRule 1 := ⟨Or.inl wm_614, wm_2, wm_617, by decide, by decide +kernel, ⟨rfl, rfl⟩, by decide, by decide⟩
theorem wm_616 : (Jvm.Cond.instanceMethod ({ cls := "StoryStates$Engine", name := "isSeenOrNone", desc := "(I)Z" } : Jvm.MethodName)) ∈ sTB := sMem 616 (by decide +kernel) rfl
theorem ws_E_isSeenOrNone : Jvm.Cond.selects "StoryStates$Engine" ({ cls := "StoryStates$Engine", name := "isSeenOrNone", desc := "(I)Z" } : Jvm.MethodName) ({ cls := "StoryStates$Engine", name := "isSeenOrNone", desc := "(I)Z" } : Jvm.MethodName) ∈ sTB := sSel 5 ({ cls := "StoryStates$Engine", name := "isSeenOrNone", desc := "(I)Z" } : Jvm.MethodName) (by decide +kernel) rfl
theorem cw_E_fittingRule_14 : sCw "StoryStates$Engine" 70 y_E_isSeenOrNone prog_6_method_4_code 2 (some .boolean) rm_E_isSeenOrNone rm_E_fittingRule 1 := ⟨Or.inl wm_614, wm_2, wm_617, by decide, by decide +kernel, ⟨rfl, rfl⟩, by decide, by decide⟩
theorem wm_86 : (Jvm.Cond.fieldLink "StoryStates$Engine" (77 : Nat) "StoryStates$Rules" "size" "I") ∈ sTB := sMem 86 (by decide +kernel) rfl
theorem gf_c_E_77_3 : sGf Zc "StoryStates$Engine" 77 3 7 none := ⟨3, 8, _, "StoryStates$Rules", T_c3, rfl, rfl, rfl, by decide, Or.inl wm_86, rfl, us_c3⟩
theorem wm_630 : (Jvm.Cond.methodLink "StoryStates$Engine" (82 : Nat) ({ cls := "StoryStates$Rules", name := "answers", desc := "(IIII)Z" } : Jvm.MethodName)) ∈ sTB := sMem 630 (by decide +kernel) rfl
theorem wm_4 : (Jvm.Cond.initialized "StoryStates$Rules") ∈ sTB := sMem 4 (by decide +kernel) rfl
theorem wm_633 : (Jvm.Cond.code ({ cls := "StoryStates$Rules", name := "answers", desc := "(IIII)Z" } : Jvm.MethodName) prog_7_method_3_code (5 : Nat) (Option.some Jvm.ClassFile.FieldType.boolean)) ∈ sTB := sMem 633 (by decide +kernel) rfl
theorem cw_E_fittingRule_52 : sCw "StoryStates$Engine" 82 y_R_answers prog_7_method_3_code 5 (some .boolean) rm_R_answers rm_E_fittingRule 4 := ⟨Or.inl wm_630, wm_4, wm_633, by decide, by decide +kernel, ⟨rfl, rfl⟩, by decide, by decide⟩
theorem wm_631 : (Jvm.Cond.instanceMethod ({ cls := "StoryStates$Rules", name := "answers", desc := "(IIII)Z" } : Jvm.MethodName)) ∈ sTB := sMem 631 (by decide +kernel) rfl
theorem wm_632 : (Jvm.Cond.selects "StoryStates$Rules" ({ cls := "StoryStates$Rules", name := "answers", desc := "(IIII)Z" } : Jvm.MethodName) ({ cls := "StoryStates$Rules", name := "answers", desc := "(IIII)Z" } : Jvm.MethodName)) ∈ sTB := sMem 632 (by decide +kernel) rfl
theorem wm_634 : (Jvm.Cond.methodLink "StoryStates$Engine" (67 : Nat) ({ cls := "StoryStates$Engine", name := "conditionsHold", desc := "(I)Z" } : Jvm.MethodName)) ∈ sTB := sMem 634 (by decide +kernel) rfl
theorem wm_637 : (Jvm.Cond.code ({ cls := "StoryStates$Engine", name := "conditionsHold", desc := "(I)Z" } : Jvm.MethodName) prog_6_method_5_code (5 : Nat) (Option.some Jvm.ClassFile.FieldType.boolean)) ∈ sTB := sMem 637 (by decide +kernel) rfl
theorem cw_E_fittingRule_61 : sCw "StoryStates$Engine" 67 y_E_conditionsHold prog_6_method_5_code 5 (some .boolean) rm_E_conditionsHold rm_E_fittingRule 1 := ⟨Or.inl wm_634, wm_2, wm_637, by decide, by decide +kernel, ⟨rfl, rfl⟩, by decide, by decide⟩
theorem wm_636 : (Jvm.Cond.instanceMethod ({ cls := "StoryStates$Engine", name := "conditionsHold", desc := "(I)Z" } : Jvm.MethodName)) ∈ sTB := sMem 636 (by decide +kernel) rfl
theorem ws_E_conditionsHold : Jvm.Cond.selects "StoryStates$Engine" ({ cls := "StoryStates$Engine", name := "conditionsHold", desc := "(I)Z" } : Jvm.MethodName) ({ cls := "StoryStates$Engine", name := "conditionsHold", desc := "(I)Z" } : Jvm.MethodName) ∈ sTB := sSel 5 ({ cls := "StoryStates$Engine", name := "conditionsHold", desc := "(I)Z" } : Jvm.MethodName) (by decide +kernel) rfl
theorem wm_183 : (Jvm.Cond.fieldLink "StoryStates$Engine" (26 : Nat) "StoryStates$Engine" "textCount" "I") ∈ sTB := sMem 183 (by decide +kernel) rfl
theorem gf_c_E_26_1 : sGf Zc "StoryStates$Engine" 26 1 2 none := ⟨1, 5, _, "StoryStates$Engine", T_c1, rfl, rfl, rfl, by decide, Or.inl wm_183, rfl, us_c1⟩
theorem wm_181 : (Jvm.Cond.fieldLink "StoryStates$Engine" (18 : Nat) "StoryStates$Engine" "texts" "[I") ∈ sTB := sMem 181 (by decide +kernel) rfl
theorem gf_c_E_18_1 : sGf Zc "StoryStates$Engine" 18 1 1 (some (some 9)) := ⟨1, 5, _, "StoryStates$Engine", T_c1, rfl, rfl, rfl, by decide, Or.inl wm_181, rfl, us_c1⟩
theorem pf_c_E_26_1 : sPf Zc "StoryStates$Engine" 26 1 2 none .int := ⟨1, 5, _, "StoryStates$Engine", T_c1, ty_c1, rfl, rfl, rfl, by decide, Or.inl wm_183, rfl, us_c1, tyok_c1, nm_c1, rfl, by decide +kernel⟩
theorem wm_603 : (Jvm.Cond.methodLink "StoryStates$Bits" (15 : Nat) ({ cls := "StoryStates$Bits", name := "endingOf", desc := "(J)I" } : Jvm.MethodName)) ∈ sTB := sMem 603 (by decide +kernel) rfl
theorem wm_605 : (Jvm.Cond.code ({ cls := "StoryStates$Bits", name := "endingOf", desc := "(J)I" } : Jvm.MethodName) prog_3_method_15_code (2 : Nat) (Option.some Jvm.ClassFile.FieldType.int)) ∈ sTB := sMem 605 (by decide +kernel) rfl
theorem cw_B_isOver_1 : sCw "StoryStates$Bits" 15 y_B_endingOf prog_3_method_15_code 2 (some .int) rm_B_endingOf rm_B_isOver 1 := ⟨Or.inl wm_603, wm_8, wm_605, by decide, by decide +kernel, ⟨rfl, rfl⟩, by decide, by decide⟩
theorem wm_604 : (Jvm.Cond.static ({ cls := "StoryStates$Bits", name := "endingOf", desc := "(J)I" } : Jvm.MethodName)) ∈ sTB := sMem 604 (by decide +kernel) rfl
theorem cw_B_withEnding_8 : sCw "StoryStates$Bits" 9 y_B_write prog_3_method_19_code 5 (some .long) rm_B_write rm_B_withEnding 4 := ⟨Or.inl wm_290, wm_8, wm_292, by decide, by decide +kernel, ⟨rfl, rfl⟩, by decide, by decide⟩
theorem cw_B_isPartOf_29 : sCw "StoryStates$Bits" 19 y_B_placeOf prog_3_method_4_code 3 (some .int) rm_B_placeOf rm_B_isPartOf 2 := ⟨Or.inl wm_621, wm_8, wm_623, by decide, by decide +kernel, ⟨rfl, rfl⟩, by decide, by decide⟩
theorem cw_B_withRoom_5 : sCw "StoryStates$Bits" 9 y_B_write prog_3_method_19_code 5 (some .long) rm_B_write rm_B_withRoom 4 := ⟨Or.inl wm_290, wm_8, wm_292, by decide, by decide +kernel, ⟨rfl, rfl⟩, by decide, by decide⟩
theorem wm_666 : (Jvm.Cond.methodLink "StoryStates$Engine" (137 : Nat) ({ cls := "StoryStates$Bits", name := "withRoom", desc := "(JI)J" } : Jvm.MethodName)) ∈ sTB := sMem 666 (by decide +kernel) rfl
theorem wm_668 : (Jvm.Cond.code ({ cls := "StoryStates$Bits", name := "withRoom", desc := "(JI)J" } : Jvm.MethodName) prog_3_method_3_code (3 : Nat) (Option.some Jvm.ClassFile.FieldType.long)) ∈ sTB := sMem 668 (by decide +kernel) rfl
theorem cw_E_doEffect_38 : sCw "StoryStates$Engine" 137 y_B_withRoom prog_3_method_3_code 3 (some .long) rm_B_withRoom rm_E_doEffect 2 := ⟨Or.inl wm_666, wm_8, wm_668, by decide, by decide +kernel, ⟨rfl, rfl⟩, by decide, by decide⟩
theorem wm_667 : (Jvm.Cond.static ({ cls := "StoryStates$Bits", name := "withRoom", desc := "(JI)J" } : Jvm.MethodName)) ∈ sTB := sMem 667 (by decide +kernel) rfl
theorem pf_c_E_22_1 : sPf Zc "StoryStates$Engine" 22 1 4 (some none) .long := ⟨1, 5, _, "StoryStates$Engine", T_c1, ty_c1, rfl, rfl, rfl, by decide, Or.inl wm_187, rfl, us_c1, tyok_c1, nm_c1, rfl, by decide +kernel⟩
theorem wm_669 : (Jvm.Cond.methodLink "StoryStates$Engine" (141 : Nat) ({ cls := "StoryStates$Bits", name := "isPartOf", desc := "(JII)Z" } : Jvm.MethodName)) ∈ sTB := sMem 669 (by decide +kernel) rfl
theorem wm_671 : (Jvm.Cond.code ({ cls := "StoryStates$Bits", name := "isPartOf", desc := "(JII)Z" } : Jvm.MethodName) prog_3_method_18_code (6 : Nat) (Option.some Jvm.ClassFile.FieldType.boolean)) ∈ sTB := sMem 671 (by decide +kernel) rfl
theorem cw_E_doEffect_62 : sCw "StoryStates$Engine" 141 y_B_isPartOf prog_3_method_18_code 6 (some .boolean) rm_B_isPartOf rm_E_doEffect 3 := ⟨Or.inl wm_669, wm_8, wm_671, by decide, by decide +kernel, ⟨rfl, rfl⟩, by decide, by decide⟩
theorem wm_670 : (Jvm.Cond.static ({ cls := "StoryStates$Bits", name := "isPartOf", desc := "(JII)Z" } : Jvm.MethodName)) ∈ sTB := sMem 670 (by decide +kernel) rfl
theorem wm_673 : (Jvm.Cond.methodLink "StoryStates$Engine" (149 : Nat) ({ cls := "StoryStates$Bits", name := "withOpen", desc := "(JII)J" } : Jvm.MethodName)) ∈ sTB := sMem 673 (by decide +kernel) rfl
theorem cw_E_doEffect_91 : sCw "StoryStates$Engine" 149 y_B_withOpen prog_3_method_7_code 4 (some .long) rm_B_withOpen rm_E_doEffect 3 := ⟨Or.inl wm_673, wm_8, wm_296, by decide, by decide +kernel, ⟨rfl, rfl⟩, by decide, by decide⟩
theorem cw_E_doEffect_105 : sCw "StoryStates$Engine" 126 y_B_amountOf prog_3_method_8_code 3 (some .int) rm_B_amountOf rm_E_doEffect 2 := ⟨Or.inl wm_650, wm_8, wm_652, by decide, by decide +kernel, ⟨rfl, rfl⟩, by decide, by decide⟩
theorem wm_114 : (Jvm.Cond.fieldLink "StoryStates$Engine" (152 : Nat) "StoryStates$World" "mostAmounts" "[I") ∈ sTB := sMem 114 (by decide +kernel) rfl
theorem gf_c_E_152_2 : sGf Zc "StoryStates$Engine" 152 2 5 (some (some 15)) := ⟨2, 18, _, "StoryStates$World", T_c2, rfl, rfl, rfl, by decide, Or.inl wm_114, rfl, us_c2⟩
theorem wm_674 : (Jvm.Cond.methodLink "StoryStates$Engine" (155 : Nat) ({ cls := "java/lang/Math", name := "min", desc := "(II)I" } : Jvm.MethodName)) ∈ sTB := sMem 674 (by decide +kernel) rfl
theorem wm_675 : (Jvm.Cond.static ({ cls := "java/lang/Math", name := "min", desc := "(II)I" } : Jvm.MethodName)) ∈ sTB := sMem 675 (by decide +kernel) rfl
theorem wm_15 : (Jvm.Cond.initialized "java/lang/Math") ∈ sTB := sMem 15 (by decide +kernel) rfl
theorem wm_676 : (Jvm.Cond.code ({ cls := "java/lang/Math", name := "min", desc := "(II)I" } : Jvm.MethodName) prog_15_method_69_code (2 : Nat) (Option.some Jvm.ClassFile.FieldType.int)) ∈ sTB := sMem 676 (by decide +kernel) rfl
theorem wm_677 : (Jvm.Cond.methodLink "StoryStates$Engine" (161 : Nat) ({ cls := "java/lang/Math", name := "max", desc := "(II)I" } : Jvm.MethodName)) ∈ sTB := sMem 677 (by decide +kernel) rfl
theorem wm_678 : (Jvm.Cond.static ({ cls := "java/lang/Math", name := "max", desc := "(II)I" } : Jvm.MethodName)) ∈ sTB := sMem 678 (by decide +kernel) rfl
theorem wm_679 : (Jvm.Cond.code ({ cls := "java/lang/Math", name := "max", desc := "(II)I" } : Jvm.MethodName) prog_15_method_65_code (2 : Nat) (Option.some Jvm.ClassFile.FieldType.int)) ∈ sTB := sMem 679 (by decide +kernel) rfl
theorem wm_680 : (Jvm.Cond.methodLink "StoryStates$Engine" (164 : Nat) ({ cls := "StoryStates$Bits", name := "withAmount", desc := "(JII)J" } : Jvm.MethodName)) ∈ sTB := sMem 680 (by decide +kernel) rfl
theorem cw_E_doEffect_136 : sCw "StoryStates$Engine" 164 y_B_withAmount prog_3_method_9_code 4 (some .long) rm_B_withAmount rm_E_doEffect 3 := ⟨Or.inl wm_680, wm_8, wm_299, by decide, by decide +kernel, ⟨rfl, rfl⟩, by decide, by decide⟩
theorem wm_681 : (Jvm.Cond.methodLink "StoryStates$Engine" (167 : Nat) ({ cls := "StoryStates$Bits", name := "withEnding", desc := "(JI)J" } : Jvm.MethodName)) ∈ sTB := sMem 681 (by decide +kernel) rfl
theorem wm_683 : (Jvm.Cond.code ({ cls := "StoryStates$Bits", name := "withEnding", desc := "(JI)J" } : Jvm.MethodName) prog_3_method_16_code (3 : Nat) (Option.some Jvm.ClassFile.FieldType.long)) ∈ sTB := sMem 683 (by decide +kernel) rfl
theorem cw_E_doEffect_151 : sCw "StoryStates$Engine" 167 y_B_withEnding prog_3_method_16_code 3 (some .long) rm_B_withEnding rm_E_doEffect 2 := ⟨Or.inl wm_681, wm_8, wm_683, by decide, by decide +kernel, ⟨rfl, rfl⟩, by decide, by decide⟩
theorem wm_682 : (Jvm.Cond.static ({ cls := "StoryStates$Bits", name := "withEnding", desc := "(JI)J" } : Jvm.MethodName)) ∈ sTB := sMem 682 (by decide +kernel) rfl
theorem wm_672 : (Jvm.Cond.methodLink "StoryStates$Engine" (145 : Nat) ({ cls := "StoryStates$Bits", name := "withPlace", desc := "(JII)J" } : Jvm.MethodName)) ∈ sTB := sMem 672 (by decide +kernel) rfl
theorem cw_E_doEffect_75 : sCw "StoryStates$Engine" 145 y_B_withPlace prog_3_method_5_code 4 (some .long) rm_B_withPlace rm_E_doEffect 3 := ⟨Or.inl wm_672, wm_8, wm_289, by decide, by decide +kernel, ⟨rfl, rfl⟩, by decide, by decide⟩
theorem wm_185 : (Jvm.Cond.fieldLink "StoryStates$Engine" (30 : Nat) "StoryStates$Engine" "rulesDone" "I") ∈ sTB := sMem 185 (by decide +kernel) rfl
theorem gf_c_E_30_1 : sGf Zc "StoryStates$Engine" 30 1 3 none := ⟨1, 5, _, "StoryStates$Engine", T_c1, rfl, rfl, rfl, by decide, Or.inl wm_185, rfl, us_c1⟩
theorem pf_c_E_30_1 : sPf Zc "StoryStates$Engine" 30 1 3 none .int := ⟨1, 5, _, "StoryStates$Engine", T_c1, ty_c1, rfl, rfl, rfl, by decide, Or.inl wm_185, rfl, us_c1, tyok_c1, nm_c1, rfl, by decide +kernel⟩
theorem wm_74 : (Jvm.Cond.fieldLink "StoryStates$Engine" (129 : Nat) "StoryStates$Rules" "texts" "[I") ∈ sTB := sMem 74 (by decide +kernel) rfl
theorem gf_c_E_129_3 : sGf Zc "StoryStates$Engine" 129 3 3 (some (some 24)) := ⟨3, 8, _, "StoryStates$Rules", T_c3, rfl, rfl, rfl, by decide, Or.inl wm_74, rfl, us_c3⟩
theorem wm_657 : (Jvm.Cond.methodLink "StoryStates$Engine" (45 : Nat) ({ cls := "StoryStates$Engine", name := "say", desc := "(I)V" } : Jvm.MethodName)) ∈ sTB := sMem 657 (by decide +kernel) rfl
theorem wm_660 : (Jvm.Cond.code ({ cls := "StoryStates$Engine", name := "say", desc := "(I)V" } : Jvm.MethodName) prog_6_method_17_code (2 : Nat) (Option.none : Option Jvm.ClassFile.FieldType)) ∈ sTB := sMem 660 (by decide +kernel) rfl
theorem cw_E_doRule_25 : sCw "StoryStates$Engine" 45 y_E_say prog_6_method_17_code 2 none rm_E_say rm_E_doRule 1 := ⟨Or.inl wm_657, wm_2, wm_660, by decide, by decide +kernel, ⟨rfl, rfl⟩, by decide, by decide⟩
theorem wm_659 : (Jvm.Cond.instanceMethod ({ cls := "StoryStates$Engine", name := "say", desc := "(I)V" } : Jvm.MethodName)) ∈ sTB := sMem 659 (by decide +kernel) rfl
theorem ws_E_say : Jvm.Cond.selects "StoryStates$Engine" ({ cls := "StoryStates$Engine", name := "say", desc := "(I)V" } : Jvm.MethodName) ({ cls := "StoryStates$Engine", name := "say", desc := "(I)V" } : Jvm.MethodName) ∈ sTB := sSel 5 ({ cls := "StoryStates$Engine", name := "say", desc := "(I)V" } : Jvm.MethodName) (by decide +kernel) rfl
theorem wm_82 : (Jvm.Cond.fieldLink "StoryStates$Engine" (130 : Nat) "StoryStates$Rules" "effects" "LStoryStates$Clauses;") ∈ sTB := sMem 82 (by decide +kernel) rfl
theorem gf_c_E_130_3 : sGf Zc "StoryStates$Engine" 130 3 6 (some (some 5)) := ⟨3, 8, _, "StoryStates$Rules", T_c3, rfl, rfl, rfl, by decide, Or.inl wm_82, rfl, us_c3⟩
theorem cw_E_doRule_41 : sCw "StoryStates$Engine" 94 y_C_endOf prog_4_method_4_code 2 (some .int) rm_C_endOf_1 rm_E_doRule 1 := ⟨Or.inl wm_638, wm_5, wm_541, by decide, by decide +kernel, ⟨rfl, rfl⟩, by decide, by decide⟩
theorem cw_E_doRule_47 : sCw "StoryStates$Engine" 100 y_C_startOf prog_4_method_3_code 2 (some .int) rm_C_startOf_1 rm_E_doRule 1 := ⟨Or.inl wm_639, wm_5, wm_642, by decide, by decide +kernel, ⟨rfl, rfl⟩, by decide, by decide⟩
theorem wm_661 : (Jvm.Cond.methodLink "StoryStates$Engine" (48 : Nat) ({ cls := "StoryStates$Bits", name := "isOver", desc := "(J)Z" } : Jvm.MethodName)) ∈ sTB := sMem 661 (by decide +kernel) rfl
theorem wm_602 : (Jvm.Cond.code ({ cls := "StoryStates$Bits", name := "isOver", desc := "(J)Z" } : Jvm.MethodName) prog_3_method_14_code (2 : Nat) (Option.some Jvm.ClassFile.FieldType.boolean)) ∈ sTB := sMem 602 (by decide +kernel) rfl
theorem cw_E_doRule_62 : sCw "StoryStates$Engine" 48 y_B_isOver prog_3_method_14_code 2 (some .boolean) rm_B_isOver rm_E_doRule 1 := ⟨Or.inl wm_661, wm_8, wm_602, by decide, by decide +kernel, ⟨rfl, rfl⟩, by decide, by decide⟩
theorem wm_601 : (Jvm.Cond.static ({ cls := "StoryStates$Bits", name := "isOver", desc := "(J)Z" } : Jvm.MethodName)) ∈ sTB := sMem 601 (by decide +kernel) rfl
theorem gf_c_E_103_5 : sGf Zc "StoryStates$Engine" 103 5 1 (some (some 31)) := ⟨4, 4, _, "StoryStates$Clauses", T_c4, rfl, rfl, rfl, by decide, Or.inl wm_54, rfl, us_c4⟩
theorem gf_c_E_106_5 : sGf Zc "StoryStates$Engine" 106 5 2 (some (some 32)) := ⟨4, 4, _, "StoryStates$Clauses", T_c4, rfl, rfl, rfl, by decide, Or.inl wm_56, rfl, us_c4⟩
theorem gf_c_E_109_5 : sGf Zc "StoryStates$Engine" 109 5 3 (some (some 33)) := ⟨4, 4, _, "StoryStates$Clauses", T_c4, rfl, rfl, rfl, by decide, Or.inl wm_58, rfl, us_c4⟩
theorem wm_662 : (Jvm.Cond.methodLink "StoryStates$Engine" (133 : Nat) ({ cls := "StoryStates$Engine", name := "doEffect", desc := "(III)V" } : Jvm.MethodName)) ∈ sTB := sMem 662 (by decide +kernel) rfl
theorem wm_665 : (Jvm.Cond.code ({ cls := "StoryStates$Engine", name := "doEffect", desc := "(III)V" } : Jvm.MethodName) prog_6_method_8_code (5 : Nat) (Option.none : Option Jvm.ClassFile.FieldType)) ∈ sTB := sMem 665 (by decide +kernel) rfl
theorem cw_E_doRule_90 : sCw "StoryStates$Engine" 133 y_E_doEffect prog_6_method_8_code 5 none rm_E_doEffect rm_E_doRule 3 := ⟨Or.inl wm_662, wm_2, wm_665, by decide, by decide +kernel, ⟨rfl, rfl⟩, by decide, by decide⟩
theorem wm_664 : (Jvm.Cond.instanceMethod ({ cls := "StoryStates$Engine", name := "doEffect", desc := "(III)V" } : Jvm.MethodName)) ∈ sTB := sMem 664 (by decide +kernel) rfl
theorem ws_E_doEffect : Jvm.Cond.selects "StoryStates$Engine" ({ cls := "StoryStates$Engine", name := "doEffect", desc := "(III)V" } : Jvm.MethodName) ({ cls := "StoryStates$Engine", name := "doEffect", desc := "(III)V" } : Jvm.MethodName) ∈ sTB := sSel 5 ({ cls := "StoryStates$Engine", name := "doEffect", desc := "(III)V" } : Jvm.MethodName) (by decide +kernel) rfl
theorem cw_B_withStep_9 : sCw "StoryStates$Bits" 9 y_B_write prog_3_method_19_code 5 (some .long) rm_B_write rm_B_withStep 4 := ⟨Or.inl wm_290, wm_8, wm_292, by decide, by decide +kernel, ⟨rfl, rfl⟩, by decide, by decide⟩
theorem wm_137 : (Jvm.Cond.fieldLink "StoryStates$Engine" (193 : Nat) "StoryStates$World" "walkers" "I") ∈ sTB := sMem 137 (by decide +kernel) rfl
theorem gf_c_E_193_2 : sGf Zc "StoryStates$Engine" 193 2 16 none := ⟨2, 18, _, "StoryStates$World", T_c2, rfl, rfl, rfl, by decide, Or.inl wm_137, rfl, us_c2⟩
theorem wm_121 : (Jvm.Cond.fieldLink "StoryStates$Engine" (196 : Nat) "StoryStates$World" "walkerThings" "[I") ∈ sTB := sMem 121 (by decide +kernel) rfl
theorem gf_c_E_196_2 : sGf Zc "StoryStates$Engine" 196 2 8 (some (some 17)) := ⟨2, 18, _, "StoryStates$World", T_c2, rfl, rfl, rfl, by decide, Or.inl wm_121, rfl, us_c2⟩
theorem cw_E_stepWalkers_28 : sCw "StoryStates$Engine" 119 y_B_placeOf prog_3_method_4_code 3 (some .int) rm_B_placeOf rm_E_stepWalkers 2 := ⟨Or.inl wm_648, wm_8, wm_623, by decide, by decide +kernel, ⟨rfl, rfl⟩, by decide, by decide⟩
theorem wm_712 : (Jvm.Cond.methodLink "StoryStates$Engine" (199 : Nat) ({ cls := "StoryStates$Bits", name := "stepOf", desc := "(JI)I" } : Jvm.MethodName)) ∈ sTB := sMem 712 (by decide +kernel) rfl
theorem wm_714 : (Jvm.Cond.code ({ cls := "StoryStates$Bits", name := "stepOf", desc := "(JI)I" } : Jvm.MethodName) prog_3_method_10_code (3 : Nat) (Option.some Jvm.ClassFile.FieldType.int)) ∈ sTB := sMem 714 (by decide +kernel) rfl
theorem cw_E_stepWalkers_41 : sCw "StoryStates$Engine" 199 y_B_stepOf prog_3_method_10_code 3 (some .int) rm_B_stepOf rm_E_stepWalkers 2 := ⟨Or.inl wm_712, wm_8, wm_714, by decide, by decide +kernel, ⟨rfl, rfl⟩, by decide, by decide⟩
theorem wm_713 : (Jvm.Cond.static ({ cls := "StoryStates$Bits", name := "stepOf", desc := "(JI)I" } : Jvm.MethodName)) ∈ sTB := sMem 713 (by decide +kernel) rfl
theorem wm_715 : (Jvm.Cond.methodLink "StoryStates$Engine" (202 : Nat) ({ cls := "StoryStates$Bits", name := "withStep", desc := "(JII)J" } : Jvm.MethodName)) ∈ sTB := sMem 715 (by decide +kernel) rfl
theorem wm_717 : (Jvm.Cond.code ({ cls := "StoryStates$Bits", name := "withStep", desc := "(JII)J" } : Jvm.MethodName) prog_3_method_11_code (4 : Nat) (Option.some Jvm.ClassFile.FieldType.long)) ∈ sTB := sMem 717 (by decide +kernel) rfl
theorem cw_E_stepWalkers_67 : sCw "StoryStates$Engine" 202 y_B_withStep prog_3_method_11_code 4 (some .long) rm_B_withStep rm_E_stepWalkers 3 := ⟨Or.inl wm_715, wm_8, wm_717, by decide, by decide +kernel, ⟨rfl, rfl⟩, by decide, by decide⟩
theorem wm_716 : (Jvm.Cond.static ({ cls := "StoryStates$Bits", name := "withStep", desc := "(JII)J" } : Jvm.MethodName)) ∈ sTB := sMem 716 (by decide +kernel) rfl
theorem wm_123 : (Jvm.Cond.fieldLink "StoryStates$Engine" (205 : Nat) "StoryStates$World" "walkerRooms" "[I") ∈ sTB := sMem 123 (by decide +kernel) rfl
theorem gf_c_E_205_2 : sGf Zc "StoryStates$Engine" 205 2 9 (some (some 18)) := ⟨2, 18, _, "StoryStates$World", T_c2, rfl, rfl, rfl, by decide, Or.inl wm_123, rfl, us_c2⟩
theorem cw_E_stepWalkers_93 : sCw "StoryStates$Engine" 145 y_B_withPlace prog_3_method_5_code 4 (some .long) rm_B_withPlace rm_E_stepWalkers 3 := ⟨Or.inl wm_672, wm_8, wm_289, by decide, by decide +kernel, ⟨rfl, rfl⟩, by decide, by decide⟩
theorem wm_722 : (Jvm.Cond.methodLink "StoryStates$Engine" (208 : Nat) ({ cls := "StoryStates$Bits", name := "countOf", desc := "(JI)I" } : Jvm.MethodName)) ∈ sTB := sMem 722 (by decide +kernel) rfl
theorem wm_724 : (Jvm.Cond.code ({ cls := "StoryStates$Bits", name := "countOf", desc := "(JI)I" } : Jvm.MethodName) prog_3_method_12_code (3 : Nat) (Option.some Jvm.ClassFile.FieldType.int)) ∈ sTB := sMem 724 (by decide +kernel) rfl
theorem cw_E_runsOut_5 : sCw "StoryStates$Engine" 208 y_B_countOf prog_3_method_12_code 3 (some .int) rm_B_countOf rm_E_runsOut 2 := ⟨Or.inl wm_722, wm_8, wm_724, by decide, by decide +kernel, ⟨rfl, rfl⟩, by decide, by decide⟩
theorem wm_723 : (Jvm.Cond.static ({ cls := "StoryStates$Bits", name := "countOf", desc := "(JI)I" } : Jvm.MethodName)) ∈ sTB := sMem 723 (by decide +kernel) rfl
theorem wm_725 : (Jvm.Cond.methodLink "StoryStates$Engine" (211 : Nat) ({ cls := "StoryStates$Bits", name := "withCount", desc := "(JII)J" } : Jvm.MethodName)) ∈ sTB := sMem 725 (by decide +kernel) rfl
theorem cw_E_runsOut_24 : sCw "StoryStates$Engine" 211 y_B_withCount prog_3_method_13_code 4 (some .long) rm_B_withCount rm_E_runsOut 3 := ⟨Or.inl wm_725, wm_8, wm_302, by decide, by decide +kernel, ⟨rfl, rfl⟩, by decide, by decide⟩
theorem cw_E_putInto_5 : sCw "StoryStates$Engine" 119 y_B_placeOf prog_3_method_4_code 3 (some .int) rm_B_placeOf rm_E_putInto 2 := ⟨Or.inl wm_648, wm_8, wm_623, by decide, by decide +kernel, ⟨rfl, rfl⟩, by decide, by decide⟩
theorem wm_111 : (Jvm.Cond.fieldLink "StoryStates$Engine" (192 : Nat) "StoryStates$World" "kinds" "[I") ∈ sTB := sMem 111 (by decide +kernel) rfl
theorem gf_c_E_192_2 : sGf Zc "StoryStates$Engine" 192 2 3 (some (some 13)) := ⟨2, 18, _, "StoryStates$World", T_c2, rfl, rfl, rfl, by decide, Or.inl wm_111, rfl, us_c2⟩
theorem cw_E_putInto_32 : sCw "StoryStates$Engine" 123 y_B_isOpen prog_3_method_6_code 3 (some .boolean) rm_B_isOpen rm_E_putInto 2 := ⟨Or.inl wm_649, wm_8, wm_626, by decide, by decide +kernel, ⟨rfl, rfl⟩, by decide, by decide⟩
theorem cw_E_putInto_43 : sCw "StoryStates$Engine" 86 y_B_isSeen prog_3_method_17_code 5 (some .boolean) rm_B_isSeen rm_E_putInto 2 := ⟨Or.inl wm_618, wm_8, wm_620, by decide, by decide +kernel, ⟨rfl, rfl⟩, by decide, by decide⟩
theorem cw_E_putInto_55 : sCw "StoryStates$Engine" 141 y_B_isPartOf prog_3_method_18_code 6 (some .boolean) rm_B_isPartOf rm_E_putInto 3 := ⟨Or.inl wm_669, wm_8, wm_671, by decide, by decide +kernel, ⟨rfl, rfl⟩, by decide, by decide⟩
theorem cw_E_putInto_73 : sCw "StoryStates$Engine" 145 y_B_withPlace prog_3_method_5_code 4 (some .long) rm_B_withPlace rm_E_putInto 3 := ⟨Or.inl wm_672, wm_8, wm_289, by decide, by decide +kernel, ⟨rfl, rfl⟩, by decide, by decide⟩
theorem cw_E_turnLid_19 : sCw "StoryStates$Engine" 123 y_B_isOpen prog_3_method_6_code 3 (some .boolean) rm_B_isOpen rm_E_turnLid 2 := ⟨Or.inl wm_649, wm_8, wm_626, by decide, by decide +kernel, ⟨rfl, rfl⟩, by decide, by decide⟩
theorem cw_E_turnLid_40 : sCw "StoryStates$Engine" 86 y_B_isSeen prog_3_method_17_code 5 (some .boolean) rm_B_isSeen rm_E_turnLid 2 := ⟨Or.inl wm_618, wm_8, wm_620, by decide, by decide +kernel, ⟨rfl, rfl⟩, by decide, by decide⟩
theorem cw_E_turnLid_55 : sCw "StoryStates$Engine" 149 y_B_withOpen prog_3_method_7_code 4 (some .long) rm_B_withOpen rm_E_turnLid 3 := ⟨Or.inl wm_673, wm_8, wm_296, by decide, by decide +kernel, ⟨rfl, rfl⟩, by decide, by decide⟩
theorem cw_E_putDown_5 : sCw "StoryStates$Engine" 119 y_B_placeOf prog_3_method_4_code 3 (some .int) rm_B_placeOf rm_E_putDown 2 := ⟨Or.inl wm_648, wm_8, wm_623, by decide, by decide +kernel, ⟨rfl, rfl⟩, by decide, by decide⟩
theorem cw_E_putDown_25 : sCw "StoryStates$Engine" 115 y_B_roomOf prog_3_method_2_code 2 (some .int) rm_B_roomOf rm_E_putDown 1 := ⟨Or.inl wm_647, wm_8, wm_629, by decide, by decide +kernel, ⟨rfl, rfl⟩, by decide, by decide⟩
theorem cw_E_putDown_28 : sCw "StoryStates$Engine" 145 y_B_withPlace prog_3_method_5_code 4 (some .long) rm_B_withPlace rm_E_putDown 3 := ⟨Or.inl wm_672, wm_8, wm_289, by decide, by decide +kernel, ⟨rfl, rfl⟩, by decide, by decide⟩
theorem cw_E_takeUp_19 : sCw "StoryStates$Engine" 119 y_B_placeOf prog_3_method_4_code 3 (some .int) rm_B_placeOf rm_E_takeUp 2 := ⟨Or.inl wm_648, wm_8, wm_623, by decide, by decide +kernel, ⟨rfl, rfl⟩, by decide, by decide⟩
theorem cw_E_takeUp_32 : sCw "StoryStates$Engine" 86 y_B_isSeen prog_3_method_17_code 5 (some .boolean) rm_B_isSeen rm_E_takeUp 2 := ⟨Or.inl wm_618, wm_8, wm_620, by decide, by decide +kernel, ⟨rfl, rfl⟩, by decide, by decide⟩
theorem cw_E_takeUp_48 : sCw "StoryStates$Engine" 145 y_B_withPlace prog_3_method_5_code 4 (some .long) rm_B_withPlace rm_E_takeUp 3 := ⟨Or.inl wm_672, wm_8, wm_289, by decide, by decide +kernel, ⟨rfl, rfl⟩, by decide, by decide⟩
theorem cw_E_goThrough_4 : sCw "StoryStates$Engine" 115 y_B_roomOf prog_3_method_2_code 2 (some .int) rm_B_roomOf rm_E_goThrough 1 := ⟨Or.inl wm_647, wm_8, wm_629, by decide, by decide +kernel, ⟨rfl, rfl⟩, by decide, by decide⟩
theorem wm_108 : (Jvm.Cond.fieldLink "StoryStates$Engine" (186 : Nat) "StoryStates$World" "exitDoors" "[I") ∈ sTB := sMem 108 (by decide +kernel) rfl
theorem gf_c_E_186_2 : sGf Zc "StoryStates$Engine" 186 2 1 (some (some 11)) := ⟨2, 18, _, "StoryStates$World", T_c2, rfl, rfl, rfl, by decide, Or.inl wm_108, rfl, us_c2⟩
theorem wm_106 : (Jvm.Cond.fieldLink "StoryStates$Engine" (189 : Nat) "StoryStates$World" "exitRooms" "[I") ∈ sTB := sMem 106 (by decide +kernel) rfl
theorem gf_c_E_189_2 : sGf Zc "StoryStates$Engine" 189 2 0 (some (some 10)) := ⟨2, 18, _, "StoryStates$World", T_c2, rfl, rfl, rfl, by decide, Or.inl wm_106, rfl, us_c2⟩
theorem cw_E_goThrough_45 : sCw "StoryStates$Engine" 123 y_B_isOpen prog_3_method_6_code 3 (some .boolean) rm_B_isOpen rm_E_goThrough 2 := ⟨Or.inl wm_649, wm_8, wm_626, by decide, by decide +kernel, ⟨rfl, rfl⟩, by decide, by decide⟩
theorem cw_E_goThrough_67 : sCw "StoryStates$Engine" 137 y_B_withRoom prog_3_method_3_code 3 (some .long) rm_B_withRoom rm_E_goThrough 2 := ⟨Or.inl wm_666, wm_8, wm_668, by decide, by decide +kernel, ⟨rfl, rfl⟩, by decide, by decide⟩
theorem wm_688 : (Jvm.Cond.methodLink "StoryStates$Engine" (170 : Nat) ({ cls := "StoryStates$Engine", name := "goThrough", desc := "(I)Z" } : Jvm.MethodName)) ∈ sTB := sMem 688 (by decide +kernel) rfl
theorem wm_691 : (Jvm.Cond.code ({ cls := "StoryStates$Engine", name := "goThrough", desc := "(I)Z" } : Jvm.MethodName) prog_6_method_10_code (4 : Nat) (Option.some Jvm.ClassFile.FieldType.boolean)) ∈ sTB := sMem 691 (by decide +kernel) rfl
theorem cw_E_actWithoutRule_42 : sCw "StoryStates$Engine" 170 y_E_goThrough prog_6_method_10_code 4 (some .boolean) rm_E_goThrough rm_E_actWithoutRule 1 := ⟨Or.inl wm_688, wm_2, wm_691, by decide, by decide +kernel, ⟨rfl, rfl⟩, by decide, by decide⟩
theorem wm_690 : (Jvm.Cond.instanceMethod ({ cls := "StoryStates$Engine", name := "goThrough", desc := "(I)Z" } : Jvm.MethodName)) ∈ sTB := sMem 690 (by decide +kernel) rfl
theorem ws_E_goThrough : Jvm.Cond.selects "StoryStates$Engine" ({ cls := "StoryStates$Engine", name := "goThrough", desc := "(I)Z" } : Jvm.MethodName) ({ cls := "StoryStates$Engine", name := "goThrough", desc := "(I)Z" } : Jvm.MethodName) ∈ sTB := sSel 5 ({ cls := "StoryStates$Engine", name := "goThrough", desc := "(I)Z" } : Jvm.MethodName) (by decide +kernel) rfl
theorem wm_692 : (Jvm.Cond.methodLink "StoryStates$Engine" (173 : Nat) ({ cls := "StoryStates$Engine", name := "takeUp", desc := "(I)Z" } : Jvm.MethodName)) ∈ sTB := sMem 692 (by decide +kernel) rfl
theorem wm_695 : (Jvm.Cond.code ({ cls := "StoryStates$Engine", name := "takeUp", desc := "(I)Z" } : Jvm.MethodName) prog_6_method_11_code (2 : Nat) (Option.some Jvm.ClassFile.FieldType.boolean)) ∈ sTB := sMem 695 (by decide +kernel) rfl
theorem cw_E_actWithoutRule_48 : sCw "StoryStates$Engine" 173 y_E_takeUp prog_6_method_11_code 2 (some .boolean) rm_E_takeUp rm_E_actWithoutRule 1 := ⟨Or.inl wm_692, wm_2, wm_695, by decide, by decide +kernel, ⟨rfl, rfl⟩, by decide, by decide⟩
theorem wm_694 : (Jvm.Cond.instanceMethod ({ cls := "StoryStates$Engine", name := "takeUp", desc := "(I)Z" } : Jvm.MethodName)) ∈ sTB := sMem 694 (by decide +kernel) rfl
theorem ws_E_takeUp : Jvm.Cond.selects "StoryStates$Engine" ({ cls := "StoryStates$Engine", name := "takeUp", desc := "(I)Z" } : Jvm.MethodName) ({ cls := "StoryStates$Engine", name := "takeUp", desc := "(I)Z" } : Jvm.MethodName) ∈ sTB := sSel 5 ({ cls := "StoryStates$Engine", name := "takeUp", desc := "(I)Z" } : Jvm.MethodName) (by decide +kernel) rfl
theorem wm_696 : (Jvm.Cond.methodLink "StoryStates$Engine" (176 : Nat) ({ cls := "StoryStates$Engine", name := "putDown", desc := "(I)Z" } : Jvm.MethodName)) ∈ sTB := sMem 696 (by decide +kernel) rfl
theorem wm_699 : (Jvm.Cond.code ({ cls := "StoryStates$Engine", name := "putDown", desc := "(I)Z" } : Jvm.MethodName) prog_6_method_12_code (2 : Nat) (Option.some Jvm.ClassFile.FieldType.boolean)) ∈ sTB := sMem 699 (by decide +kernel) rfl
theorem cw_E_actWithoutRule_54 : sCw "StoryStates$Engine" 176 y_E_putDown prog_6_method_12_code 2 (some .boolean) rm_E_putDown rm_E_actWithoutRule 1 := ⟨Or.inl wm_696, wm_2, wm_699, by decide, by decide +kernel, ⟨rfl, rfl⟩, by decide, by decide⟩
theorem wm_698 : (Jvm.Cond.instanceMethod ({ cls := "StoryStates$Engine", name := "putDown", desc := "(I)Z" } : Jvm.MethodName)) ∈ sTB := sMem 698 (by decide +kernel) rfl
theorem ws_E_putDown : Jvm.Cond.selects "StoryStates$Engine" ({ cls := "StoryStates$Engine", name := "putDown", desc := "(I)Z" } : Jvm.MethodName) ({ cls := "StoryStates$Engine", name := "putDown", desc := "(I)Z" } : Jvm.MethodName) ∈ sTB := sSel 5 ({ cls := "StoryStates$Engine", name := "putDown", desc := "(I)Z" } : Jvm.MethodName) (by decide +kernel) rfl
theorem wm_700 : (Jvm.Cond.methodLink "StoryStates$Engine" (179 : Nat) ({ cls := "StoryStates$Engine", name := "turnLid", desc := "(II)Z" } : Jvm.MethodName)) ∈ sTB := sMem 700 (by decide +kernel) rfl
theorem wm_703 : (Jvm.Cond.code ({ cls := "StoryStates$Engine", name := "turnLid", desc := "(II)Z" } : Jvm.MethodName) prog_6_method_13_code (3 : Nat) (Option.some Jvm.ClassFile.FieldType.boolean)) ∈ sTB := sMem 703 (by decide +kernel) rfl
theorem cw_E_actWithoutRule_61 : sCw "StoryStates$Engine" 179 y_E_turnLid prog_6_method_13_code 3 (some .boolean) rm_E_turnLid rm_E_actWithoutRule 2 := ⟨Or.inl wm_700, wm_2, wm_703, by decide, by decide +kernel, ⟨rfl, rfl⟩, by decide, by decide⟩
theorem wm_702 : (Jvm.Cond.instanceMethod ({ cls := "StoryStates$Engine", name := "turnLid", desc := "(II)Z" } : Jvm.MethodName)) ∈ sTB := sMem 702 (by decide +kernel) rfl
theorem ws_E_turnLid : Jvm.Cond.selects "StoryStates$Engine" ({ cls := "StoryStates$Engine", name := "turnLid", desc := "(II)Z" } : Jvm.MethodName) ({ cls := "StoryStates$Engine", name := "turnLid", desc := "(II)Z" } : Jvm.MethodName) ∈ sTB := sSel 5 ({ cls := "StoryStates$Engine", name := "turnLid", desc := "(II)Z" } : Jvm.MethodName) (by decide +kernel) rfl
theorem cw_E_actWithoutRule_68 : sCw "StoryStates$Engine" 179 y_E_turnLid prog_6_method_13_code 3 (some .boolean) rm_E_turnLid rm_E_actWithoutRule 2 := ⟨Or.inl wm_700, wm_2, wm_703, by decide, by decide +kernel, ⟨rfl, rfl⟩, by decide, by decide⟩
theorem wm_704 : (Jvm.Cond.methodLink "StoryStates$Engine" (183 : Nat) ({ cls := "StoryStates$Engine", name := "putInto", desc := "(II)Z" } : Jvm.MethodName)) ∈ sTB := sMem 704 (by decide +kernel) rfl
theorem wm_707 : (Jvm.Cond.code ({ cls := "StoryStates$Engine", name := "putInto", desc := "(II)Z" } : Jvm.MethodName) prog_6_method_14_code (3 : Nat) (Option.some Jvm.ClassFile.FieldType.boolean)) ∈ sTB := sMem 707 (by decide +kernel) rfl
theorem cw_E_actWithoutRule_75 : sCw "StoryStates$Engine" 183 y_E_putInto prog_6_method_14_code 3 (some .boolean) rm_E_putInto rm_E_actWithoutRule 2 := ⟨Or.inl wm_704, wm_2, wm_707, by decide, by decide +kernel, ⟨rfl, rfl⟩, by decide, by decide⟩
theorem wm_706 : (Jvm.Cond.instanceMethod ({ cls := "StoryStates$Engine", name := "putInto", desc := "(II)Z" } : Jvm.MethodName)) ∈ sTB := sMem 706 (by decide +kernel) rfl
theorem ws_E_putInto : Jvm.Cond.selects "StoryStates$Engine" ({ cls := "StoryStates$Engine", name := "putInto", desc := "(II)Z" } : Jvm.MethodName) ({ cls := "StoryStates$Engine", name := "putInto", desc := "(II)Z" } : Jvm.MethodName) ∈ sTB := sSel 5 ({ cls := "StoryStates$Engine", name := "putInto", desc := "(II)Z" } : Jvm.MethodName) (by decide +kernel) rfl
theorem wm_610 : (Jvm.Cond.methodLink "StoryStates$Engine" (33 : Nat) ({ cls := "StoryStates$Engine", name := "fittingRule", desc := "(III)I" } : Jvm.MethodName)) ∈ sTB := sMem 610 (by decide +kernel) rfl
theorem wm_613 : (Jvm.Cond.code ({ cls := "StoryStates$Engine", name := "fittingRule", desc := "(III)I" } : Jvm.MethodName) prog_6_method_3_code (5 : Nat) (Option.some Jvm.ClassFile.FieldType.int)) ∈ sTB := sMem 613 (by decide +kernel) rfl
theorem cw_E_take_21 : sCw "StoryStates$Engine" 33 y_E_fittingRule prog_6_method_3_code 5 (some .int) rm_E_fittingRule rm_E_take 3 := ⟨Or.inl wm_610, wm_2, wm_613, by decide, by decide +kernel, ⟨rfl, rfl⟩, by decide, by decide⟩
theorem wm_612 : (Jvm.Cond.instanceMethod ({ cls := "StoryStates$Engine", name := "fittingRule", desc := "(III)I" } : Jvm.MethodName)) ∈ sTB := sMem 612 (by decide +kernel) rfl
theorem ws_E_fittingRule : Jvm.Cond.selects "StoryStates$Engine" ({ cls := "StoryStates$Engine", name := "fittingRule", desc := "(III)I" } : Jvm.MethodName) ({ cls := "StoryStates$Engine", name := "fittingRule", desc := "(III)I" } : Jvm.MethodName) ∈ sTB := sSel 5 ({ cls := "StoryStates$Engine", name := "fittingRule", desc := "(III)I" } : Jvm.MethodName) (by decide +kernel) rfl
theorem wm_684 : (Jvm.Cond.methodLink "StoryStates$Engine" (41 : Nat) ({ cls := "StoryStates$Engine", name := "actWithoutRule", desc := "(III)Z" } : Jvm.MethodName)) ∈ sTB := sMem 684 (by decide +kernel) rfl
theorem wm_687 : (Jvm.Cond.code ({ cls := "StoryStates$Engine", name := "actWithoutRule", desc := "(III)Z" } : Jvm.MethodName) prog_6_method_9_code (4 : Nat) (Option.some Jvm.ClassFile.FieldType.boolean)) ∈ sTB := sMem 687 (by decide +kernel) rfl
theorem cw_E_take_48 : sCw "StoryStates$Engine" 41 y_E_actWithoutRule prog_6_method_9_code 4 (some .boolean) rm_E_actWithoutRule rm_E_take 3 := ⟨Or.inl wm_684, wm_2, wm_687, by decide, by decide +kernel, ⟨rfl, rfl⟩, by decide, by decide⟩
theorem wm_686 : (Jvm.Cond.instanceMethod ({ cls := "StoryStates$Engine", name := "actWithoutRule", desc := "(III)Z" } : Jvm.MethodName)) ∈ sTB := sMem 686 (by decide +kernel) rfl
theorem ws_E_actWithoutRule : Jvm.Cond.selects "StoryStates$Engine" ({ cls := "StoryStates$Engine", name := "actWithoutRule", desc := "(III)Z" } : Jvm.MethodName) ({ cls := "StoryStates$Engine", name := "actWithoutRule", desc := "(III)Z" } : Jvm.MethodName) ∈ sTB := sSel 5 ({ cls := "StoryStates$Engine", name := "actWithoutRule", desc := "(III)Z" } : Jvm.MethodName) (by decide +kernel) rfl
theorem wm_653 : (Jvm.Cond.methodLink "StoryStates$Engine" (37 : Nat) ({ cls := "StoryStates$Engine", name := "doRule", desc := "(I)V" } : Jvm.MethodName)) ∈ sTB := sMem 653 (by decide +kernel) rfl
theorem wm_656 : (Jvm.Cond.code ({ cls := "StoryStates$Engine", name := "doRule", desc := "(I)V" } : Jvm.MethodName) prog_6_method_7_code (5 : Nat) (Option.none : Option Jvm.ClassFile.FieldType)) ∈ sTB := sMem 656 (by decide +kernel) rfl
theorem cw_E_take_35 : sCw "StoryStates$Engine" 37 y_E_doRule prog_6_method_7_code 5 none rm_E_doRule rm_E_take 1 := ⟨Or.inl wm_653, wm_2, wm_656, by decide, by decide +kernel, ⟨rfl, rfl⟩, by decide, by decide⟩
theorem wm_655 : (Jvm.Cond.instanceMethod ({ cls := "StoryStates$Engine", name := "doRule", desc := "(I)V" } : Jvm.MethodName)) ∈ sTB := sMem 655 (by decide +kernel) rfl
theorem ws_E_doRule : Jvm.Cond.selects "StoryStates$Engine" ({ cls := "StoryStates$Engine", name := "doRule", desc := "(I)V" } : Jvm.MethodName) ({ cls := "StoryStates$Engine", name := "doRule", desc := "(I)V" } : Jvm.MethodName) ∈ sTB := sSel 5 ({ cls := "StoryStates$Engine", name := "doRule", desc := "(I)V" } : Jvm.MethodName) (by decide +kernel) rfl
theorem cw_E_take_63 : sCw "StoryStates$Engine" 45 y_E_say prog_6_method_17_code 2 none rm_E_say rm_E_take 1 := ⟨Or.inl wm_657, wm_2, wm_660, by decide, by decide +kernel, ⟨rfl, rfl⟩, by decide, by decide⟩
theorem cw_E_take_70 : sCw "StoryStates$Engine" 48 y_B_isOver prog_3_method_14_code 2 (some .boolean) rm_B_isOver rm_E_take 1 := ⟨Or.inl wm_661, wm_8, wm_602, by decide, by decide +kernel, ⟨rfl, rfl⟩, by decide, by decide⟩
theorem wm_708 : (Jvm.Cond.methodLink "StoryStates$Engine" (54 : Nat) ({ cls := "StoryStates$Engine", name := "stepWalkers", desc := "()V" } : Jvm.MethodName)) ∈ sTB := sMem 708 (by decide +kernel) rfl
theorem wm_711 : (Jvm.Cond.code ({ cls := "StoryStates$Engine", name := "stepWalkers", desc := "()V" } : Jvm.MethodName) prog_6_method_15_code (5 : Nat) (Option.none : Option Jvm.ClassFile.FieldType)) ∈ sTB := sMem 711 (by decide +kernel) rfl
theorem cw_E_take_77 : sCw "StoryStates$Engine" 54 y_E_stepWalkers prog_6_method_15_code 5 none rm_E_stepWalkers rm_E_take 0 := ⟨Or.inl wm_708, wm_2, wm_711, by decide, by decide +kernel, ⟨rfl, rfl⟩, by decide, by decide⟩
theorem wm_710 : (Jvm.Cond.instanceMethod ({ cls := "StoryStates$Engine", name := "stepWalkers", desc := "()V" } : Jvm.MethodName)) ∈ sTB := sMem 710 (by decide +kernel) rfl
theorem ws_E_stepWalkers : Jvm.Cond.selects "StoryStates$Engine" ({ cls := "StoryStates$Engine", name := "stepWalkers", desc := "()V" } : Jvm.MethodName) ({ cls := "StoryStates$Engine", name := "stepWalkers", desc := "()V" } : Jvm.MethodName) ∈ sTB := sSel 5 ({ cls := "StoryStates$Engine", name := "stepWalkers", desc := "()V" } : Jvm.MethodName) (by decide +kernel) rfl
theorem wm_139 : (Jvm.Cond.fieldLink "StoryStates$Engine" (57 : Nat) "StoryStates$World" "timers" "I") ∈ sTB := sMem 139 (by decide +kernel) rfl
theorem gf_c_E_57_2 : sGf Zc "StoryStates$Engine" 57 2 17 none := ⟨2, 18, _, "StoryStates$World", T_c2, rfl, rfl, rfl, by decide, Or.inl wm_139, rfl, us_c2⟩
theorem cw_E_take_99 : sCw "StoryStates$Engine" 48 y_B_isOver prog_3_method_14_code 2 (some .boolean) rm_B_isOver rm_E_take 1 := ⟨Or.inl wm_661, wm_8, wm_602, by decide, by decide +kernel, ⟨rfl, rfl⟩, by decide, by decide⟩
theorem wm_125 : (Jvm.Cond.fieldLink "StoryStates$Engine" (60 : Nat) "StoryStates$World" "timerRules" "[I") ∈ sTB := sMem 125 (by decide +kernel) rfl
theorem gf_c_E_60_2 : sGf Zc "StoryStates$Engine" 60 2 10 (some (some 19)) := ⟨2, 18, _, "StoryStates$World", T_c2, rfl, rfl, rfl, by decide, Or.inl wm_125, rfl, us_c2⟩
theorem wm_718 : (Jvm.Cond.methodLink "StoryStates$Engine" (63 : Nat) ({ cls := "StoryStates$Engine", name := "runsOut", desc := "(I)Z" } : Jvm.MethodName)) ∈ sTB := sMem 718 (by decide +kernel) rfl
theorem wm_721 : (Jvm.Cond.code ({ cls := "StoryStates$Engine", name := "runsOut", desc := "(I)Z" } : Jvm.MethodName) prog_6_method_16_code (3 : Nat) (Option.some Jvm.ClassFile.FieldType.boolean)) ∈ sTB := sMem 721 (by decide +kernel) rfl
theorem cw_E_take_120 : sCw "StoryStates$Engine" 63 y_E_runsOut prog_6_method_16_code 3 (some .boolean) rm_E_runsOut rm_E_take 1 := ⟨Or.inl wm_718, wm_2, wm_721, by decide, by decide +kernel, ⟨rfl, rfl⟩, by decide, by decide⟩
theorem wm_720 : (Jvm.Cond.instanceMethod ({ cls := "StoryStates$Engine", name := "runsOut", desc := "(I)Z" } : Jvm.MethodName)) ∈ sTB := sMem 720 (by decide +kernel) rfl
theorem ws_E_runsOut : Jvm.Cond.selects "StoryStates$Engine" ({ cls := "StoryStates$Engine", name := "runsOut", desc := "(I)Z" } : Jvm.MethodName) ({ cls := "StoryStates$Engine", name := "runsOut", desc := "(I)Z" } : Jvm.MethodName) ∈ sTB := sSel 5 ({ cls := "StoryStates$Engine", name := "runsOut", desc := "(I)Z" } : Jvm.MethodName) (by decide +kernel) rfl
theorem cw_E_take_129 : sCw "StoryStates$Engine" 67 y_E_conditionsHold prog_6_method_5_code 5 (some .boolean) rm_E_conditionsHold rm_E_take 1 := ⟨Or.inl wm_634, wm_2, wm_637, by decide, by decide +kernel, ⟨rfl, rfl⟩, by decide, by decide⟩
theorem cw_E_take_138 : sCw "StoryStates$Engine" 37 y_E_doRule prog_6_method_7_code 5 none rm_E_doRule rm_E_take 1 := ⟨Or.inl wm_653, wm_2, wm_656, by decide, by decide +kernel, ⟨rfl, rfl⟩, by decide, by decide⟩
theorem wm_215 : (Jvm.Cond.fieldLink "StoryStates$Atlas" (34 : Nat) "StoryStates$Atlas" "found" "I") ∈ sTB := sMem 215 (by decide +kernel) rfl
theorem pf_c_A_34_6 : sPf Zc "StoryStates$Atlas" 34 6 10 none .int := ⟨5, 12, _, "StoryStates$Atlas", T_c5, ty_c5, rfl, rfl, rfl, by decide, Or.inl wm_215, rfl, us_c5, tyok_c5, nm_c5, rfl, by decide +kernel⟩
theorem wm_214 : (Jvm.Cond.fieldLink "StoryStates$Atlas" (38 : Nat) "StoryStates$Atlas" "gone" "I") ∈ sTB := sMem 214 (by decide +kernel) rfl
theorem pf_c_A_38_6 : sPf Zc "StoryStates$Atlas" 38 6 9 none .int := ⟨5, 12, _, "StoryStates$Atlas", T_c5, ty_c5, rfl, rfl, rfl, by decide, Or.inl wm_214, rfl, us_c5, tyok_c5, nm_c5, rfl, by decide +kernel⟩
theorem wm_217 : (Jvm.Cond.fieldLink "StoryStates$Atlas" (41 : Nat) "StoryStates$Atlas" "limitMet" "Z") ∈ sTB := sMem 217 (by decide +kernel) rfl
theorem pf_c_A_41_6 : sPf Zc "StoryStates$Atlas" 41 6 11 none .boolean := ⟨5, 12, _, "StoryStates$Atlas", T_c5, ty_c5, rfl, rfl, rfl, by decide, Or.inl wm_217, rfl, us_c5, tyok_c5, nm_c5, rfl, by decide +kernel⟩
theorem wm_213 : (Jvm.Cond.fieldLink "StoryStates$Atlas" (45 : Nat) "StoryStates$Atlas" "rulesDone" "I") ∈ sTB := sMem 213 (by decide +kernel) rfl
theorem pf_c_A_45_6 : sPf Zc "StoryStates$Atlas" 45 6 8 none .int := ⟨5, 12, _, "StoryStates$Atlas", T_c5, ty_c5, rfl, rfl, rfl, by decide, Or.inl wm_213, rfl, us_c5, tyok_c5, nm_c5, rfl, by decide +kernel⟩
theorem wm_206 : (Jvm.Cond.fieldLink "StoryStates$Atlas" (72 : Nat) "StoryStates$Atlas" "codeCount" "I") ∈ sTB := sMem 206 (by decide +kernel) rfl
theorem pf_c_A_72_6 : sPf Zc "StoryStates$Atlas" 72 6 1 none .int := ⟨5, 12, _, "StoryStates$Atlas", T_c5, ty_c5, rfl, rfl, rfl, by decide, Or.inl wm_206, rfl, us_c5, tyok_c5, nm_c5, rfl, by decide +kernel⟩
theorem gf_c_A_72_6 : sGf Zc "StoryStates$Atlas" 72 6 1 none := ⟨5, 12, _, "StoryStates$Atlas", T_c5, rfl, rfl, rfl, by decide, Or.inl wm_206, rfl, us_c5⟩
theorem wm_767 : (Jvm.Cond.methodLink "StoryStates$Atlas" (75 : Nat) ({ cls := "StoryStates$World", name := "hasCommand", desc := "(III)Z" } : Jvm.MethodName)) ∈ sTB := sMem 767 (by decide +kernel) rfl
theorem wm_599 : (Jvm.Cond.code ({ cls := "StoryStates$World", name := "hasCommand", desc := "(III)Z" } : Jvm.MethodName) prog_8_method_10_code (4 : Nat) (Option.some Jvm.ClassFile.FieldType.boolean)) ∈ sTB := sMem 599 (by decide +kernel) rfl
theorem cw_A_listCommands_46 : sCw "StoryStates$Atlas" 75 y_W_hasCommand prog_8_method_10_code 4 (some .boolean) rm_W_hasCommand rm_A_listCommands 3 := ⟨Or.inl wm_767, wm_3, wm_599, by decide, by decide +kernel, ⟨rfl, rfl⟩, by decide, by decide⟩
theorem wm_597 : (Jvm.Cond.instanceMethod ({ cls := "StoryStates$World", name := "hasCommand", desc := "(III)Z" } : Jvm.MethodName)) ∈ sTB := sMem 597 (by decide +kernel) rfl
theorem wm_598 : (Jvm.Cond.selects "StoryStates$World" ({ cls := "StoryStates$World", name := "hasCommand", desc := "(III)Z" } : Jvm.MethodName) ({ cls := "StoryStates$World", name := "hasCommand", desc := "(III)Z" } : Jvm.MethodName)) ∈ sTB := sMem 598 (by decide +kernel) rfl
theorem wm_205 : (Jvm.Cond.fieldLink "StoryStates$Atlas" (11 : Nat) "StoryStates$Atlas" "codes" "[I") ∈ sTB := sMem 205 (by decide +kernel) rfl
theorem gf_c_A_11_6 : sGf Zc "StoryStates$Atlas" 11 6 0 (some (some 34)) := ⟨5, 12, _, "StoryStates$Atlas", T_c5, rfl, rfl, rfl, by decide, Or.inl wm_205, rfl, us_c5⟩
theorem wm_768 : (Jvm.Cond.methodLink "StoryStates$Atlas" (79 : Nat) ({ cls := "StoryStates$Code", name := "of", desc := "(III)I" } : Jvm.MethodName)) ∈ sTB := sMem 768 (by decide +kernel) rfl
theorem wm_18 : (Jvm.Cond.initialized "StoryStates$Code") ∈ sTB := sMem 18 (by decide +kernel) rfl
theorem wm_770 : (Jvm.Cond.code ({ cls := "StoryStates$Code", name := "of", desc := "(III)I" } : Jvm.MethodName) prog_5_method_2_code (3 : Nat) (Option.some Jvm.ClassFile.FieldType.int)) ∈ sTB := sMem 770 (by decide +kernel) rfl
theorem cw_A_listCommands_64 : sCw "StoryStates$Atlas" 79 y_D_of prog_5_method_2_code 3 (some .int) rm_D_of rm_A_listCommands 3 := ⟨Or.inl wm_768, wm_18, wm_770, by decide, by decide +kernel, ⟨rfl, rfl⟩, by decide, by decide⟩
theorem wm_769 : (Jvm.Cond.static ({ cls := "StoryStates$Code", name := "of", desc := "(III)I" } : Jvm.MethodName)) ∈ sTB := sMem 769 (by decide +kernel) rfl
theorem wm_776 : (Jvm.Cond.constantLong "StoryStates$Atlas" (130 : Nat) (-7046029254386353131 : Int64)) ∈ sTB := sMem 776 (by decide +kernel) rfl
theorem wm_210 : (Jvm.Cond.fieldLink "StoryStates$Atlas" (25 : Nat) "StoryStates$Atlas" "slots" "[I") ∈ sTB := sMem 210 (by decide +kernel) rfl
theorem gf_c_A_25_6 : sGf Zc "StoryStates$Atlas" 25 6 5 (some (some 38)) := ⟨5, 12, _, "StoryStates$Atlas", T_c5, rfl, rfl, rfl, by decide, Or.inl wm_210, rfl, us_c5⟩
theorem wm_207 : (Jvm.Cond.fieldLink "StoryStates$Atlas" (15 : Nat) "StoryStates$Atlas" "states" "[J") ∈ sTB := sMem 207 (by decide +kernel) rfl
theorem gf_c_A_15_6 : sGf Zc "StoryStates$Atlas" 15 6 2 (some (some 35)) := ⟨5, 12, _, "StoryStates$Atlas", T_c5, rfl, rfl, rfl, by decide, Or.inl wm_207, rfl, us_c5⟩
theorem gf_c_A_34_6 : sGf Zc "StoryStates$Atlas" 34 6 10 none := ⟨5, 12, _, "StoryStates$Atlas", T_c5, rfl, rfl, rfl, by decide, Or.inl wm_215, rfl, us_c5⟩
theorem wm_208 : (Jvm.Cond.fieldLink "StoryStates$Atlas" (19 : Nat) "StoryStates$Atlas" "origins" "[I") ∈ sTB := sMem 208 (by decide +kernel) rfl
theorem gf_c_A_19_6 : sGf Zc "StoryStates$Atlas" 19 6 3 (some (some 36)) := ⟨5, 12, _, "StoryStates$Atlas", T_c5, rfl, rfl, rfl, by decide, Or.inl wm_208, rfl, us_c5⟩
theorem wm_209 : (Jvm.Cond.fieldLink "StoryStates$Atlas" (22 : Nat) "StoryStates$Atlas" "codesHere" "[I") ∈ sTB := sMem 209 (by decide +kernel) rfl
theorem gf_c_A_22_6 : sGf Zc "StoryStates$Atlas" 22 6 4 (some (some 37)) := ⟨5, 12, _, "StoryStates$Atlas", T_c5, rfl, rfl, rfl, by decide, Or.inl wm_209, rfl, us_c5⟩
theorem wm_211 : (Jvm.Cond.fieldLink "StoryStates$Atlas" (28 : Nat) "StoryStates$Atlas" "leads" "[J") ∈ sTB := sMem 211 (by decide +kernel) rfl
theorem gf_c_A_28_6 : sGf Zc "StoryStates$Atlas" 28 6 6 (some (some 39)) := ⟨5, 12, _, "StoryStates$Atlas", T_c5, rfl, rfl, rfl, by decide, Or.inl wm_211, rfl, us_c5⟩
theorem wm_760 : (Jvm.Cond.methodLink "StoryStates$Atlas" (48 : Nat) ({ cls := "java/util/Arrays", name := "fill", desc := "([II)V" } : Jvm.MethodName)) ∈ sTB := sMem 760 (by decide +kernel) rfl
theorem wm_17 : (Jvm.Cond.initialized "java/util/Arrays") ∈ sTB := sMem 17 (by decide +kernel) rfl
theorem wm_762 : (Jvm.Cond.code ({ cls := "java/util/Arrays", name := "fill", desc := "([II)V" } : Jvm.MethodName) prog_19_method_103_code (4 : Nat) (Option.none : Option Jvm.ClassFile.FieldType)) ∈ sTB := sMem 762 (by decide +kernel) rfl
theorem cw_A_opn_5 : sCw "StoryStates$Atlas" 48 y_U_fill prog_19_method_103_code 4 none rm_U_fill rm_A_opn 2 := ⟨Or.inl wm_760, wm_17, wm_762, by decide, by decide +kernel, ⟨rfl, rfl⟩, by decide, by decide⟩
theorem wm_761 : (Jvm.Cond.static ({ cls := "java/util/Arrays", name := "fill", desc := "([II)V" } : Jvm.MethodName)) ∈ sTB := sMem 761 (by decide +kernel) rfl
theorem wm_763 : (Jvm.Cond.methodLink "StoryStates$Atlas" (54 : Nat) ({ cls := "StoryStates$Atlas", name := "listCommands", desc := "(LStoryStates$World;)V" } : Jvm.MethodName)) ∈ sTB := sMem 763 (by decide +kernel) rfl
theorem wm_6 : (Jvm.Cond.initialized "StoryStates$Atlas") ∈ sTB := sMem 6 (by decide +kernel) rfl
theorem wm_766 : (Jvm.Cond.code ({ cls := "StoryStates$Atlas", name := "listCommands", desc := "(LStoryStates$World;)V" } : Jvm.MethodName) prog_2_method_4_code (5 : Nat) (Option.none : Option Jvm.ClassFile.FieldType)) ∈ sTB := sMem 766 (by decide +kernel) rfl
theorem cw_A_opn_10 : sCw "StoryStates$Atlas" 54 y_A_listCommands prog_2_method_4_code 5 none rm_A_listCommands rm_A_opn 1 := ⟨Or.inl wm_763, wm_6, wm_766, by decide, by decide +kernel, ⟨rfl, rfl⟩, by decide, by decide⟩
theorem wm_765 : (Jvm.Cond.instanceMethod ({ cls := "StoryStates$Atlas", name := "listCommands", desc := "(LStoryStates$World;)V" } : Jvm.MethodName)) ∈ sTB := sMem 765 (by decide +kernel) rfl
theorem ws_A_listCommands : Jvm.Cond.selects "StoryStates$Atlas" ({ cls := "StoryStates$Atlas", name := "listCommands", desc := "(LStoryStates$World;)V" } : Jvm.MethodName) ({ cls := "StoryStates$Atlas", name := "listCommands", desc := "(LStoryStates$World;)V" } : Jvm.MethodName) ∈ sTB := sSel 12 ({ cls := "StoryStates$Atlas", name := "listCommands", desc := "(LStoryStates$World;)V" } : Jvm.MethodName) (by decide +kernel) rfl
theorem wm_771 : (Jvm.Cond.methodLink "StoryStates$Atlas" (58 : Nat) ({ cls := "StoryStates$World", name := "firstState", desc := "()J" } : Jvm.MethodName)) ∈ sTB := sMem 771 (by decide +kernel) rfl
theorem wm_286 : (Jvm.Cond.code ({ cls := "StoryStates$World", name := "firstState", desc := "()J" } : Jvm.MethodName) prog_8_method_19_code (4 : Nat) (Option.some Jvm.ClassFile.FieldType.long)) ∈ sTB := sMem 286 (by decide +kernel) rfl
theorem cw_A_opn_14 : sCw "StoryStates$Atlas" 58 y_W_firstState prog_8_method_19_code 4 (some .long) rm_W_firstState rm_A_opn 0 := ⟨Or.inl wm_771, wm_3, wm_286, by decide, by decide +kernel, ⟨rfl, rfl⟩, by decide, by decide⟩
theorem wm_284 : (Jvm.Cond.instanceMethod ({ cls := "StoryStates$World", name := "firstState", desc := "()J" } : Jvm.MethodName)) ∈ sTB := sMem 284 (by decide +kernel) rfl
theorem wm_285 : (Jvm.Cond.selects "StoryStates$World" ({ cls := "StoryStates$World", name := "firstState", desc := "()J" } : Jvm.MethodName) ({ cls := "StoryStates$World", name := "firstState", desc := "()J" } : Jvm.MethodName)) ∈ sTB := sMem 285 (by decide +kernel) rfl
theorem wm_772 : (Jvm.Cond.methodLink "StoryStates$Atlas" (64 : Nat) ({ cls := "StoryStates$Atlas", name := "slotOf", desc := "(J)I" } : Jvm.MethodName)) ∈ sTB := sMem 772 (by decide +kernel) rfl
theorem wm_775 : (Jvm.Cond.code ({ cls := "StoryStates$Atlas", name := "slotOf", desc := "(J)I" } : Jvm.MethodName) prog_2_method_10_code (5 : Nat) (Option.some Jvm.ClassFile.FieldType.int)) ∈ sTB := sMem 775 (by decide +kernel) rfl
theorem cw_A_opn_22 : sCw "StoryStates$Atlas" 64 y_A_slotOf prog_2_method_10_code 5 (some .int) rm_A_slotOf rm_A_opn 1 := ⟨Or.inl wm_772, wm_6, wm_775, by decide, by decide +kernel, ⟨rfl, rfl⟩, by decide, by decide⟩
theorem wm_774 : (Jvm.Cond.instanceMethod ({ cls := "StoryStates$Atlas", name := "slotOf", desc := "(J)I" } : Jvm.MethodName)) ∈ sTB := sMem 774 (by decide +kernel) rfl
theorem ws_A_slotOf : Jvm.Cond.selects "StoryStates$Atlas" ({ cls := "StoryStates$Atlas", name := "slotOf", desc := "(J)I" } : Jvm.MethodName) ({ cls := "StoryStates$Atlas", name := "slotOf", desc := "(J)I" } : Jvm.MethodName) ∈ sTB := sSel 12 ({ cls := "StoryStates$Atlas", name := "slotOf", desc := "(J)I" } : Jvm.MethodName) (by decide +kernel) rfl
theorem wm_777 : (Jvm.Cond.methodLink "StoryStates$Atlas" (68 : Nat) ({ cls := "StoryStates$Atlas", name := "append", desc := "(JIII)V" } : Jvm.MethodName)) ∈ sTB := sMem 777 (by decide +kernel) rfl
theorem wm_780 : (Jvm.Cond.code ({ cls := "StoryStates$Atlas", name := "append", desc := "(JIII)V" } : Jvm.MethodName) prog_2_method_9_code (7 : Nat) (Option.none : Option Jvm.ClassFile.FieldType)) ∈ sTB := sMem 780 (by decide +kernel) rfl
theorem cw_A_opn_27 : sCw "StoryStates$Atlas" 68 y_A_append prog_2_method_9_code 7 none rm_A_append rm_A_opn 4 := ⟨Or.inl wm_777, wm_6, wm_780, by decide, by decide +kernel, ⟨rfl, rfl⟩, by decide, by decide⟩
theorem wm_779 : (Jvm.Cond.instanceMethod ({ cls := "StoryStates$Atlas", name := "append", desc := "(JIII)V" } : Jvm.MethodName)) ∈ sTB := sMem 779 (by decide +kernel) rfl
theorem ws_A_append : Jvm.Cond.selects "StoryStates$Atlas" ({ cls := "StoryStates$Atlas", name := "append", desc := "(JIII)V" } : Jvm.MethodName) ({ cls := "StoryStates$Atlas", name := "append", desc := "(JIII)V" } : Jvm.MethodName) ∈ sTB := sSel 12 ({ cls := "StoryStates$Atlas", name := "append", desc := "(JIII)V" } : Jvm.MethodName) (by decide +kernel) rfl
theorem gf_c_A_38_6 : sGf Zc "StoryStates$Atlas" 38 6 9 none := ⟨5, 12, _, "StoryStates$Atlas", T_c5, rfl, rfl, rfl, by decide, Or.inl wm_214, rfl, us_c5⟩
theorem gf_c_A_41_6 : sGf Zc "StoryStates$Atlas" 41 6 11 none := ⟨5, 12, _, "StoryStates$Atlas", T_c5, rfl, rfl, rfl, by decide, Or.inl wm_217, rfl, us_c5⟩
theorem cw_A_note_2 : sCw "StoryStates$Atlas" 64 y_A_slotOf prog_2_method_10_code 5 (some .int) rm_A_slotOf rm_A_note 1 := ⟨Or.inl wm_772, wm_6, wm_775, by decide, by decide +kernel, ⟨rfl, rfl⟩, by decide, by decide⟩
theorem cw_A_note_42 : sCw "StoryStates$Atlas" 68 y_A_append prog_2_method_9_code 7 none rm_A_append rm_A_note 4 := ⟨Or.inl wm_777, wm_6, wm_780, by decide, by decide +kernel, ⟨rfl, rfl⟩, by decide, by decide⟩
theorem wm_805 : (Jvm.Cond.methodLink "StoryStates$Atlas" (126 : Nat) ({ cls := "StoryStates$Atlas", name := "addTo", desc := "([JII)V" } : Jvm.MethodName)) ∈ sTB := sMem 805 (by decide +kernel) rfl
theorem wm_807 : (Jvm.Cond.code ({ cls := "StoryStates$Atlas", name := "addTo", desc := "([JII)V" } : Jvm.MethodName) prog_2_method_15_code (3 : Nat) (Option.none : Option Jvm.ClassFile.FieldType)) ∈ sTB := sMem 807 (by decide +kernel) rfl
theorem cw_A_note_64 : sCw "StoryStates$Atlas" 126 y_A_addTo prog_2_method_15_code 3 none rm_A_addTo rm_A_note 3 := ⟨Or.inl wm_805, wm_6, wm_807, by decide, by decide +kernel, ⟨rfl, rfl⟩, by decide, by decide⟩
theorem wm_806 : (Jvm.Cond.static ({ cls := "StoryStates$Atlas", name := "addTo", desc := "([JII)V" } : Jvm.MethodName)) ∈ sTB := sMem 806 (by decide +kernel) rfl
theorem wm_212 : (Jvm.Cond.fieldLink "StoryStates$Atlas" (31 : Nat) "StoryStates$Atlas" "hopeful" "[J") ∈ sTB := sMem 212 (by decide +kernel) rfl
theorem gf_c_A_31_6 : sGf Zc "StoryStates$Atlas" 31 6 7 (some (some 40)) := ⟨5, 12, _, "StoryStates$Atlas", T_c5, rfl, rfl, rfl, by decide, Or.inl wm_212, rfl, us_c5⟩
theorem wm_827 : (Jvm.Cond.methodLink "StoryStates$Atlas" (146 : Nat) ({ cls := "StoryStates$Bits", name := "endingOf", desc := "(J)I" } : Jvm.MethodName)) ∈ sTB := sMem 827 (by decide +kernel) rfl
theorem cw_A_isWon_6 : sCw "StoryStates$Atlas" 146 y_B_endingOf prog_3_method_15_code 2 (some .int) rm_B_endingOf rm_A_isWon 1 := ⟨Or.inl wm_827, wm_8, wm_605, by decide, by decide +kernel, ⟨rfl, rfl⟩, by decide, by decide⟩
theorem wm_828 : (Jvm.Cond.methodLink "StoryStates$Atlas" (149 : Nat) ({ cls := "StoryStates$World", name := "hasEnding", desc := "(I)Z" } : Jvm.MethodName)) ∈ sTB := sMem 828 (by decide +kernel) rfl
theorem wm_552 : (Jvm.Cond.code ({ cls := "StoryStates$World", name := "hasEnding", desc := "(I)Z" } : Jvm.MethodName) prog_8_method_6_code (2 : Nat) (Option.some Jvm.ClassFile.FieldType.boolean)) ∈ sTB := sMem 552 (by decide +kernel) rfl
theorem cw_A_isWon_12 : sCw "StoryStates$Atlas" 149 y_W_hasEnding prog_8_method_6_code 2 (some .boolean) rm_W_hasEnding rm_A_isWon 1 := ⟨Or.inl wm_828, wm_3, wm_552, by decide, by decide +kernel, ⟨rfl, rfl⟩, by decide, by decide⟩
theorem wm_550 : (Jvm.Cond.instanceMethod ({ cls := "StoryStates$World", name := "hasEnding", desc := "(I)Z" } : Jvm.MethodName)) ∈ sTB := sMem 550 (by decide +kernel) rfl
theorem wm_551 : (Jvm.Cond.selects "StoryStates$World" ({ cls := "StoryStates$World", name := "hasEnding", desc := "(I)Z" } : Jvm.MethodName) ({ cls := "StoryStates$World", name := "hasEnding", desc := "(I)Z" } : Jvm.MethodName)) ∈ sTB := sMem 551 (by decide +kernel) rfl
theorem wm_116 : (Jvm.Cond.fieldLink "StoryStates$Atlas" (152 : Nat) "StoryStates$World" "isGood" "[Z") ∈ sTB := sMem 116 (by decide +kernel) rfl
theorem gf_c_A_152_2 : sGf Zc "StoryStates$Atlas" 152 2 6 (some (some 16)) := ⟨2, 18, _, "StoryStates$World", T_c2, rfl, rfl, rfl, by decide, Or.inl wm_116, rfl, us_c2⟩
theorem wm_816 : (Jvm.Cond.methodLink "StoryStates$Atlas" (132 : Nat) ({ cls := "java/util/Arrays", name := "fill", desc := "([JJ)V" } : Jvm.MethodName)) ∈ sTB := sMem 816 (by decide +kernel) rfl
theorem wm_818 : (Jvm.Cond.code ({ cls := "java/util/Arrays", name := "fill", desc := "([JJ)V" } : Jvm.MethodName) prog_19_method_101_code (5 : Nat) (Option.none : Option Jvm.ClassFile.FieldType)) ∈ sTB := sMem 818 (by decide +kernel) rfl
theorem cw_A_findHope_5 : sCw "StoryStates$Atlas" 132 y_U_fillL prog_19_method_101_code 5 none rm_U_fillL rm_A_findHope 2 := ⟨Or.inl wm_816, wm_17, wm_818, by decide, by decide +kernel, ⟨rfl, rfl⟩, by decide, by decide⟩
theorem wm_817 : (Jvm.Cond.static ({ cls := "java/util/Arrays", name := "fill", desc := "([JJ)V" } : Jvm.MethodName)) ∈ sTB := sMem 817 (by decide +kernel) rfl
theorem wm_819 : (Jvm.Cond.methodLink "StoryStates$Atlas" (135 : Nat) ({ cls := "StoryStates$Atlas", name := "isHopeful", desc := "(I)Z" } : Jvm.MethodName)) ∈ sTB := sMem 819 (by decide +kernel) rfl
theorem wm_822 : (Jvm.Cond.code ({ cls := "StoryStates$Atlas", name := "isHopeful", desc := "(I)Z" } : Jvm.MethodName) prog_2_method_14_code (2 : Nat) (Option.some Jvm.ClassFile.FieldType.boolean)) ∈ sTB := sMem 822 (by decide +kernel) rfl
theorem cw_A_findHope_41 : sCw "StoryStates$Atlas" 135 y_A_isHopeful prog_2_method_14_code 2 (some .boolean) rm_A_isHopeful rm_A_findHope 1 := ⟨Or.inl wm_819, wm_6, wm_822, by decide, by decide +kernel, ⟨rfl, rfl⟩, by decide, by decide⟩
theorem wm_821 : (Jvm.Cond.instanceMethod ({ cls := "StoryStates$Atlas", name := "isHopeful", desc := "(I)Z" } : Jvm.MethodName)) ∈ sTB := sMem 821 (by decide +kernel) rfl
theorem ws_A_isHopeful : Jvm.Cond.selects "StoryStates$Atlas" ({ cls := "StoryStates$Atlas", name := "isHopeful", desc := "(I)Z" } : Jvm.MethodName) ({ cls := "StoryStates$Atlas", name := "isHopeful", desc := "(I)Z" } : Jvm.MethodName) ∈ sTB := sSel 12 ({ cls := "StoryStates$Atlas", name := "isHopeful", desc := "(I)Z" } : Jvm.MethodName) (by decide +kernel) rfl
theorem wm_823 : (Jvm.Cond.methodLink "StoryStates$Atlas" (139 : Nat) ({ cls := "StoryStates$Atlas", name := "isWon", desc := "(ILStoryStates$World;)Z" } : Jvm.MethodName)) ∈ sTB := sMem 823 (by decide +kernel) rfl
theorem wm_826 : (Jvm.Cond.code ({ cls := "StoryStates$Atlas", name := "isWon", desc := "(ILStoryStates$World;)Z" } : Jvm.MethodName) prog_2_method_12_code (4 : Nat) (Option.some Jvm.ClassFile.FieldType.boolean)) ∈ sTB := sMem 826 (by decide +kernel) rfl
theorem cw_A_findHope_51 : sCw "StoryStates$Atlas" 139 y_A_isWon prog_2_method_12_code 4 (some .boolean) rm_A_isWon rm_A_findHope 2 := ⟨Or.inl wm_823, wm_6, wm_826, by decide, by decide +kernel, ⟨rfl, rfl⟩, by decide, by decide⟩
theorem wm_825 : (Jvm.Cond.instanceMethod ({ cls := "StoryStates$Atlas", name := "isWon", desc := "(ILStoryStates$World;)Z" } : Jvm.MethodName)) ∈ sTB := sMem 825 (by decide +kernel) rfl
theorem ws_A_isWon : Jvm.Cond.selects "StoryStates$Atlas" ({ cls := "StoryStates$Atlas", name := "isWon", desc := "(ILStoryStates$World;)Z" } : Jvm.MethodName) ({ cls := "StoryStates$Atlas", name := "isWon", desc := "(ILStoryStates$World;)Z" } : Jvm.MethodName) ∈ sTB := sSel 12 ({ cls := "StoryStates$Atlas", name := "isWon", desc := "(ILStoryStates$World;)Z" } : Jvm.MethodName) (by decide +kernel) rfl
theorem wm_829 : (Jvm.Cond.methodLink "StoryStates$Atlas" (143 : Nat) ({ cls := "StoryStates$Atlas", name := "leadsToHope", desc := "(I)Z" } : Jvm.MethodName)) ∈ sTB := sMem 829 (by decide +kernel) rfl
theorem wm_832 : (Jvm.Cond.code ({ cls := "StoryStates$Atlas", name := "leadsToHope", desc := "(I)Z" } : Jvm.MethodName) prog_2_method_13_code (3 : Nat) (Option.some Jvm.ClassFile.FieldType.boolean)) ∈ sTB := sMem 832 (by decide +kernel) rfl
theorem cw_A_findHope_60 : sCw "StoryStates$Atlas" 143 y_A_leadsToHope prog_2_method_13_code 3 (some .boolean) rm_A_leadsToHope rm_A_findHope 1 := ⟨Or.inl wm_829, wm_6, wm_832, by decide, by decide +kernel, ⟨rfl, rfl⟩, by decide, by decide⟩
theorem wm_831 : (Jvm.Cond.instanceMethod ({ cls := "StoryStates$Atlas", name := "leadsToHope", desc := "(I)Z" } : Jvm.MethodName)) ∈ sTB := sMem 831 (by decide +kernel) rfl
theorem ws_A_leadsToHope : Jvm.Cond.selects "StoryStates$Atlas" ({ cls := "StoryStates$Atlas", name := "leadsToHope", desc := "(I)Z" } : Jvm.MethodName) ({ cls := "StoryStates$Atlas", name := "leadsToHope", desc := "(I)Z" } : Jvm.MethodName) ∈ sTB := sSel 12 ({ cls := "StoryStates$Atlas", name := "leadsToHope", desc := "(I)Z" } : Jvm.MethodName) (by decide +kernel) rfl
theorem cw_A_findHope_73 : sCw "StoryStates$Atlas" 126 y_A_addTo prog_2_method_15_code 3 none rm_A_addTo_1 rm_A_findHope 3 := ⟨Or.inl wm_805, wm_6, wm_807, by decide, by decide +kernel, ⟨rfl, rfl⟩, by decide, by decide⟩
theorem wm_789 : (Jvm.Cond.methodLink "StoryStates$Atlas" (85 : Nat) ({ cls := "StoryStates$Atlas", name := "hasMore", desc := "()Z" } : Jvm.MethodName)) ∈ sTB := sMem 789 (by decide +kernel) rfl
theorem wm_784 : (Jvm.Cond.code ({ cls := "StoryStates$Atlas", name := "hasMore", desc := "()Z" } : Jvm.MethodName) prog_2_method_5_code (1 : Nat) (Option.some Jvm.ClassFile.FieldType.boolean)) ∈ sTB := sMem 784 (by decide +kernel) rfl
theorem cw_A_goThroughNext_1 : sCw "StoryStates$Atlas" 85 y_A_hasMore prog_2_method_5_code 1 (some .boolean) rm_A_hasMore rm_A_goThroughNext 0 := ⟨Or.inl wm_789, wm_6, wm_784, by decide, by decide +kernel, ⟨rfl, rfl⟩, by decide, by decide⟩
theorem wm_782 : (Jvm.Cond.instanceMethod ({ cls := "StoryStates$Atlas", name := "hasMore", desc := "()Z" } : Jvm.MethodName)) ∈ sTB := sMem 782 (by decide +kernel) rfl
theorem wm_783 : (Jvm.Cond.selects "StoryStates$Atlas" ({ cls := "StoryStates$Atlas", name := "hasMore", desc := "()Z" } : Jvm.MethodName) ({ cls := "StoryStates$Atlas", name := "hasMore", desc := "()Z" } : Jvm.MethodName)) ∈ sTB := sMem 783 (by decide +kernel) rfl
theorem wm_790 : (Jvm.Cond.methodLink "StoryStates$Atlas" (89 : Nat) ({ cls := "StoryStates$Bits", name := "isOver", desc := "(J)Z" } : Jvm.MethodName)) ∈ sTB := sMem 790 (by decide +kernel) rfl
theorem cw_A_goThroughNext_19 : sCw "StoryStates$Atlas" 89 y_B_isOver prog_3_method_14_code 2 (some .boolean) rm_B_isOver rm_A_goThroughNext 1 := ⟨Or.inl wm_790, wm_8, wm_602, by decide, by decide +kernel, ⟨rfl, rfl⟩, by decide, by decide⟩
theorem wm_791 : (Jvm.Cond.methodLink "StoryStates$Atlas" (95 : Nat) ({ cls := "StoryStates$Code", name := "verbOf", desc := "(I)I" } : Jvm.MethodName)) ∈ sTB := sMem 791 (by decide +kernel) rfl
theorem wm_793 : (Jvm.Cond.code ({ cls := "StoryStates$Code", name := "verbOf", desc := "(I)I" } : Jvm.MethodName) prog_5_method_3_code (1 : Nat) (Option.some Jvm.ClassFile.FieldType.int)) ∈ sTB := sMem 793 (by decide +kernel) rfl
theorem cw_A_goThroughNext_65 : sCw "StoryStates$Atlas" 95 y_D_verbOf prog_5_method_3_code 1 (some .int) rm_D_verbOf rm_A_goThroughNext 1 := ⟨Or.inl wm_791, wm_18, wm_793, by decide, by decide +kernel, ⟨rfl, rfl⟩, by decide, by decide⟩
theorem wm_792 : (Jvm.Cond.static ({ cls := "StoryStates$Code", name := "verbOf", desc := "(I)I" } : Jvm.MethodName)) ∈ sTB := sMem 792 (by decide +kernel) rfl
theorem wm_794 : (Jvm.Cond.methodLink "StoryStates$Atlas" (99 : Nat) ({ cls := "StoryStates$Code", name := "firstOf", desc := "(I)I" } : Jvm.MethodName)) ∈ sTB := sMem 794 (by decide +kernel) rfl
theorem wm_796 : (Jvm.Cond.code ({ cls := "StoryStates$Code", name := "firstOf", desc := "(I)I" } : Jvm.MethodName) prog_5_method_4_code (1 : Nat) (Option.some Jvm.ClassFile.FieldType.int)) ∈ sTB := sMem 796 (by decide +kernel) rfl
theorem cw_A_goThroughNext_70 : sCw "StoryStates$Atlas" 99 y_D_firstOf prog_5_method_4_code 1 (some .int) rm_D_firstOf rm_A_goThroughNext 1 := ⟨Or.inl wm_794, wm_18, wm_796, by decide, by decide +kernel, ⟨rfl, rfl⟩, by decide, by decide⟩
theorem wm_795 : (Jvm.Cond.static ({ cls := "StoryStates$Code", name := "firstOf", desc := "(I)I" } : Jvm.MethodName)) ∈ sTB := sMem 795 (by decide +kernel) rfl
theorem wm_797 : (Jvm.Cond.methodLink "StoryStates$Atlas" (102 : Nat) ({ cls := "StoryStates$Code", name := "secondOf", desc := "(I)I" } : Jvm.MethodName)) ∈ sTB := sMem 797 (by decide +kernel) rfl
theorem wm_799 : (Jvm.Cond.code ({ cls := "StoryStates$Code", name := "secondOf", desc := "(I)I" } : Jvm.MethodName) prog_5_method_5_code (1 : Nat) (Option.some Jvm.ClassFile.FieldType.int)) ∈ sTB := sMem 799 (by decide +kernel) rfl
theorem cw_A_goThroughNext_75 : sCw "StoryStates$Atlas" 102 y_D_secondOf prog_5_method_5_code 1 (some .int) rm_D_secondOf rm_A_goThroughNext 1 := ⟨Or.inl wm_797, wm_18, wm_799, by decide, by decide +kernel, ⟨rfl, rfl⟩, by decide, by decide⟩
theorem wm_798 : (Jvm.Cond.static ({ cls := "StoryStates$Code", name := "secondOf", desc := "(I)I" } : Jvm.MethodName)) ∈ sTB := sMem 798 (by decide +kernel) rfl
theorem wm_800 : (Jvm.Cond.methodLink "StoryStates$Atlas" (105 : Nat) ({ cls := "StoryStates$Engine", name := "take", desc := "(JIII)J" } : Jvm.MethodName)) ∈ sTB := sMem 800 (by decide +kernel) rfl
theorem wm_609 : (Jvm.Cond.code ({ cls := "StoryStates$Engine", name := "take", desc := "(JIII)J" } : Jvm.MethodName) prog_6_method_2_code (9 : Nat) (Option.some Jvm.ClassFile.FieldType.long)) ∈ sTB := sMem 609 (by decide +kernel) rfl
theorem cw_A_goThroughNext_78 : sCw "StoryStates$Atlas" 105 y_E_take prog_6_method_2_code 9 (some .long) rm_E_take rm_A_goThroughNext 4 := ⟨Or.inl wm_800, wm_2, wm_609, by decide, by decide +kernel, ⟨rfl, rfl⟩, by decide, by decide⟩
theorem wm_607 : (Jvm.Cond.instanceMethod ({ cls := "StoryStates$Engine", name := "take", desc := "(JIII)J" } : Jvm.MethodName)) ∈ sTB := sMem 607 (by decide +kernel) rfl
theorem wm_608 : (Jvm.Cond.selects "StoryStates$Engine" ({ cls := "StoryStates$Engine", name := "take", desc := "(JIII)J" } : Jvm.MethodName) ({ cls := "StoryStates$Engine", name := "take", desc := "(JIII)J" } : Jvm.MethodName)) ∈ sTB := sMem 608 (by decide +kernel) rfl
theorem gf_c_A_45_6 : sGf Zc "StoryStates$Atlas" 45 6 8 none := ⟨5, 12, _, "StoryStates$Atlas", T_c5, rfl, rfl, rfl, by decide, Or.inl wm_213, rfl, us_c5⟩
theorem wm_186 : (Jvm.Cond.fieldLink "StoryStates$Atlas" (111 : Nat) "StoryStates$Engine" "rulesDone" "I") ∈ sTB := sMem 186 (by decide +kernel) rfl
theorem gf_c_A_111_1 : sGf Zc "StoryStates$Atlas" 111 1 3 none := ⟨1, 5, _, "StoryStates$Engine", T_c1, rfl, rfl, rfl, by decide, Or.inl wm_186, rfl, us_c1⟩
theorem wm_801 : (Jvm.Cond.methodLink "StoryStates$Atlas" (112 : Nat) ({ cls := "StoryStates$Atlas", name := "note", desc := "(JI)V" } : Jvm.MethodName)) ∈ sTB := sMem 801 (by decide +kernel) rfl
theorem wm_804 : (Jvm.Cond.code ({ cls := "StoryStates$Atlas", name := "note", desc := "(JI)V" } : Jvm.MethodName) prog_2_method_8_code (5 : Nat) (Option.none : Option Jvm.ClassFile.FieldType)) ∈ sTB := sMem 804 (by decide +kernel) rfl
theorem cw_A_goThroughNext_101 : sCw "StoryStates$Atlas" 112 y_A_note prog_2_method_8_code 5 none rm_A_note rm_A_goThroughNext 2 := ⟨Or.inl wm_801, wm_6, wm_804, by decide, by decide +kernel, ⟨rfl, rfl⟩, by decide, by decide⟩
theorem wm_803 : (Jvm.Cond.instanceMethod ({ cls := "StoryStates$Atlas", name := "note", desc := "(JI)V" } : Jvm.MethodName)) ∈ sTB := sMem 803 (by decide +kernel) rfl
theorem ws_A_note : Jvm.Cond.selects "StoryStates$Atlas" ({ cls := "StoryStates$Atlas", name := "note", desc := "(JI)V" } : Jvm.MethodName) ({ cls := "StoryStates$Atlas", name := "note", desc := "(JI)V" } : Jvm.MethodName) ∈ sTB := sSel 12 ({ cls := "StoryStates$Atlas", name := "note", desc := "(JI)V" } : Jvm.MethodName) (by decide +kernel) rfl
theorem wm_808 : (Jvm.Cond.methodLink "StoryStates$Atlas" (116 : Nat) ({ cls := "StoryStates$Atlas", name := "isFinished", desc := "()Z" } : Jvm.MethodName)) ∈ sTB := sMem 808 (by decide +kernel) rfl
theorem wm_811 : (Jvm.Cond.code ({ cls := "StoryStates$Atlas", name := "isFinished", desc := "()Z" } : Jvm.MethodName) prog_2_method_6_code (1 : Nat) (Option.some Jvm.ClassFile.FieldType.boolean)) ∈ sTB := sMem 811 (by decide +kernel) rfl
theorem cw_A_goThroughNext_128 : sCw "StoryStates$Atlas" 116 y_A_isFinished prog_2_method_6_code 1 (some .boolean) rm_A_isFinished rm_A_goThroughNext 0 := ⟨Or.inl wm_808, wm_6, wm_811, by decide, by decide +kernel, ⟨rfl, rfl⟩, by decide, by decide⟩
theorem wm_809 : (Jvm.Cond.instanceMethod ({ cls := "StoryStates$Atlas", name := "isFinished", desc := "()Z" } : Jvm.MethodName)) ∈ sTB := sMem 809 (by decide +kernel) rfl
theorem wm_810 : (Jvm.Cond.selects "StoryStates$Atlas" ({ cls := "StoryStates$Atlas", name := "isFinished", desc := "()Z" } : Jvm.MethodName) ({ cls := "StoryStates$Atlas", name := "isFinished", desc := "()Z" } : Jvm.MethodName)) ∈ sTB := sMem 810 (by decide +kernel) rfl
theorem wm_180 : (Jvm.Cond.fieldLink "StoryStates$Atlas" (119 : Nat) "StoryStates$Engine" "world" "LStoryStates$World;") ∈ sTB := sMem 180 (by decide +kernel) rfl
theorem gf_c_A_119_1 : sGf Zc "StoryStates$Atlas" 119 1 0 (some (some 2)) := ⟨1, 5, _, "StoryStates$Engine", T_c1, rfl, rfl, rfl, by decide, Or.inl wm_180, rfl, us_c1⟩
theorem wm_812 : (Jvm.Cond.methodLink "StoryStates$Atlas" (123 : Nat) ({ cls := "StoryStates$Atlas", name := "findHope", desc := "(LStoryStates$World;)V" } : Jvm.MethodName)) ∈ sTB := sMem 812 (by decide +kernel) rfl
theorem wm_815 : (Jvm.Cond.code ({ cls := "StoryStates$Atlas", name := "findHope", desc := "(LStoryStates$World;)V" } : Jvm.MethodName) prog_2_method_11_code (5 : Nat) (Option.none : Option Jvm.ClassFile.FieldType)) ∈ sTB := sMem 815 (by decide +kernel) rfl
theorem cw_A_goThroughNext_139 : sCw "StoryStates$Atlas" 123 y_A_findHope prog_2_method_11_code 5 none rm_A_findHope rm_A_goThroughNext 1 := ⟨Or.inl wm_812, wm_6, wm_815, by decide, by decide +kernel, ⟨rfl, rfl⟩, by decide, by decide⟩
theorem wm_814 : (Jvm.Cond.instanceMethod ({ cls := "StoryStates$Atlas", name := "findHope", desc := "(LStoryStates$World;)V" } : Jvm.MethodName)) ∈ sTB := sMem 814 (by decide +kernel) rfl
theorem ws_A_findHope : Jvm.Cond.selects "StoryStates$Atlas" ({ cls := "StoryStates$Atlas", name := "findHope", desc := "(LStoryStates$World;)V" } : Jvm.MethodName) ({ cls := "StoryStates$Atlas", name := "findHope", desc := "(LStoryStates$World;)V" } : Jvm.MethodName) ∈ sTB := sSel 12 ({ cls := "StoryStates$Atlas", name := "findHope", desc := "(LStoryStates$World;)V" } : Jvm.MethodName) (by decide +kernel) rfl
theorem cw_A_isHopeless_6 : sCw "StoryStates$Atlas" 64 y_A_slotOf prog_2_method_10_code 5 (some .int) rm_A_slotOf rm_A_isHopeless 1 := ⟨Or.inl wm_772, wm_6, wm_775, by decide, by decide +kernel, ⟨rfl, rfl⟩, by decide, by decide⟩
theorem cw_A_isHopeless_20 : sCw "StoryStates$Atlas" 135 y_A_isHopeful prog_2_method_14_code 2 (some .boolean) rm_A_isHopeful rm_A_isHopeless 1 := ⟨Or.inl wm_819, wm_6, wm_822, by decide, by decide +kernel, ⟨rfl, rfl⟩, by decide, by decide⟩
theorem cw_A_countStuck_18 : sCw "StoryStates$Atlas" 89 y_B_isOver prog_3_method_14_code 2 (some .boolean) rm_B_isOver rm_A_countStuck 1 := ⟨Or.inl wm_790, wm_8, wm_602, by decide, by decide +kernel, ⟨rfl, rfl⟩, by decide, by decide⟩
theorem wm_884 : (Jvm.Cond.methodLink "StoryStates$Atlas" (156 : Nat) ({ cls := "StoryStates$Atlas", name := "leadsOnlyToItself", desc := "(I)Z" } : Jvm.MethodName)) ∈ sTB := sMem 884 (by decide +kernel) rfl
theorem wm_887 : (Jvm.Cond.code ({ cls := "StoryStates$Atlas", name := "leadsOnlyToItself", desc := "(I)Z" } : Jvm.MethodName) prog_2_method_18_code (5 : Nat) (Option.some Jvm.ClassFile.FieldType.boolean)) ∈ sTB := sMem 887 (by decide +kernel) rfl
theorem cw_A_countStuck_26 : sCw "StoryStates$Atlas" 156 y_A_leadsOnlyToItself prog_2_method_18_code 5 (some .boolean) rm_A_leadsOnlyToItself rm_A_countStuck 1 := ⟨Or.inl wm_884, wm_6, wm_887, by decide, by decide +kernel, ⟨rfl, rfl⟩, by decide, by decide⟩
theorem wm_886 : (Jvm.Cond.instanceMethod ({ cls := "StoryStates$Atlas", name := "leadsOnlyToItself", desc := "(I)Z" } : Jvm.MethodName)) ∈ sTB := sMem 886 (by decide +kernel) rfl
theorem ws_A_leadsOnlyToItself : Jvm.Cond.selects "StoryStates$Atlas" ({ cls := "StoryStates$Atlas", name := "leadsOnlyToItself", desc := "(I)Z" } : Jvm.MethodName) ({ cls := "StoryStates$Atlas", name := "leadsOnlyToItself", desc := "(I)Z" } : Jvm.MethodName) ∈ sTB := sSel 12 ({ cls := "StoryStates$Atlas", name := "leadsOnlyToItself", desc := "(I)Z" } : Jvm.MethodName) (by decide +kernel) rfl
theorem cw_A_firstOverWith_16 : sCw "StoryStates$Atlas" 146 y_B_endingOf prog_3_method_15_code 2 (some .int) rm_B_endingOf rm_A_firstOverWith 1 := ⟨Or.inl wm_827, wm_8, wm_605, by decide, by decide +kernel, ⟨rfl, rfl⟩, by decide, by decide⟩
theorem wm_860 : (Jvm.Cond.methodLink "StoryStates$Atlas" (159 : Nat) ({ cls := "StoryStates$Atlas", name := "depthOf", desc := "(I)I" } : Jvm.MethodName)) ∈ sTB := sMem 860 (by decide +kernel) rfl
theorem wm_848 : (Jvm.Cond.code ({ cls := "StoryStates$Atlas", name := "depthOf", desc := "(I)I" } : Jvm.MethodName) prog_2_method_21_code (4 : Nat) (Option.some Jvm.ClassFile.FieldType.int)) ∈ sTB := sMem 848 (by decide +kernel) rfl
theorem cw_A_codeOnWay_4 : sCw "StoryStates$Atlas" 159 y_A_depthOf prog_2_method_21_code 4 (some .int) rm_A_depthOf rm_A_codeOnWay 1 := ⟨Or.inl wm_860, wm_6, wm_848, by decide, by decide +kernel, ⟨rfl, rfl⟩, by decide, by decide⟩
theorem wm_846 : (Jvm.Cond.instanceMethod ({ cls := "StoryStates$Atlas", name := "depthOf", desc := "(I)I" } : Jvm.MethodName)) ∈ sTB := sMem 846 (by decide +kernel) rfl
theorem wm_847 : (Jvm.Cond.selects "StoryStates$Atlas" ({ cls := "StoryStates$Atlas", name := "depthOf", desc := "(I)I" } : Jvm.MethodName) ({ cls := "StoryStates$Atlas", name := "depthOf", desc := "(I)I" } : Jvm.MethodName)) ∈ sTB := sMem 847 (by decide +kernel) rfl
theorem wm_248 : (Jvm.Cond.fieldLink "StoryStates" (28 : Nat) "StoryStates" "line" "[J") ∈ sTB := sMem 248 (by decide +kernel) rfl
theorem gf_c_S_28_0 : sGf Zc "StoryStates" 28 0 3 (some (some 7)) := ⟨0, 7, _, "StoryStates", T_c0, rfl, rfl, rfl, by decide, Or.inl wm_248, rfl, us_c0⟩
theorem wm_246 : (Jvm.Cond.fieldLink "StoryStates" (20 : Nat) "StoryStates" "world" "LStoryStates$World;") ∈ sTB := sMem 246 (by decide +kernel) rfl
theorem gf_c_S_20_0 : sGf Zc "StoryStates" 20 0 1 (some (some 2)) := ⟨0, 7, _, "StoryStates", T_c0, rfl, rfl, rfl, by decide, Or.inl wm_246, rfl, us_c0⟩
theorem wm_283 : (Jvm.Cond.methodLink "StoryStates" (289 : Nat) ({ cls := "StoryStates$World", name := "firstState", desc := "()J" } : Jvm.MethodName)) ∈ sTB := sMem 283 (by decide +kernel) rfl
theorem cw_S_startPlay_9 : sCw "StoryStates" 289 y_W_firstState prog_8_method_19_code 4 (some .long) rm_W_firstState rm_S_startPlay 0 := ⟨Or.inl wm_283, wm_3, wm_286, by decide, by decide +kernel, ⟨rfl, rfl⟩, by decide, by decide⟩
theorem wm_250 : (Jvm.Cond.fieldLink "StoryStates" (36 : Nat) "StoryStates" "turns" "I") ∈ sTB := sMem 250 (by decide +kernel) rfl
theorem pf_c_S_36_0 : sPf Zc "StoryStates" 36 0 5 none .int := ⟨0, 7, _, "StoryStates", T_c0, ty_c0, rfl, rfl, rfl, by decide, Or.inl wm_250, rfl, us_c0, tyok_c0, nm_c0, rfl, by decide +kernel⟩
theorem wm_251 : (Jvm.Cond.fieldLink "StoryStates" (40 : Nat) "StoryStates" "textCount" "I") ∈ sTB := sMem 251 (by decide +kernel) rfl
theorem pf_c_S_40_0 : sPf Zc "StoryStates" 40 0 6 none .int := ⟨0, 7, _, "StoryStates", T_c0, ty_c0, rfl, rfl, rfl, by decide, Or.inl wm_251, rfl, us_c0, tyok_c0, nm_c0, rfl, by decide +kernel⟩
theorem wm_279 : (Jvm.Cond.methodLink "StoryStates" (172 : Nat) ({ cls := "StoryStates", name := "startPlay", desc := "()V" } : Jvm.MethodName)) ∈ sTB := sMem 279 (by decide +kernel) rfl
theorem wm_282 : (Jvm.Cond.code ({ cls := "StoryStates", name := "startPlay", desc := "()V" } : Jvm.MethodName) prog_1_method_24_code (1 : Nat) (Option.none : Option Jvm.ClassFile.FieldType)) ∈ sTB := sMem 282 (by decide +kernel) rfl
theorem cw_S_startAnew_1 : sCw "StoryStates" 172 y_S_startPlay prog_1_method_24_code 1 none rm_S_startPlay rm_S_startAnew 0 := ⟨Or.inl wm_279, wm_1, wm_282, by decide, by decide +kernel, ⟨rfl, rfl⟩, by decide, by decide⟩
theorem wm_281 : (Jvm.Cond.instanceMethod ({ cls := "StoryStates", name := "startPlay", desc := "()V" } : Jvm.MethodName)) ∈ sTB := sMem 281 (by decide +kernel) rfl
theorem ws_S_startPlay : Jvm.Cond.selects "StoryStates" ({ cls := "StoryStates", name := "startPlay", desc := "()V" } : Jvm.MethodName) ({ cls := "StoryStates", name := "startPlay", desc := "()V" } : Jvm.MethodName) ∈ sTB := sSel 7 ({ cls := "StoryStates", name := "startPlay", desc := "()V" } : Jvm.MethodName) (by decide +kernel) rfl
theorem wm_247 : (Jvm.Cond.fieldLink "StoryStates" (24 : Nat) "StoryStates" "atlas" "LStoryStates$Atlas;") ∈ sTB := sMem 247 (by decide +kernel) rfl
theorem gf_c_S_24_0 : sGf Zc "StoryStates" 24 0 2 (some (some 6)) := ⟨0, 7, _, "StoryStates", T_c0, rfl, rfl, rfl, by decide, Or.inl wm_247, rfl, us_c0⟩
theorem wm_303 : (Jvm.Cond.methodLink "StoryStates" (286 : Nat) ({ cls := "StoryStates$Atlas", name := "forget", desc := "()V" } : Jvm.MethodName)) ∈ sTB := sMem 303 (by decide +kernel) rfl
theorem wm_306 : (Jvm.Cond.code ({ cls := "StoryStates$Atlas", name := "forget", desc := "()V" } : Jvm.MethodName) prog_2_method_2_code (1 : Nat) (Option.none : Option Jvm.ClassFile.FieldType)) ∈ sTB := sMem 306 (by decide +kernel) rfl
theorem cw_S_startAnew_8 : sCw "StoryStates" 286 y_A_forget prog_2_method_2_code 1 none rm_A_forget rm_S_startAnew 0 := ⟨Or.inl wm_303, wm_6, wm_306, by decide, by decide +kernel, ⟨rfl, rfl⟩, by decide, by decide⟩
theorem wm_304 : (Jvm.Cond.instanceMethod ({ cls := "StoryStates$Atlas", name := "forget", desc := "()V" } : Jvm.MethodName)) ∈ sTB := sMem 304 (by decide +kernel) rfl
theorem wm_305 : (Jvm.Cond.selects "StoryStates$Atlas" ({ cls := "StoryStates$Atlas", name := "forget", desc := "()V" } : Jvm.MethodName) ({ cls := "StoryStates$Atlas", name := "forget", desc := "()V" } : Jvm.MethodName)) ∈ sTB := sMem 305 (by decide +kernel) rfl
theorem wm_414 : (Jvm.Cond.methodLink "StoryStates" (66 : Nat) ({ cls := "StoryStates$World", name := "hasThing", desc := "(I)Z" } : Jvm.MethodName)) ∈ sTB := sMem 414 (by decide +kernel) rfl
theorem cw_S_hasAsked_53 : sCw "StoryStates" 66 y_W_hasThing prog_8_method_4_code 2 (some .boolean) rm_W_hasThing rm_S_hasAsked 1 := ⟨Or.inl wm_414, wm_3, wm_417, by decide, by decide +kernel, ⟨rfl, rfl⟩, by decide, by decide⟩
theorem wm_740 : (Jvm.Cond.methodLink "StoryStates" (293 : Nat) ({ cls := "StoryStates$World", name := "hasNumber", desc := "(I)Z" } : Jvm.MethodName)) ∈ sTB := sMem 740 (by decide +kernel) rfl
theorem cw_S_hasAsked_62 : sCw "StoryStates" 293 y_W_hasNumber prog_8_method_5_code 2 (some .boolean) rm_W_hasNumber rm_S_hasAsked 1 := ⟨Or.inl wm_740, wm_3, wm_526, by decide, by decide +kernel, ⟨rfl, rfl⟩, by decide, by decide⟩
theorem wm_140 : (Jvm.Cond.fieldLink "StoryStates" (161 : Nat) "StoryStates$World" "timers" "I") ∈ sTB := sMem 140 (by decide +kernel) rfl
theorem gf_c_S_161_2 : sGf Zc "StoryStates" 161 2 17 none := ⟨2, 18, _, "StoryStates$World", T_c2, rfl, rfl, rfl, by decide, Or.inl wm_140, rfl, us_c2⟩
theorem wm_311 : (Jvm.Cond.methodLink "StoryStates" (72 : Nat) ({ cls := "StoryStates", name := "isFrom", desc := "(III)Z" } : Jvm.MethodName)) ∈ sTB := sMem 311 (by decide +kernel) rfl
theorem cw_S_hasAsked_77 : sCw "StoryStates" 72 y_S_isFrom prog_1_method_29_code 3 (some .boolean) rm_S_isFrom rm_S_hasAsked 3 := ⟨Or.inl wm_311, wm_1, wm_313, by decide, by decide +kernel, ⟨rfl, rfl⟩, by decide, by decide⟩
theorem wm_136 : (Jvm.Cond.fieldLink "StoryStates" (152 : Nat) "StoryStates$World" "walkers" "I") ∈ sTB := sMem 136 (by decide +kernel) rfl
theorem gf_c_S_152_2 : sGf Zc "StoryStates" 152 2 16 none := ⟨2, 18, _, "StoryStates$World", T_c2, rfl, rfl, rfl, by decide, Or.inl wm_136, rfl, us_c2⟩
theorem cw_S_hasAsked_92 : sCw "StoryStates" 72 y_S_isFrom prog_1_method_29_code 3 (some .boolean) rm_S_isFrom rm_S_hasAsked 3 := ⟨Or.inl wm_311, wm_1, wm_313, by decide, by decide +kernel, ⟨rfl, rfl⟩, by decide, by decide⟩
theorem gf_c_S_36_0 : sGf Zc "StoryStates" 36 0 5 none := ⟨0, 7, _, "StoryStates", T_c0, rfl, rfl, rfl, by decide, Or.inl wm_250, rfl, us_c0⟩
theorem wm_872 : (Jvm.Cond.methodLink "StoryStates" (274 : Nat) ({ cls := "StoryStates$Atlas", name := "isHopeless", desc := "(J)Z" } : Jvm.MethodName)) ∈ sTB := sMem 872 (by decide +kernel) rfl
theorem wm_875 : (Jvm.Cond.code ({ cls := "StoryStates$Atlas", name := "isHopeless", desc := "(J)Z" } : Jvm.MethodName) prog_2_method_16_code (4 : Nat) (Option.some Jvm.ClassFile.FieldType.boolean)) ∈ sTB := sMem 875 (by decide +kernel) rfl
theorem cw_S_spoilingTurn_13 : sCw "StoryStates" 274 y_A_isHopeless prog_2_method_16_code 4 (some .boolean) rm_A_isHopeless rm_S_spoilingTurn 1 := ⟨Or.inl wm_872, wm_6, wm_875, by decide, by decide +kernel, ⟨rfl, rfl⟩, by decide, by decide⟩
theorem wm_873 : (Jvm.Cond.instanceMethod ({ cls := "StoryStates$Atlas", name := "isHopeless", desc := "(J)Z" } : Jvm.MethodName)) ∈ sTB := sMem 873 (by decide +kernel) rfl
theorem wm_874 : (Jvm.Cond.selects "StoryStates$Atlas" ({ cls := "StoryStates$Atlas", name := "isHopeless", desc := "(J)Z" } : Jvm.MethodName) ({ cls := "StoryStates$Atlas", name := "isHopeless", desc := "(J)Z" } : Jvm.MethodName)) ∈ sTB := sMem 874 (by decide +kernel) rfl
theorem cw_S_spoilingTurn_42 : sCw "StoryStates" 274 y_A_isHopeless prog_2_method_16_code 4 (some .boolean) rm_A_isHopeless rm_S_spoilingTurn 1 := ⟨Or.inl wm_872, wm_6, wm_875, by decide, by decide +kernel, ⟨rfl, rfl⟩, by decide, by decide⟩
theorem cw_S_isThingKind_16 : sCw "StoryStates" 72 y_S_isFrom prog_1_method_29_code 3 (some .boolean) rm_S_isFrom rm_S_isThingKind 3 := ⟨Or.inl wm_311, wm_1, wm_313, by decide, by decide +kernel, ⟨rfl, rfl⟩, by decide, by decide⟩
theorem cw_S_isConditionLevel_31 : sCw "StoryStates" 72 y_S_isFrom prog_1_method_29_code 3 (some .boolean) rm_S_isFrom rm_S_isConditionLevel 3 := ⟨Or.inl wm_311, wm_1, wm_313, by decide, by decide +kernel, ⟨rfl, rfl⟩, by decide, by decide⟩
theorem cw_S_isConditionLevel_39 : sCw "StoryStates" 72 y_S_isFrom prog_1_method_29_code 3 (some .boolean) rm_S_isFrom rm_S_isConditionLevel 3 := ⟨Or.inl wm_311, wm_1, wm_313, by decide, by decide +kernel, ⟨rfl, rfl⟩, by decide, by decide⟩
theorem cw_S_isEffectLevel_31 : sCw "StoryStates" 72 y_S_isFrom prog_1_method_29_code 3 (some .boolean) rm_S_isFrom rm_S_isEffectLevel 3 := ⟨Or.inl wm_311, wm_1, wm_313, by decide, by decide +kernel, ⟨rfl, rfl⟩, by decide, by decide⟩
theorem cw_S_isEffectLevel_40 : sCw "StoryStates" 72 y_S_isFrom prog_1_method_29_code 3 (some .boolean) rm_S_isFrom rm_S_isEffectLevel 3 := ⟨Or.inl wm_311, wm_1, wm_313, by decide, by decide +kernel, ⟨rfl, rfl⟩, by decide, by decide⟩
theorem wm_271 : (Jvm.Cond.methodLink "StoryStates" (43 : Nat) ({ cls := "StoryStates$World", name := "becomeEmpty", desc := "()V" } : Jvm.MethodName)) ∈ sTB := sMem 271 (by decide +kernel) rfl
theorem wm_274 : (Jvm.Cond.code ({ cls := "StoryStates$World", name := "becomeEmpty", desc := "()V" } : Jvm.MethodName) prog_8_method_2_code (1 : Nat) (Option.none : Option Jvm.ClassFile.FieldType)) ∈ sTB := sMem 274 (by decide +kernel) rfl
theorem cw_S_clear_4 : sCw "StoryStates" 43 y_W_becomeEmpty prog_8_method_2_code 1 none rm_W_becomeEmpty rm_S_clear 0 := ⟨Or.inl wm_271, wm_3, wm_274, by decide, by decide +kernel, ⟨rfl, rfl⟩, by decide, by decide⟩
theorem wm_272 : (Jvm.Cond.instanceMethod ({ cls := "StoryStates$World", name := "becomeEmpty", desc := "()V" } : Jvm.MethodName)) ∈ sTB := sMem 272 (by decide +kernel) rfl
theorem wm_273 : (Jvm.Cond.selects "StoryStates$World" ({ cls := "StoryStates$World", name := "becomeEmpty", desc := "()V" } : Jvm.MethodName) ({ cls := "StoryStates$World", name := "becomeEmpty", desc := "()V" } : Jvm.MethodName)) ∈ sTB := sMem 273 (by decide +kernel) rfl
theorem wm_275 : (Jvm.Cond.methodLink "StoryStates" (48 : Nat) ({ cls := "StoryStates", name := "startAnew", desc := "()V" } : Jvm.MethodName)) ∈ sTB := sMem 275 (by decide +kernel) rfl
theorem wm_278 : (Jvm.Cond.code ({ cls := "StoryStates", name := "startAnew", desc := "()V" } : Jvm.MethodName) prog_1_method_23_code (1 : Nat) (Option.none : Option Jvm.ClassFile.FieldType)) ∈ sTB := sMem 278 (by decide +kernel) rfl
theorem cw_S_clear_8 : sCw "StoryStates" 48 y_S_startAnew prog_1_method_23_code 1 none rm_S_startAnew rm_S_clear 0 := ⟨Or.inl wm_275, wm_1, wm_278, by decide, by decide +kernel, ⟨rfl, rfl⟩, by decide, by decide⟩
theorem wm_277 : (Jvm.Cond.instanceMethod ({ cls := "StoryStates", name := "startAnew", desc := "()V" } : Jvm.MethodName)) ∈ sTB := sMem 277 (by decide +kernel) rfl
theorem ws_S_startAnew : Jvm.Cond.selects "StoryStates" ({ cls := "StoryStates", name := "startAnew", desc := "()V" } : Jvm.MethodName) ({ cls := "StoryStates", name := "startAnew", desc := "()V" } : Jvm.MethodName) ∈ sTB := sSel 7 ({ cls := "StoryStates", name := "startAnew", desc := "()V" } : Jvm.MethodName) (by decide +kernel) rfl
theorem gf_c_S_40_0 : sGf Zc "StoryStates" 40 0 6 none := ⟨0, 7, _, "StoryStates", T_c0, rfl, rfl, rfl, by decide, Or.inl wm_251, rfl, us_c0⟩
theorem cw_S_said_8 : sCw "StoryStates" 72 y_S_isFrom prog_1_method_29_code 3 (some .boolean) rm_S_isFrom rm_S_said 3 := ⟨Or.inl wm_311, wm_1, wm_313, by decide, by decide +kernel, ⟨rfl, rfl⟩, by decide, by decide⟩
theorem wm_249 : (Jvm.Cond.fieldLink "StoryStates" (32 : Nat) "StoryStates" "texts" "[I") ∈ sTB := sMem 249 (by decide +kernel) rfl
theorem gf_c_S_32_0 : sGf Zc "StoryStates" 32 0 4 (some (some 8)) := ⟨0, 7, _, "StoryStates", T_c0, rfl, rfl, rfl, by decide, Or.inl wm_249, rfl, us_c0⟩
end
section
theorem d_W_becomeEmpty_0 : decode prog_8_method_2_code 0 = .ok (.aload_n 0, 1) := by decide +kernel
theorem d_W_becomeEmpty_1 : decode prog_8_method_2_code 1 = .ok (.iconst 0, 1) := by decide +kernel
theorem d_W_becomeEmpty_2 : decode prog_8_method_2_code 2 = .ok (.putfield 53, 3) := by decide +kernel
theorem d_W_becomeEmpty_5 : decode prog_8_method_2_code 5 = .ok (.aload_n 0, 1) := by decide +kernel
theorem d_W_becomeEmpty_6 : decode prog_8_method_2_code 6 = .ok (.iconst 0, 1) := by decide +kernel
theorem d_W_becomeEmpty_7 : decode prog_8_method_2_code 7 = .ok (.putfield 57, 3) := by decide +kernel
theorem d_W_becomeEmpty_10 : decode prog_8_method_2_code 10 = .ok (.aload_n 0, 1) := by decide +kernel
theorem d_W_becomeEmpty_11 : decode prog_8_method_2_code 11 = .ok (.iconst 0, 1) := by decide +kernel
theorem d_W_becomeEmpty_12 : decode prog_8_method_2_code 12 = .ok (.putfield 60, 3) := by decide +kernel
theorem d_W_becomeEmpty_15 : decode prog_8_method_2_code 15 = .ok (.aload_n 0, 1) := by decide +kernel
theorem d_W_becomeEmpty_16 : decode prog_8_method_2_code 16 = .ok (.iconst 0, 1) := by decide +kernel
theorem d_W_becomeEmpty_17 : decode prog_8_method_2_code 17 = .ok (.putfield 63, 3) := by decide +kernel
theorem d_W_becomeEmpty_20 : decode prog_8_method_2_code 20 = .ok (.aload_n 0, 1) := by decide +kernel
theorem d_W_becomeEmpty_21 : decode prog_8_method_2_code 21 = .ok (.getfield 37, 3) := by decide +kernel
theorem d_W_becomeEmpty_24 : decode prog_8_method_2_code 24 = .ok (.iconst 0, 1) := by decide +kernel
theorem d_W_becomeEmpty_25 : decode prog_8_method_2_code 25 = .ok (.putfield 66, 3) := by decide +kernel
theorem d_W_becomeEmpty_28 : decode prog_8_method_2_code 28 = .ok (.aload_n 0, 1) := by decide +kernel
theorem d_W_becomeEmpty_29 : decode prog_8_method_2_code 29 = .ok (.iconst 0, 1) := by decide +kernel
theorem d_W_becomeEmpty_30 : decode prog_8_method_2_code 30 = .ok (.putfield 69, 3) := by decide +kernel
theorem d_W_becomeEmpty_33 : decode prog_8_method_2_code 33 = .ok (.aload_n 0, 1) := by decide +kernel
theorem d_W_becomeEmpty_34 : decode prog_8_method_2_code 34 = .ok (.iconst 0, 1) := by decide +kernel
theorem d_W_becomeEmpty_35 : decode prog_8_method_2_code 35 = .ok (.putfield 72, 3) := by decide +kernel
theorem d_W_becomeEmpty_38 : decode prog_8_method_2_code 38 = .ok (.return_, 1) := by decide +kernel
theorem d_S_isFrom_0 : decode prog_1_method_29_code 0 = .ok (.iload_n 0, 1) := by decide +kernel
theorem d_S_isFrom_1 : decode prog_1_method_29_code 1 = .ok (.iload_n 1, 1) := by decide +kernel
theorem d_S_isFrom_2 : decode prog_1_method_29_code 2 = .ok (.if_icmp .lt 12, 3) := by decide +kernel
theorem d_S_isFrom_14 : decode prog_1_method_29_code 14 = .ok (.iconst 0, 1) := by decide +kernel
theorem d_S_isFrom_15 : decode prog_1_method_29_code 15 = .ok (.ireturn, 1) := by decide +kernel
theorem d_S_isFrom_5 : decode prog_1_method_29_code 5 = .ok (.iload_n 0, 1) := by decide +kernel
theorem d_S_isFrom_6 : decode prog_1_method_29_code 6 = .ok (.iload_n 2, 1) := by decide +kernel
theorem d_S_isFrom_7 : decode prog_1_method_29_code 7 = .ok (.if_icmp .gt 7, 3) := by decide +kernel
theorem d_S_isFrom_10 : decode prog_1_method_29_code 10 = .ok (.iconst 1, 1) := by decide +kernel
theorem d_S_isFrom_11 : decode prog_1_method_29_code 11 = .ok (.goto 4, 3) := by decide +kernel
theorem d_W_hasRoom_0 : decode prog_8_method_3_code 0 = .ok (.iload_n 1, 1) := by decide +kernel
theorem d_W_hasRoom_1 : decode prog_8_method_3_code 1 = .ok (.iconst 0, 1) := by decide +kernel
theorem d_W_hasRoom_2 : decode prog_8_method_3_code 2 = .ok (.aload_n 0, 1) := by decide +kernel
theorem d_W_hasRoom_3 : decode prog_8_method_3_code 3 = .ok (.getfield 53, 3) := by decide +kernel
theorem d_W_hasRoom_6 : decode prog_8_method_3_code 6 = .ok (.iconst 1, 1) := by decide +kernel
theorem d_W_hasRoom_7 : decode prog_8_method_3_code 7 = .ok (.isub, 1) := by decide +kernel
theorem d_W_hasRoom_8 : decode prog_8_method_3_code 8 = .ok (.invokestatic 75, 3) := by decide +kernel
theorem d_W_hasRoom_11 : decode prog_8_method_3_code 11 = .ok (.ireturn, 1) := by decide +kernel
theorem d_W_hasThing_0 : decode prog_8_method_4_code 0 = .ok (.iload_n 1, 1) := by decide +kernel
theorem d_W_hasThing_1 : decode prog_8_method_4_code 1 = .ok (.iconst 0, 1) := by decide +kernel
theorem d_W_hasThing_2 : decode prog_8_method_4_code 2 = .ok (.aload_n 0, 1) := by decide +kernel
theorem d_W_hasThing_3 : decode prog_8_method_4_code 3 = .ok (.getfield 57, 3) := by decide +kernel
theorem d_W_hasThing_6 : decode prog_8_method_4_code 6 = .ok (.iconst 1, 1) := by decide +kernel
theorem d_W_hasThing_7 : decode prog_8_method_4_code 7 = .ok (.isub, 1) := by decide +kernel
theorem d_W_hasThing_8 : decode prog_8_method_4_code 8 = .ok (.invokestatic 75, 3) := by decide +kernel
theorem d_W_hasThing_11 : decode prog_8_method_4_code 11 = .ok (.ireturn, 1) := by decide +kernel
theorem d_W_hasNumber_0 : decode prog_8_method_5_code 0 = .ok (.iload_n 1, 1) := by decide +kernel
theorem d_W_hasNumber_1 : decode prog_8_method_5_code 1 = .ok (.iconst 0, 1) := by decide +kernel
theorem d_W_hasNumber_2 : decode prog_8_method_5_code 2 = .ok (.aload_n 0, 1) := by decide +kernel
theorem d_W_hasNumber_3 : decode prog_8_method_5_code 3 = .ok (.getfield 60, 3) := by decide +kernel
theorem d_W_hasNumber_6 : decode prog_8_method_5_code 6 = .ok (.iconst 1, 1) := by decide +kernel
theorem d_W_hasNumber_7 : decode prog_8_method_5_code 7 = .ok (.isub, 1) := by decide +kernel
theorem d_W_hasNumber_8 : decode prog_8_method_5_code 8 = .ok (.invokestatic 75, 3) := by decide +kernel
theorem d_W_hasNumber_11 : decode prog_8_method_5_code 11 = .ok (.ireturn, 1) := by decide +kernel
theorem d_W_hasEnding_0 : decode prog_8_method_6_code 0 = .ok (.iload_n 1, 1) := by decide +kernel
theorem d_W_hasEnding_1 : decode prog_8_method_6_code 1 = .ok (.iconst 0, 1) := by decide +kernel
theorem d_W_hasEnding_2 : decode prog_8_method_6_code 2 = .ok (.aload_n 0, 1) := by decide +kernel
theorem d_W_hasEnding_3 : decode prog_8_method_6_code 3 = .ok (.getfield 63, 3) := by decide +kernel
theorem d_W_hasEnding_6 : decode prog_8_method_6_code 6 = .ok (.iconst 1, 1) := by decide +kernel
theorem d_W_hasEnding_7 : decode prog_8_method_6_code 7 = .ok (.isub, 1) := by decide +kernel
theorem d_W_hasEnding_8 : decode prog_8_method_6_code 8 = .ok (.invokestatic 75, 3) := by decide +kernel
theorem d_W_hasEnding_11 : decode prog_8_method_6_code 11 = .ok (.ireturn, 1) := by decide +kernel
theorem d_W_hasRule_0 : decode prog_8_method_7_code 0 = .ok (.iload_n 1, 1) := by decide +kernel
theorem d_W_hasRule_1 : decode prog_8_method_7_code 1 = .ok (.iconst 0, 1) := by decide +kernel
theorem d_W_hasRule_2 : decode prog_8_method_7_code 2 = .ok (.aload_n 0, 1) := by decide +kernel
theorem d_W_hasRule_3 : decode prog_8_method_7_code 3 = .ok (.getfield 37, 3) := by decide +kernel
theorem d_W_hasRule_6 : decode prog_8_method_7_code 6 = .ok (.getfield 66, 3) := by decide +kernel
theorem d_W_hasRule_9 : decode prog_8_method_7_code 9 = .ok (.iconst 1, 1) := by decide +kernel
theorem d_W_hasRule_10 : decode prog_8_method_7_code 10 = .ok (.isub, 1) := by decide +kernel
theorem d_W_hasRule_11 : decode prog_8_method_7_code 11 = .ok (.invokestatic 75, 3) := by decide +kernel
theorem d_W_hasRule_14 : decode prog_8_method_7_code 14 = .ok (.ireturn, 1) := by decide +kernel
theorem d_W_hasPlace_0 : decode prog_8_method_8_code 0 = .ok (.aload_n 0, 1) := by decide +kernel
theorem d_W_hasPlace_1 : decode prog_8_method_8_code 1 = .ok (.iload_n 1, 1) := by decide +kernel
theorem d_W_hasPlace_2 : decode prog_8_method_8_code 2 = .ok (.invokevirtual 79, 3) := by decide +kernel
theorem d_W_hasPlace_5 : decode prog_8_method_8_code 5 = .ok (.ifCond .ne 21, 3) := by decide +kernel
theorem d_W_hasPlace_26 : decode prog_8_method_8_code 26 = .ok (.iconst 1, 1) := by decide +kernel
theorem d_W_hasPlace_27 : decode prog_8_method_8_code 27 = .ok (.goto 4, 3) := by decide +kernel
theorem d_W_hasPlace_31 : decode prog_8_method_8_code 31 = .ok (.ireturn, 1) := by decide +kernel
theorem d_W_hasPlace_8 : decode prog_8_method_8_code 8 = .ok (.iload_n 1, 1) := by decide +kernel
theorem d_W_hasPlace_9 : decode prog_8_method_8_code 9 = .ok (.bipush 6, 2) := by decide +kernel
theorem d_W_hasPlace_11 : decode prog_8_method_8_code 11 = .ok (.bipush 7, 2) := by decide +kernel
theorem d_W_hasPlace_13 : decode prog_8_method_8_code 13 = .ok (.aload_n 0, 1) := by decide +kernel
theorem d_W_hasPlace_14 : decode prog_8_method_8_code 14 = .ok (.getfield 57, 3) := by decide +kernel
theorem d_W_hasPlace_17 : decode prog_8_method_8_code 17 = .ok (.iadd, 1) := by decide +kernel
theorem d_W_hasPlace_18 : decode prog_8_method_8_code 18 = .ok (.iconst 1, 1) := by decide +kernel
theorem d_W_hasPlace_19 : decode prog_8_method_8_code 19 = .ok (.isub, 1) := by decide +kernel
theorem d_W_hasPlace_20 : decode prog_8_method_8_code 20 = .ok (.invokestatic 75, 3) := by decide +kernel
theorem d_W_hasPlace_23 : decode prog_8_method_8_code 23 = .ok (.ifCond .eq 7, 3) := by decide +kernel
theorem d_W_hasPlace_30 : decode prog_8_method_8_code 30 = .ok (.iconst 0, 1) := by decide +kernel
theorem d_W_hasSubject_0 : decode prog_8_method_9_code 0 = .ok (.iload_n 1, 1) := by decide +kernel
theorem d_W_hasSubject_1 : decode prog_8_method_9_code 1 = .ok (.tableswitch 39 0 2 #[27, 33, 33], 27) := by decide +kernel
theorem d_W_hasSubject_28 : decode prog_8_method_9_code 28 = .ok (.aload_n 0, 1) := by decide +kernel
theorem d_W_hasSubject_29 : decode prog_8_method_9_code 29 = .ok (.iload_n 2, 1) := by decide +kernel
theorem d_W_hasSubject_30 : decode prog_8_method_9_code 30 = .ok (.invokevirtual 79, 3) := by decide +kernel
theorem d_W_hasSubject_33 : decode prog_8_method_9_code 33 = .ok (.ireturn, 1) := by decide +kernel
theorem d_W_hasSubject_34 : decode prog_8_method_9_code 34 = .ok (.aload_n 0, 1) := by decide +kernel
theorem d_W_hasSubject_35 : decode prog_8_method_9_code 35 = .ok (.iload_n 2, 1) := by decide +kernel
theorem d_W_hasSubject_36 : decode prog_8_method_9_code 36 = .ok (.invokevirtual 83, 3) := by decide +kernel
theorem d_W_hasSubject_39 : decode prog_8_method_9_code 39 = .ok (.ireturn, 1) := by decide +kernel
theorem d_W_hasSubject_40 : decode prog_8_method_9_code 40 = .ok (.aload_n 0, 1) := by decide +kernel
theorem d_W_hasSubject_41 : decode prog_8_method_9_code 41 = .ok (.iload_n 2, 1) := by decide +kernel
theorem d_W_hasSubject_42 : decode prog_8_method_9_code 42 = .ok (.invokevirtual 86, 3) := by decide +kernel
theorem d_W_hasSubject_45 : decode prog_8_method_9_code 45 = .ok (.ireturn, 1) := by decide +kernel
theorem d_W_hasCommand_0 : decode prog_8_method_10_code 0 = .ok (.iload_n 1, 1) := by decide +kernel
theorem d_W_hasCommand_1 : decode prog_8_method_10_code 1 = .ok (.tableswitch 160 0 8 #[51, 71, 71, 71, 71, 90, 112, 128, 128], 51) := by decide +kernel
theorem d_W_hasCommand_52 : decode prog_8_method_10_code 52 = .ok (.iload_n 2, 1) := by decide +kernel
theorem d_W_hasCommand_53 : decode prog_8_method_10_code 53 = .ok (.iconst 0, 1) := by decide +kernel
theorem d_W_hasCommand_54 : decode prog_8_method_10_code 54 = .ok (.iconst 3, 1) := by decide +kernel
theorem d_W_hasCommand_55 : decode prog_8_method_10_code 55 = .ok (.invokestatic 75, 3) := by decide +kernel
theorem d_W_hasCommand_58 : decode prog_8_method_10_code 58 = .ok (.ifCond .eq 12, 3) := by decide +kernel
theorem d_W_hasCommand_70 : decode prog_8_method_10_code 70 = .ok (.iconst 0, 1) := by decide +kernel
theorem d_W_hasCommand_71 : decode prog_8_method_10_code 71 = .ok (.ireturn, 1) := by decide +kernel
theorem d_W_hasCommand_61 : decode prog_8_method_10_code 61 = .ok (.iload_n 3, 1) := by decide +kernel
theorem d_W_hasCommand_62 : decode prog_8_method_10_code 62 = .ok (.iconst (-1), 1) := by decide +kernel
theorem d_W_hasCommand_63 : decode prog_8_method_10_code 63 = .ok (.if_icmp .ne 7, 3) := by decide +kernel
theorem d_W_hasCommand_66 : decode prog_8_method_10_code 66 = .ok (.iconst 1, 1) := by decide +kernel
theorem d_W_hasCommand_67 : decode prog_8_method_10_code 67 = .ok (.goto 4, 3) := by decide +kernel
theorem d_W_hasCommand_72 : decode prog_8_method_10_code 72 = .ok (.aload_n 0, 1) := by decide +kernel
theorem d_W_hasCommand_73 : decode prog_8_method_10_code 73 = .ok (.iload_n 2, 1) := by decide +kernel
theorem d_W_hasCommand_74 : decode prog_8_method_10_code 74 = .ok (.invokevirtual 83, 3) := by decide +kernel
theorem d_W_hasCommand_77 : decode prog_8_method_10_code 77 = .ok (.ifCond .eq 12, 3) := by decide +kernel
theorem d_W_hasCommand_89 : decode prog_8_method_10_code 89 = .ok (.iconst 0, 1) := by decide +kernel
theorem d_W_hasCommand_90 : decode prog_8_method_10_code 90 = .ok (.ireturn, 1) := by decide +kernel
theorem d_W_hasCommand_80 : decode prog_8_method_10_code 80 = .ok (.iload_n 3, 1) := by decide +kernel
theorem d_W_hasCommand_81 : decode prog_8_method_10_code 81 = .ok (.iconst (-1), 1) := by decide +kernel
theorem d_W_hasCommand_82 : decode prog_8_method_10_code 82 = .ok (.if_icmp .ne 7, 3) := by decide +kernel
theorem d_W_hasCommand_85 : decode prog_8_method_10_code 85 = .ok (.iconst 1, 1) := by decide +kernel
theorem d_W_hasCommand_86 : decode prog_8_method_10_code 86 = .ok (.goto 4, 3) := by decide +kernel
theorem d_W_hasCommand_91 : decode prog_8_method_10_code 91 = .ok (.aload_n 0, 1) := by decide +kernel
theorem d_W_hasCommand_92 : decode prog_8_method_10_code 92 = .ok (.iload_n 2, 1) := by decide +kernel
theorem d_W_hasCommand_93 : decode prog_8_method_10_code 93 = .ok (.invokevirtual 83, 3) := by decide +kernel
theorem d_W_hasCommand_96 : decode prog_8_method_10_code 96 = .ok (.ifCond .eq 15, 3) := by decide +kernel
theorem d_W_hasCommand_111 : decode prog_8_method_10_code 111 = .ok (.iconst 0, 1) := by decide +kernel
theorem d_W_hasCommand_112 : decode prog_8_method_10_code 112 = .ok (.ireturn, 1) := by decide +kernel
theorem d_W_hasCommand_99 : decode prog_8_method_10_code 99 = .ok (.aload_n 0, 1) := by decide +kernel
theorem d_W_hasCommand_100 : decode prog_8_method_10_code 100 = .ok (.iload_n 3, 1) := by decide +kernel
theorem d_W_hasCommand_101 : decode prog_8_method_10_code 101 = .ok (.invokevirtual 83, 3) := by decide +kernel
theorem d_W_hasCommand_104 : decode prog_8_method_10_code 104 = .ok (.ifCond .eq 7, 3) := by decide +kernel
theorem d_W_hasCommand_107 : decode prog_8_method_10_code 107 = .ok (.iconst 1, 1) := by decide +kernel
theorem d_W_hasCommand_108 : decode prog_8_method_10_code 108 = .ok (.goto 4, 3) := by decide +kernel
theorem d_W_hasCommand_113 : decode prog_8_method_10_code 113 = .ok (.iload_n 2, 1) := by decide +kernel
theorem d_W_hasCommand_114 : decode prog_8_method_10_code 114 = .ok (.iconst (-1), 1) := by decide +kernel
theorem d_W_hasCommand_115 : decode prog_8_method_10_code 115 = .ok (.if_icmp .ne 12, 3) := by decide +kernel
theorem d_W_hasCommand_127 : decode prog_8_method_10_code 127 = .ok (.iconst 0, 1) := by decide +kernel
theorem d_W_hasCommand_128 : decode prog_8_method_10_code 128 = .ok (.ireturn, 1) := by decide +kernel
theorem d_W_hasCommand_118 : decode prog_8_method_10_code 118 = .ok (.iload_n 3, 1) := by decide +kernel
theorem d_W_hasCommand_119 : decode prog_8_method_10_code 119 = .ok (.iconst (-1), 1) := by decide +kernel
theorem d_W_hasCommand_120 : decode prog_8_method_10_code 120 = .ok (.if_icmp .ne 7, 3) := by decide +kernel
theorem d_W_hasCommand_123 : decode prog_8_method_10_code 123 = .ok (.iconst 1, 1) := by decide +kernel
theorem d_W_hasCommand_124 : decode prog_8_method_10_code 124 = .ok (.goto 4, 3) := by decide +kernel
theorem d_W_hasCommand_129 : decode prog_8_method_10_code 129 = .ok (.iload_n 2, 1) := by decide +kernel
theorem d_W_hasCommand_130 : decode prog_8_method_10_code 130 = .ok (.iconst (-1), 1) := by decide +kernel
theorem d_W_hasCommand_131 : decode prog_8_method_10_code 131 = .ok (.if_icmp .eq 11, 3) := by decide +kernel
theorem d_W_hasCommand_134 : decode prog_8_method_10_code 134 = .ok (.aload_n 0, 1) := by decide +kernel
theorem d_W_hasCommand_135 : decode prog_8_method_10_code 135 = .ok (.iload_n 2, 1) := by decide +kernel
theorem d_W_hasCommand_136 : decode prog_8_method_10_code 136 = .ok (.invokevirtual 83, 3) := by decide +kernel
theorem d_W_hasCommand_139 : decode prog_8_method_10_code 139 = .ok (.ifCond .eq 20, 3) := by decide +kernel
theorem d_W_hasCommand_159 : decode prog_8_method_10_code 159 = .ok (.iconst 0, 1) := by decide +kernel
theorem d_W_hasCommand_160 : decode prog_8_method_10_code 160 = .ok (.ireturn, 1) := by decide +kernel
theorem d_W_hasCommand_161 : decode prog_8_method_10_code 161 = .ok (.iconst 0, 1) := by decide +kernel
theorem d_W_hasCommand_162 : decode prog_8_method_10_code 162 = .ok (.ireturn, 1) := by decide +kernel
theorem d_W_hasCommand_142 : decode prog_8_method_10_code 142 = .ok (.iload_n 3, 1) := by decide +kernel
theorem d_W_hasCommand_143 : decode prog_8_method_10_code 143 = .ok (.iconst (-1), 1) := by decide +kernel
theorem d_W_hasCommand_144 : decode prog_8_method_10_code 144 = .ok (.if_icmp .eq 11, 3) := by decide +kernel
theorem d_W_hasCommand_155 : decode prog_8_method_10_code 155 = .ok (.iconst 1, 1) := by decide +kernel
theorem d_W_hasCommand_156 : decode prog_8_method_10_code 156 = .ok (.goto 4, 3) := by decide +kernel
theorem d_W_hasCommand_147 : decode prog_8_method_10_code 147 = .ok (.aload_n 0, 1) := by decide +kernel
theorem d_W_hasCommand_148 : decode prog_8_method_10_code 148 = .ok (.iload_n 3, 1) := by decide +kernel
theorem d_W_hasCommand_149 : decode prog_8_method_10_code 149 = .ok (.invokevirtual 83, 3) := by decide +kernel
theorem d_W_hasCommand_152 : decode prog_8_method_10_code 152 = .ok (.ifCond .eq 7, 3) := by decide +kernel
theorem d_W_isWalker_0 : decode prog_8_method_11_code 0 = .ok (.iconst 0, 1) := by decide +kernel
theorem d_W_isWalker_1 : decode prog_8_method_11_code 1 = .ok (.istore_n 2, 1) := by decide +kernel
theorem d_W_isWalker_2 : decode prog_8_method_11_code 2 = .ok (.iload_n 2, 1) := by decide +kernel
theorem d_W_isWalker_3 : decode prog_8_method_11_code 3 = .ok (.aload_n 0, 1) := by decide +kernel
theorem d_W_isWalker_4 : decode prog_8_method_11_code 4 = .ok (.getfield 69, 3) := by decide +kernel
theorem d_W_isWalker_7 : decode prog_8_method_11_code 7 = .ok (.if_icmp .ge 21, 3) := by decide +kernel
theorem d_W_isWalker_28 : decode prog_8_method_11_code 28 = .ok (.iconst 0, 1) := by decide +kernel
theorem d_W_isWalker_29 : decode prog_8_method_11_code 29 = .ok (.ireturn, 1) := by decide +kernel
theorem d_W_isWalker_10 : decode prog_8_method_11_code 10 = .ok (.aload_n 0, 1) := by decide +kernel
theorem d_W_isWalker_11 : decode prog_8_method_11_code 11 = .ok (.getfield 41, 3) := by decide +kernel
theorem d_W_isWalker_14 : decode prog_8_method_11_code 14 = .ok (.iload_n 2, 1) := by decide +kernel
theorem d_W_isWalker_15 : decode prog_8_method_11_code 15 = .ok (.iaload, 1) := by decide +kernel
theorem d_W_isWalker_16 : decode prog_8_method_11_code 16 = .ok (.iload_n 1, 1) := by decide +kernel
theorem d_W_isWalker_17 : decode prog_8_method_11_code 17 = .ok (.if_icmp .ne 5, 3) := by decide +kernel
theorem d_W_isWalker_22 : decode prog_8_method_11_code 22 = .ok (.iinc 2 1, 3) := by decide +kernel
theorem d_W_isWalker_25 : decode prog_8_method_11_code 25 = .ok (.goto (-23), 3) := by decide +kernel
theorem d_W_isWalker_20 : decode prog_8_method_11_code 20 = .ok (.iconst 1, 1) := by decide +kernel
theorem d_W_isWalker_21 : decode prog_8_method_11_code 21 = .ok (.ireturn, 1) := by decide +kernel
theorem d_W_setExit_0 : decode prog_8_method_13_code 0 = .ok (.aload_n 0, 1) := by decide +kernel
theorem d_W_setExit_1 : decode prog_8_method_13_code 1 = .ok (.getfield 9, 3) := by decide +kernel
theorem d_W_setExit_4 : decode prog_8_method_13_code 4 = .ok (.iload_n 1, 1) := by decide +kernel
theorem d_W_setExit_5 : decode prog_8_method_13_code 5 = .ok (.iconst 4, 1) := by decide +kernel
theorem d_W_setExit_6 : decode prog_8_method_13_code 6 = .ok (.imul, 1) := by decide +kernel
theorem d_W_setExit_7 : decode prog_8_method_13_code 7 = .ok (.iload_n 2, 1) := by decide +kernel
theorem d_W_setExit_8 : decode prog_8_method_13_code 8 = .ok (.iadd, 1) := by decide +kernel
theorem d_W_setExit_9 : decode prog_8_method_13_code 9 = .ok (.iload_n 3, 1) := by decide +kernel
theorem d_W_setExit_10 : decode prog_8_method_13_code 10 = .ok (.iastore, 1) := by decide +kernel
theorem d_W_setExit_11 : decode prog_8_method_13_code 11 = .ok (.aload_n 0, 1) := by decide +kernel
theorem d_W_setExit_12 : decode prog_8_method_13_code 12 = .ok (.getfield 15, 3) := by decide +kernel
theorem d_W_setExit_15 : decode prog_8_method_13_code 15 = .ok (.iload_n 1, 1) := by decide +kernel
theorem d_W_setExit_16 : decode prog_8_method_13_code 16 = .ok (.iconst 4, 1) := by decide +kernel
theorem d_W_setExit_17 : decode prog_8_method_13_code 17 = .ok (.imul, 1) := by decide +kernel
theorem d_W_setExit_18 : decode prog_8_method_13_code 18 = .ok (.iload_n 2, 1) := by decide +kernel
theorem d_W_setExit_19 : decode prog_8_method_13_code 19 = .ok (.iadd, 1) := by decide +kernel
theorem d_W_setExit_20 : decode prog_8_method_13_code 20 = .ok (.iload 4, 2) := by decide +kernel
theorem d_W_setExit_22 : decode prog_8_method_13_code 22 = .ok (.iastore, 1) := by decide +kernel
theorem d_W_setExit_23 : decode prog_8_method_13_code 23 = .ok (.return_, 1) := by decide +kernel
theorem d_W_addRoom_0 : decode prog_8_method_12_code 0 = .ok (.iconst 0, 1) := by decide +kernel
theorem d_W_addRoom_1 : decode prog_8_method_12_code 1 = .ok (.istore_n 1, 1) := by decide +kernel
theorem d_W_addRoom_2 : decode prog_8_method_12_code 2 = .ok (.iload_n 1, 1) := by decide +kernel
theorem d_W_addRoom_3 : decode prog_8_method_12_code 3 = .ok (.iconst 4, 1) := by decide +kernel
theorem d_W_addRoom_4 : decode prog_8_method_12_code 4 = .ok (.if_icmp .ge 20, 3) := by decide +kernel
theorem d_W_addRoom_24 : decode prog_8_method_12_code 24 = .ok (.aload_n 0, 1) := by decide +kernel
theorem d_W_addRoom_25 : decode prog_8_method_12_code 25 = .ok (.dup, 1) := by decide +kernel
theorem d_W_addRoom_26 : decode prog_8_method_12_code 26 = .ok (.getfield 53, 3) := by decide +kernel
theorem d_W_addRoom_29 : decode prog_8_method_12_code 29 = .ok (.dup_x1, 1) := by decide +kernel
theorem d_W_addRoom_30 : decode prog_8_method_12_code 30 = .ok (.iconst 1, 1) := by decide +kernel
theorem d_W_addRoom_31 : decode prog_8_method_12_code 31 = .ok (.iadd, 1) := by decide +kernel
theorem d_W_addRoom_32 : decode prog_8_method_12_code 32 = .ok (.putfield 53, 3) := by decide +kernel
theorem d_W_addRoom_35 : decode prog_8_method_12_code 35 = .ok (.ireturn, 1) := by decide +kernel
theorem d_W_addRoom_7 : decode prog_8_method_12_code 7 = .ok (.aload_n 0, 1) := by decide +kernel
theorem d_W_addRoom_8 : decode prog_8_method_12_code 8 = .ok (.aload_n 0, 1) := by decide +kernel
theorem d_W_addRoom_9 : decode prog_8_method_12_code 9 = .ok (.getfield 53, 3) := by decide +kernel
theorem d_W_addRoom_12 : decode prog_8_method_12_code 12 = .ok (.iload_n 1, 1) := by decide +kernel
theorem d_W_addRoom_13 : decode prog_8_method_12_code 13 = .ok (.iconst (-1), 1) := by decide +kernel
theorem d_W_addRoom_14 : decode prog_8_method_12_code 14 = .ok (.iconst (-1), 1) := by decide +kernel
theorem d_W_addRoom_15 : decode prog_8_method_12_code 15 = .ok (.invokevirtual 89, 3) := by decide +kernel
theorem d_W_addRoom_18 : decode prog_8_method_12_code 18 = .ok (.iinc 1 1, 3) := by decide +kernel
theorem d_W_addRoom_21 : decode prog_8_method_12_code 21 = .ok (.goto (-19), 3) := by decide +kernel
theorem d_W_addThing_0 : decode prog_8_method_14_code 0 = .ok (.aload_n 0, 1) := by decide +kernel
theorem d_W_addThing_1 : decode prog_8_method_14_code 1 = .ok (.getfield 18, 3) := by decide +kernel
theorem d_W_addThing_4 : decode prog_8_method_14_code 4 = .ok (.aload_n 0, 1) := by decide +kernel
theorem d_W_addThing_5 : decode prog_8_method_14_code 5 = .ok (.getfield 57, 3) := by decide +kernel
theorem d_W_addThing_8 : decode prog_8_method_14_code 8 = .ok (.iload_n 1, 1) := by decide +kernel
theorem d_W_addThing_9 : decode prog_8_method_14_code 9 = .ok (.iastore, 1) := by decide +kernel
theorem d_W_addThing_10 : decode prog_8_method_14_code 10 = .ok (.aload_n 0, 1) := by decide +kernel
theorem d_W_addThing_11 : decode prog_8_method_14_code 11 = .ok (.getfield 21, 3) := by decide +kernel
theorem d_W_addThing_14 : decode prog_8_method_14_code 14 = .ok (.aload_n 0, 1) := by decide +kernel
theorem d_W_addThing_15 : decode prog_8_method_14_code 15 = .ok (.getfield 57, 3) := by decide +kernel
theorem d_W_addThing_18 : decode prog_8_method_14_code 18 = .ok (.iload_n 2, 1) := by decide +kernel
theorem d_W_addThing_19 : decode prog_8_method_14_code 19 = .ok (.iastore, 1) := by decide +kernel
theorem d_W_addThing_20 : decode prog_8_method_14_code 20 = .ok (.aload_n 0, 1) := by decide +kernel
theorem d_W_addThing_21 : decode prog_8_method_14_code 21 = .ok (.dup, 1) := by decide +kernel
theorem d_W_addThing_22 : decode prog_8_method_14_code 22 = .ok (.getfield 57, 3) := by decide +kernel
theorem d_W_addThing_25 : decode prog_8_method_14_code 25 = .ok (.dup_x1, 1) := by decide +kernel
theorem d_W_addThing_26 : decode prog_8_method_14_code 26 = .ok (.iconst 1, 1) := by decide +kernel
theorem d_W_addThing_27 : decode prog_8_method_14_code 27 = .ok (.iadd, 1) := by decide +kernel
theorem d_W_addThing_28 : decode prog_8_method_14_code 28 = .ok (.putfield 57, 3) := by decide +kernel
theorem d_W_addThing_31 : decode prog_8_method_14_code 31 = .ok (.ireturn, 1) := by decide +kernel
theorem d_W_addNumber_0 : decode prog_8_method_15_code 0 = .ok (.aload_n 0, 1) := by decide +kernel
theorem d_W_addNumber_1 : decode prog_8_method_15_code 1 = .ok (.getfield 24, 3) := by decide +kernel
theorem d_W_addNumber_4 : decode prog_8_method_15_code 4 = .ok (.aload_n 0, 1) := by decide +kernel
theorem d_W_addNumber_5 : decode prog_8_method_15_code 5 = .ok (.getfield 60, 3) := by decide +kernel
theorem d_W_addNumber_8 : decode prog_8_method_15_code 8 = .ok (.iload_n 1, 1) := by decide +kernel
theorem d_W_addNumber_9 : decode prog_8_method_15_code 9 = .ok (.iastore, 1) := by decide +kernel
theorem d_W_addNumber_10 : decode prog_8_method_15_code 10 = .ok (.aload_n 0, 1) := by decide +kernel
theorem d_W_addNumber_11 : decode prog_8_method_15_code 11 = .ok (.getfield 27, 3) := by decide +kernel
theorem d_W_addNumber_14 : decode prog_8_method_15_code 14 = .ok (.aload_n 0, 1) := by decide +kernel
theorem d_W_addNumber_15 : decode prog_8_method_15_code 15 = .ok (.getfield 60, 3) := by decide +kernel
theorem d_W_addNumber_18 : decode prog_8_method_15_code 18 = .ok (.iload_n 2, 1) := by decide +kernel
theorem d_W_addNumber_19 : decode prog_8_method_15_code 19 = .ok (.iastore, 1) := by decide +kernel
theorem d_W_addNumber_20 : decode prog_8_method_15_code 20 = .ok (.aload_n 0, 1) := by decide +kernel
theorem d_W_addNumber_21 : decode prog_8_method_15_code 21 = .ok (.dup, 1) := by decide +kernel
theorem d_W_addNumber_22 : decode prog_8_method_15_code 22 = .ok (.getfield 60, 3) := by decide +kernel
theorem d_W_addNumber_25 : decode prog_8_method_15_code 25 = .ok (.dup_x1, 1) := by decide +kernel
theorem d_W_addNumber_26 : decode prog_8_method_15_code 26 = .ok (.iconst 1, 1) := by decide +kernel
theorem d_W_addNumber_27 : decode prog_8_method_15_code 27 = .ok (.iadd, 1) := by decide +kernel
theorem d_W_addNumber_28 : decode prog_8_method_15_code 28 = .ok (.putfield 60, 3) := by decide +kernel
theorem d_W_addNumber_31 : decode prog_8_method_15_code 31 = .ok (.ireturn, 1) := by decide +kernel
theorem d_W_addEnding_0 : decode prog_8_method_16_code 0 = .ok (.aload_n 0, 1) := by decide +kernel
theorem d_W_addEnding_1 : decode prog_8_method_16_code 1 = .ok (.getfield 30, 3) := by decide +kernel
theorem d_W_addEnding_4 : decode prog_8_method_16_code 4 = .ok (.aload_n 0, 1) := by decide +kernel
theorem d_W_addEnding_5 : decode prog_8_method_16_code 5 = .ok (.getfield 63, 3) := by decide +kernel
theorem d_W_addEnding_8 : decode prog_8_method_16_code 8 = .ok (.iload_n 1, 1) := by decide +kernel
theorem d_W_addEnding_9 : decode prog_8_method_16_code 9 = .ok (.bastore, 1) := by decide +kernel
theorem d_W_addEnding_10 : decode prog_8_method_16_code 10 = .ok (.aload_n 0, 1) := by decide +kernel
theorem d_W_addEnding_11 : decode prog_8_method_16_code 11 = .ok (.dup, 1) := by decide +kernel
theorem d_W_addEnding_12 : decode prog_8_method_16_code 12 = .ok (.getfield 63, 3) := by decide +kernel
theorem d_W_addEnding_15 : decode prog_8_method_16_code 15 = .ok (.dup_x1, 1) := by decide +kernel
theorem d_W_addEnding_16 : decode prog_8_method_16_code 16 = .ok (.iconst 1, 1) := by decide +kernel
theorem d_W_addEnding_17 : decode prog_8_method_16_code 17 = .ok (.iadd, 1) := by decide +kernel
theorem d_W_addEnding_18 : decode prog_8_method_16_code 18 = .ok (.putfield 63, 3) := by decide +kernel
theorem d_W_addEnding_21 : decode prog_8_method_16_code 21 = .ok (.ireturn, 1) := by decide +kernel
theorem d_W_addWalker_0 : decode prog_8_method_17_code 0 = .ok (.aload_n 0, 1) := by decide +kernel
theorem d_W_addWalker_1 : decode prog_8_method_17_code 1 = .ok (.getfield 41, 3) := by decide +kernel
theorem d_W_addWalker_4 : decode prog_8_method_17_code 4 = .ok (.aload_n 0, 1) := by decide +kernel
theorem d_W_addWalker_5 : decode prog_8_method_17_code 5 = .ok (.getfield 69, 3) := by decide +kernel
theorem d_W_addWalker_8 : decode prog_8_method_17_code 8 = .ok (.iload_n 1, 1) := by decide +kernel
theorem d_W_addWalker_9 : decode prog_8_method_17_code 9 = .ok (.iastore, 1) := by decide +kernel
theorem d_W_addWalker_10 : decode prog_8_method_17_code 10 = .ok (.aload_n 0, 1) := by decide +kernel
theorem d_W_addWalker_11 : decode prog_8_method_17_code 11 = .ok (.getfield 44, 3) := by decide +kernel
theorem d_W_addWalker_14 : decode prog_8_method_17_code 14 = .ok (.aload_n 0, 1) := by decide +kernel
theorem d_W_addWalker_15 : decode prog_8_method_17_code 15 = .ok (.getfield 69, 3) := by decide +kernel
theorem d_W_addWalker_18 : decode prog_8_method_17_code 18 = .ok (.iconst 3, 1) := by decide +kernel
theorem d_W_addWalker_19 : decode prog_8_method_17_code 19 = .ok (.imul, 1) := by decide +kernel
theorem d_W_addWalker_20 : decode prog_8_method_17_code 20 = .ok (.iload_n 2, 1) := by decide +kernel
theorem d_W_addWalker_21 : decode prog_8_method_17_code 21 = .ok (.iastore, 1) := by decide +kernel
theorem d_W_addWalker_22 : decode prog_8_method_17_code 22 = .ok (.aload_n 0, 1) := by decide +kernel
theorem d_W_addWalker_23 : decode prog_8_method_17_code 23 = .ok (.getfield 44, 3) := by decide +kernel
theorem d_W_addWalker_26 : decode prog_8_method_17_code 26 = .ok (.aload_n 0, 1) := by decide +kernel
theorem d_W_addWalker_27 : decode prog_8_method_17_code 27 = .ok (.getfield 69, 3) := by decide +kernel
theorem d_W_addWalker_30 : decode prog_8_method_17_code 30 = .ok (.iconst 3, 1) := by decide +kernel
theorem d_W_addWalker_31 : decode prog_8_method_17_code 31 = .ok (.imul, 1) := by decide +kernel
theorem d_W_addWalker_32 : decode prog_8_method_17_code 32 = .ok (.iconst 1, 1) := by decide +kernel
theorem d_W_addWalker_33 : decode prog_8_method_17_code 33 = .ok (.iadd, 1) := by decide +kernel
theorem d_W_addWalker_34 : decode prog_8_method_17_code 34 = .ok (.iload_n 3, 1) := by decide +kernel
theorem d_W_addWalker_35 : decode prog_8_method_17_code 35 = .ok (.iastore, 1) := by decide +kernel
theorem d_W_addWalker_36 : decode prog_8_method_17_code 36 = .ok (.aload_n 0, 1) := by decide +kernel
theorem d_W_addWalker_37 : decode prog_8_method_17_code 37 = .ok (.getfield 44, 3) := by decide +kernel
theorem d_W_addWalker_40 : decode prog_8_method_17_code 40 = .ok (.aload_n 0, 1) := by decide +kernel
theorem d_W_addWalker_41 : decode prog_8_method_17_code 41 = .ok (.getfield 69, 3) := by decide +kernel
theorem d_W_addWalker_44 : decode prog_8_method_17_code 44 = .ok (.iconst 3, 1) := by decide +kernel
theorem d_W_addWalker_45 : decode prog_8_method_17_code 45 = .ok (.imul, 1) := by decide +kernel
theorem d_W_addWalker_46 : decode prog_8_method_17_code 46 = .ok (.iconst 2, 1) := by decide +kernel
theorem d_W_addWalker_47 : decode prog_8_method_17_code 47 = .ok (.iadd, 1) := by decide +kernel
theorem d_W_addWalker_48 : decode prog_8_method_17_code 48 = .ok (.iload 4, 2) := by decide +kernel
theorem d_W_addWalker_50 : decode prog_8_method_17_code 50 = .ok (.iastore, 1) := by decide +kernel
theorem d_W_addWalker_51 : decode prog_8_method_17_code 51 = .ok (.aload_n 0, 1) := by decide +kernel
theorem d_W_addWalker_52 : decode prog_8_method_17_code 52 = .ok (.getfield 18, 3) := by decide +kernel
theorem d_W_addWalker_55 : decode prog_8_method_17_code 55 = .ok (.iload_n 1, 1) := by decide +kernel
theorem d_W_addWalker_56 : decode prog_8_method_17_code 56 = .ok (.iload_n 2, 1) := by decide +kernel
theorem d_W_addWalker_57 : decode prog_8_method_17_code 57 = .ok (.iastore, 1) := by decide +kernel
theorem d_W_addWalker_58 : decode prog_8_method_17_code 58 = .ok (.aload_n 0, 1) := by decide +kernel
theorem d_W_addWalker_59 : decode prog_8_method_17_code 59 = .ok (.dup, 1) := by decide +kernel
theorem d_W_addWalker_60 : decode prog_8_method_17_code 60 = .ok (.getfield 69, 3) := by decide +kernel
theorem d_W_addWalker_63 : decode prog_8_method_17_code 63 = .ok (.iconst 1, 1) := by decide +kernel
theorem d_W_addWalker_64 : decode prog_8_method_17_code 64 = .ok (.iadd, 1) := by decide +kernel
theorem d_W_addWalker_65 : decode prog_8_method_17_code 65 = .ok (.putfield 69, 3) := by decide +kernel
theorem d_W_addWalker_68 : decode prog_8_method_17_code 68 = .ok (.return_, 1) := by decide +kernel
theorem d_W_addTimer_0 : decode prog_8_method_18_code 0 = .ok (.aload_n 0, 1) := by decide +kernel
theorem d_W_addTimer_1 : decode prog_8_method_18_code 1 = .ok (.getfield 47, 3) := by decide +kernel
theorem d_W_addTimer_4 : decode prog_8_method_18_code 4 = .ok (.aload_n 0, 1) := by decide +kernel
theorem d_W_addTimer_5 : decode prog_8_method_18_code 5 = .ok (.getfield 72, 3) := by decide +kernel
theorem d_W_addTimer_8 : decode prog_8_method_18_code 8 = .ok (.iload_n 1, 1) := by decide +kernel
theorem d_W_addTimer_9 : decode prog_8_method_18_code 9 = .ok (.iastore, 1) := by decide +kernel
theorem d_W_addTimer_10 : decode prog_8_method_18_code 10 = .ok (.aload_n 0, 1) := by decide +kernel
theorem d_W_addTimer_11 : decode prog_8_method_18_code 11 = .ok (.getfield 50, 3) := by decide +kernel
theorem d_W_addTimer_14 : decode prog_8_method_18_code 14 = .ok (.aload_n 0, 1) := by decide +kernel
theorem d_W_addTimer_15 : decode prog_8_method_18_code 15 = .ok (.getfield 72, 3) := by decide +kernel
theorem d_W_addTimer_18 : decode prog_8_method_18_code 18 = .ok (.iload_n 2, 1) := by decide +kernel
theorem d_W_addTimer_19 : decode prog_8_method_18_code 19 = .ok (.iastore, 1) := by decide +kernel
theorem d_W_addTimer_20 : decode prog_8_method_18_code 20 = .ok (.aload_n 0, 1) := by decide +kernel
theorem d_W_addTimer_21 : decode prog_8_method_18_code 21 = .ok (.getfield 37, 3) := by decide +kernel
theorem d_W_addTimer_24 : decode prog_8_method_18_code 24 = .ok (.getfield 93, 3) := by decide +kernel
theorem d_W_addTimer_27 : decode prog_8_method_18_code 27 = .ok (.iload_n 1, 1) := by decide +kernel
theorem d_W_addTimer_28 : decode prog_8_method_18_code 28 = .ok (.iconst 1, 1) := by decide +kernel
theorem d_W_addTimer_29 : decode prog_8_method_18_code 29 = .ok (.bastore, 1) := by decide +kernel
theorem d_W_addTimer_30 : decode prog_8_method_18_code 30 = .ok (.aload_n 0, 1) := by decide +kernel
theorem d_W_addTimer_31 : decode prog_8_method_18_code 31 = .ok (.dup, 1) := by decide +kernel
theorem d_W_addTimer_32 : decode prog_8_method_18_code 32 = .ok (.getfield 72, 3) := by decide +kernel
theorem d_W_addTimer_35 : decode prog_8_method_18_code 35 = .ok (.iconst 1, 1) := by decide +kernel
theorem d_W_addTimer_36 : decode prog_8_method_18_code 36 = .ok (.iadd, 1) := by decide +kernel
theorem d_W_addTimer_37 : decode prog_8_method_18_code 37 = .ok (.putfield 72, 3) := by decide +kernel
theorem d_W_addTimer_40 : decode prog_8_method_18_code 40 = .ok (.return_, 1) := by decide +kernel
theorem d_B_write_0 : decode prog_3_method_19_code 0 = .ok (.lload_n 0, 1) := by decide +kernel
theorem d_B_write_1 : decode prog_3_method_19_code 1 = .ok (.iload_n 3, 1) := by decide +kernel
theorem d_B_write_2 : decode prog_3_method_19_code 2 = .ok (.i2l, 1) := by decide +kernel
theorem d_B_write_3 : decode prog_3_method_19_code 3 = .ok (.iload_n 2, 1) := by decide +kernel
theorem d_B_write_4 : decode prog_3_method_19_code 4 = .ok (.lshl, 1) := by decide +kernel
theorem d_B_write_5 : decode prog_3_method_19_code 5 = .ok (.ldc2_w 30, 3) := by decide +kernel
theorem d_B_write_8 : decode prog_3_method_19_code 8 = .ok (.lxor, 1) := by decide +kernel
theorem d_B_write_9 : decode prog_3_method_19_code 9 = .ok (.land, 1) := by decide +kernel
theorem d_B_write_10 : decode prog_3_method_19_code 10 = .ok (.iload 4, 2) := by decide +kernel
theorem d_B_write_12 : decode prog_3_method_19_code 12 = .ok (.iload_n 3, 1) := by decide +kernel
theorem d_B_write_13 : decode prog_3_method_19_code 13 = .ok (.iand, 1) := by decide +kernel
theorem d_B_write_14 : decode prog_3_method_19_code 14 = .ok (.i2l, 1) := by decide +kernel
theorem d_B_write_15 : decode prog_3_method_19_code 15 = .ok (.iload_n 2, 1) := by decide +kernel
theorem d_B_write_16 : decode prog_3_method_19_code 16 = .ok (.lshl, 1) := by decide +kernel
theorem d_B_write_17 : decode prog_3_method_19_code 17 = .ok (.lor, 1) := by decide +kernel
theorem d_B_write_18 : decode prog_3_method_19_code 18 = .ok (.lreturn, 1) := by decide +kernel
theorem d_B_withPlace_0 : decode prog_3_method_5_code 0 = .ok (.lload_n 0, 1) := by decide +kernel
theorem d_B_withPlace_1 : decode prog_3_method_5_code 1 = .ok (.iconst 3, 1) := by decide +kernel
theorem d_B_withPlace_2 : decode prog_3_method_5_code 2 = .ok (.iconst 4, 1) := by decide +kernel
theorem d_B_withPlace_3 : decode prog_3_method_5_code 3 = .ok (.iload_n 2, 1) := by decide +kernel
theorem d_B_withPlace_4 : decode prog_3_method_5_code 4 = .ok (.imul, 1) := by decide +kernel
theorem d_B_withPlace_5 : decode prog_3_method_5_code 5 = .ok (.iadd, 1) := by decide +kernel
theorem d_B_withPlace_6 : decode prog_3_method_5_code 6 = .ok (.bipush 15, 2) := by decide +kernel
theorem d_B_withPlace_8 : decode prog_3_method_5_code 8 = .ok (.iload_n 3, 1) := by decide +kernel
theorem d_B_withPlace_9 : decode prog_3_method_5_code 9 = .ok (.invokestatic 9, 3) := by decide +kernel
theorem d_B_withPlace_12 : decode prog_3_method_5_code 12 = .ok (.lreturn, 1) := by decide +kernel
theorem d_B_withOpen_0 : decode prog_3_method_7_code 0 = .ok (.lload_n 0, 1) := by decide +kernel
theorem d_B_withOpen_1 : decode prog_3_method_7_code 1 = .ok (.bipush 27, 2) := by decide +kernel
theorem d_B_withOpen_3 : decode prog_3_method_7_code 3 = .ok (.iload_n 2, 1) := by decide +kernel
theorem d_B_withOpen_4 : decode prog_3_method_7_code 4 = .ok (.iadd, 1) := by decide +kernel
theorem d_B_withOpen_5 : decode prog_3_method_7_code 5 = .ok (.iconst 1, 1) := by decide +kernel
theorem d_B_withOpen_6 : decode prog_3_method_7_code 6 = .ok (.iload_n 3, 1) := by decide +kernel
theorem d_B_withOpen_7 : decode prog_3_method_7_code 7 = .ok (.invokestatic 9, 3) := by decide +kernel
theorem d_B_withOpen_10 : decode prog_3_method_7_code 10 = .ok (.lreturn, 1) := by decide +kernel
theorem d_B_withAmount_0 : decode prog_3_method_9_code 0 = .ok (.lload_n 0, 1) := by decide +kernel
theorem d_B_withAmount_1 : decode prog_3_method_9_code 1 = .ok (.bipush 33, 2) := by decide +kernel
theorem d_B_withAmount_3 : decode prog_3_method_9_code 3 = .ok (.iconst 3, 1) := by decide +kernel
theorem d_B_withAmount_4 : decode prog_3_method_9_code 4 = .ok (.iload_n 2, 1) := by decide +kernel
theorem d_B_withAmount_5 : decode prog_3_method_9_code 5 = .ok (.imul, 1) := by decide +kernel
theorem d_B_withAmount_6 : decode prog_3_method_9_code 6 = .ok (.iadd, 1) := by decide +kernel
theorem d_B_withAmount_7 : decode prog_3_method_9_code 7 = .ok (.bipush 7, 2) := by decide +kernel
theorem d_B_withAmount_9 : decode prog_3_method_9_code 9 = .ok (.iload_n 3, 1) := by decide +kernel
theorem d_B_withAmount_10 : decode prog_3_method_9_code 10 = .ok (.invokestatic 9, 3) := by decide +kernel
theorem d_B_withAmount_13 : decode prog_3_method_9_code 13 = .ok (.lreturn, 1) := by decide +kernel
theorem d_B_withCount_0 : decode prog_3_method_13_code 0 = .ok (.lload_n 0, 1) := by decide +kernel
theorem d_B_withCount_1 : decode prog_3_method_13_code 1 = .ok (.bipush 46, 2) := by decide +kernel
theorem d_B_withCount_3 : decode prog_3_method_13_code 3 = .ok (.iconst 4, 1) := by decide +kernel
theorem d_B_withCount_4 : decode prog_3_method_13_code 4 = .ok (.iload_n 2, 1) := by decide +kernel
theorem d_B_withCount_5 : decode prog_3_method_13_code 5 = .ok (.imul, 1) := by decide +kernel
theorem d_B_withCount_6 : decode prog_3_method_13_code 6 = .ok (.iadd, 1) := by decide +kernel
theorem d_B_withCount_7 : decode prog_3_method_13_code 7 = .ok (.bipush 15, 2) := by decide +kernel
theorem d_B_withCount_9 : decode prog_3_method_13_code 9 = .ok (.iload_n 3, 1) := by decide +kernel
theorem d_B_withCount_10 : decode prog_3_method_13_code 10 = .ok (.invokestatic 9, 3) := by decide +kernel
theorem d_B_withCount_13 : decode prog_3_method_13_code 13 = .ok (.lreturn, 1) := by decide +kernel
theorem d_W_firstState_0 : decode prog_8_method_19_code 0 = .ok (.lconst 0, 1) := by decide +kernel
theorem d_W_firstState_1 : decode prog_8_method_19_code 1 = .ok (.lstore_n 1, 1) := by decide +kernel
theorem d_W_firstState_2 : decode prog_8_method_19_code 2 = .ok (.iconst 0, 1) := by decide +kernel
theorem d_W_firstState_3 : decode prog_8_method_19_code 3 = .ok (.istore_n 3, 1) := by decide +kernel
theorem d_W_firstState_4 : decode prog_8_method_19_code 4 = .ok (.iload_n 3, 1) := by decide +kernel
theorem d_W_firstState_5 : decode prog_8_method_19_code 5 = .ok (.aload_n 0, 1) := by decide +kernel
theorem d_W_firstState_6 : decode prog_8_method_19_code 6 = .ok (.getfield 57, 3) := by decide +kernel
theorem d_W_firstState_9 : decode prog_8_method_19_code 9 = .ok (.if_icmp .ge 43, 3) := by decide +kernel
theorem d_W_firstState_52 : decode prog_8_method_19_code 52 = .ok (.iconst 0, 1) := by decide +kernel
theorem d_W_firstState_53 : decode prog_8_method_19_code 53 = .ok (.istore_n 3, 1) := by decide +kernel
theorem d_W_firstState_12 : decode prog_8_method_19_code 12 = .ok (.lload_n 1, 1) := by decide +kernel
theorem d_W_firstState_13 : decode prog_8_method_19_code 13 = .ok (.iload_n 3, 1) := by decide +kernel
theorem d_W_firstState_14 : decode prog_8_method_19_code 14 = .ok (.aload_n 0, 1) := by decide +kernel
theorem d_W_firstState_15 : decode prog_8_method_19_code 15 = .ok (.getfield 18, 3) := by decide +kernel
theorem d_W_firstState_18 : decode prog_8_method_19_code 18 = .ok (.iload_n 3, 1) := by decide +kernel
theorem d_W_firstState_19 : decode prog_8_method_19_code 19 = .ok (.iaload, 1) := by decide +kernel
theorem d_W_firstState_20 : decode prog_8_method_19_code 20 = .ok (.invokestatic 96, 3) := by decide +kernel
theorem d_W_firstState_23 : decode prog_8_method_19_code 23 = .ok (.lstore_n 1, 1) := by decide +kernel
theorem d_W_firstState_24 : decode prog_8_method_19_code 24 = .ok (.lload_n 1, 1) := by decide +kernel
theorem d_W_firstState_25 : decode prog_8_method_19_code 25 = .ok (.iload_n 3, 1) := by decide +kernel
theorem d_W_firstState_26 : decode prog_8_method_19_code 26 = .ok (.aload_n 0, 1) := by decide +kernel
theorem d_W_firstState_27 : decode prog_8_method_19_code 27 = .ok (.getfield 21, 3) := by decide +kernel
theorem d_W_firstState_30 : decode prog_8_method_19_code 30 = .ok (.iload_n 3, 1) := by decide +kernel
theorem d_W_firstState_31 : decode prog_8_method_19_code 31 = .ok (.iaload, 1) := by decide +kernel
theorem d_W_firstState_32 : decode prog_8_method_19_code 32 = .ok (.iconst 4, 1) := by decide +kernel
theorem d_W_firstState_33 : decode prog_8_method_19_code 33 = .ok (.iand, 1) := by decide +kernel
theorem d_W_firstState_34 : decode prog_8_method_19_code 34 = .ok (.ifCond .eq 7, 3) := by decide +kernel
theorem d_W_firstState_41 : decode prog_8_method_19_code 41 = .ok (.iconst 0, 1) := by decide +kernel
theorem d_W_firstState_42 : decode prog_8_method_19_code 42 = .ok (.invokestatic 102, 3) := by decide +kernel
theorem d_W_firstState_45 : decode prog_8_method_19_code 45 = .ok (.lstore_n 1, 1) := by decide +kernel
theorem d_W_firstState_46 : decode prog_8_method_19_code 46 = .ok (.iinc 3 1, 3) := by decide +kernel
theorem d_W_firstState_49 : decode prog_8_method_19_code 49 = .ok (.goto (-45), 3) := by decide +kernel
theorem d_W_firstState_37 : decode prog_8_method_19_code 37 = .ok (.iconst 1, 1) := by decide +kernel
theorem d_W_firstState_38 : decode prog_8_method_19_code 38 = .ok (.goto 4, 3) := by decide +kernel
theorem d_W_firstState_54 : decode prog_8_method_19_code 54 = .ok (.iload_n 3, 1) := by decide +kernel
theorem d_W_firstState_55 : decode prog_8_method_19_code 55 = .ok (.aload_n 0, 1) := by decide +kernel
theorem d_W_firstState_56 : decode prog_8_method_19_code 56 = .ok (.getfield 60, 3) := by decide +kernel
theorem d_W_firstState_59 : decode prog_8_method_19_code 59 = .ok (.if_icmp .ge 21, 3) := by decide +kernel
theorem d_W_firstState_80 : decode prog_8_method_19_code 80 = .ok (.iconst 0, 1) := by decide +kernel
theorem d_W_firstState_81 : decode prog_8_method_19_code 81 = .ok (.istore_n 3, 1) := by decide +kernel
theorem d_W_firstState_62 : decode prog_8_method_19_code 62 = .ok (.lload_n 1, 1) := by decide +kernel
theorem d_W_firstState_63 : decode prog_8_method_19_code 63 = .ok (.iload_n 3, 1) := by decide +kernel
theorem d_W_firstState_64 : decode prog_8_method_19_code 64 = .ok (.aload_n 0, 1) := by decide +kernel
theorem d_W_firstState_65 : decode prog_8_method_19_code 65 = .ok (.getfield 24, 3) := by decide +kernel
theorem d_W_firstState_68 : decode prog_8_method_19_code 68 = .ok (.iload_n 3, 1) := by decide +kernel
theorem d_W_firstState_69 : decode prog_8_method_19_code 69 = .ok (.iaload, 1) := by decide +kernel
theorem d_W_firstState_70 : decode prog_8_method_19_code 70 = .ok (.invokestatic 105, 3) := by decide +kernel
theorem d_W_firstState_73 : decode prog_8_method_19_code 73 = .ok (.lstore_n 1, 1) := by decide +kernel
theorem d_W_firstState_74 : decode prog_8_method_19_code 74 = .ok (.iinc 3 1, 3) := by decide +kernel
theorem d_W_firstState_77 : decode prog_8_method_19_code 77 = .ok (.goto (-23), 3) := by decide +kernel
theorem d_W_firstState_82 : decode prog_8_method_19_code 82 = .ok (.iload_n 3, 1) := by decide +kernel
theorem d_W_firstState_83 : decode prog_8_method_19_code 83 = .ok (.aload_n 0, 1) := by decide +kernel
theorem d_W_firstState_84 : decode prog_8_method_19_code 84 = .ok (.getfield 72, 3) := by decide +kernel
theorem d_W_firstState_87 : decode prog_8_method_19_code 87 = .ok (.if_icmp .ge 21, 3) := by decide +kernel
theorem d_W_firstState_108 : decode prog_8_method_19_code 108 = .ok (.lload_n 1, 1) := by decide +kernel
theorem d_W_firstState_109 : decode prog_8_method_19_code 109 = .ok (.lreturn, 1) := by decide +kernel
theorem d_W_firstState_90 : decode prog_8_method_19_code 90 = .ok (.lload_n 1, 1) := by decide +kernel
theorem d_W_firstState_91 : decode prog_8_method_19_code 91 = .ok (.iload_n 3, 1) := by decide +kernel
theorem d_W_firstState_92 : decode prog_8_method_19_code 92 = .ok (.aload_n 0, 1) := by decide +kernel
theorem d_W_firstState_93 : decode prog_8_method_19_code 93 = .ok (.getfield 50, 3) := by decide +kernel
theorem d_W_firstState_96 : decode prog_8_method_19_code 96 = .ok (.iload_n 3, 1) := by decide +kernel
theorem d_W_firstState_97 : decode prog_8_method_19_code 97 = .ok (.iaload, 1) := by decide +kernel
theorem d_W_firstState_98 : decode prog_8_method_19_code 98 = .ok (.invokestatic 108, 3) := by decide +kernel
theorem d_W_firstState_101 : decode prog_8_method_19_code 101 = .ok (.lstore_n 1, 1) := by decide +kernel
theorem d_W_firstState_102 : decode prog_8_method_19_code 102 = .ok (.iinc 3 1, 3) := by decide +kernel
theorem d_W_firstState_105 : decode prog_8_method_19_code 105 = .ok (.goto (-23), 3) := by decide +kernel
theorem d_R_append_0 : decode prog_7_method_2_code 0 = .ok (.aload_n 0, 1) := by decide +kernel
theorem d_R_append_1 : decode prog_7_method_2_code 1 = .ok (.getfield 9, 3) := by decide +kernel
theorem d_R_append_4 : decode prog_7_method_2_code 4 = .ok (.aload_n 0, 1) := by decide +kernel
theorem d_R_append_5 : decode prog_7_method_2_code 5 = .ok (.getfield 38, 3) := by decide +kernel
theorem d_R_append_8 : decode prog_7_method_2_code 8 = .ok (.iload_n 1, 1) := by decide +kernel
theorem d_R_append_9 : decode prog_7_method_2_code 9 = .ok (.iastore, 1) := by decide +kernel
theorem d_R_append_10 : decode prog_7_method_2_code 10 = .ok (.aload_n 0, 1) := by decide +kernel
theorem d_R_append_11 : decode prog_7_method_2_code 11 = .ok (.getfield 15, 3) := by decide +kernel
theorem d_R_append_14 : decode prog_7_method_2_code 14 = .ok (.aload_n 0, 1) := by decide +kernel
theorem d_R_append_15 : decode prog_7_method_2_code 15 = .ok (.getfield 38, 3) := by decide +kernel
theorem d_R_append_18 : decode prog_7_method_2_code 18 = .ok (.iload_n 2, 1) := by decide +kernel
theorem d_R_append_19 : decode prog_7_method_2_code 19 = .ok (.iastore, 1) := by decide +kernel
theorem d_R_append_20 : decode prog_7_method_2_code 20 = .ok (.aload_n 0, 1) := by decide +kernel
theorem d_R_append_21 : decode prog_7_method_2_code 21 = .ok (.getfield 18, 3) := by decide +kernel
theorem d_R_append_24 : decode prog_7_method_2_code 24 = .ok (.aload_n 0, 1) := by decide +kernel
theorem d_R_append_25 : decode prog_7_method_2_code 25 = .ok (.getfield 38, 3) := by decide +kernel
theorem d_R_append_28 : decode prog_7_method_2_code 28 = .ok (.iload_n 3, 1) := by decide +kernel
theorem d_R_append_29 : decode prog_7_method_2_code 29 = .ok (.iastore, 1) := by decide +kernel
theorem d_R_append_30 : decode prog_7_method_2_code 30 = .ok (.aload_n 0, 1) := by decide +kernel
theorem d_R_append_31 : decode prog_7_method_2_code 31 = .ok (.getfield 21, 3) := by decide +kernel
theorem d_R_append_34 : decode prog_7_method_2_code 34 = .ok (.aload_n 0, 1) := by decide +kernel
theorem d_R_append_35 : decode prog_7_method_2_code 35 = .ok (.getfield 38, 3) := by decide +kernel
theorem d_R_append_38 : decode prog_7_method_2_code 38 = .ok (.iload 4, 2) := by decide +kernel
theorem d_R_append_40 : decode prog_7_method_2_code 40 = .ok (.iastore, 1) := by decide +kernel
theorem d_R_append_41 : decode prog_7_method_2_code 41 = .ok (.aload_n 0, 1) := by decide +kernel
theorem d_R_append_42 : decode prog_7_method_2_code 42 = .ok (.getfield 24, 3) := by decide +kernel
theorem d_R_append_45 : decode prog_7_method_2_code 45 = .ok (.aload_n 0, 1) := by decide +kernel
theorem d_R_append_46 : decode prog_7_method_2_code 46 = .ok (.getfield 38, 3) := by decide +kernel
theorem d_R_append_49 : decode prog_7_method_2_code 49 = .ok (.iconst 0, 1) := by decide +kernel
theorem d_R_append_50 : decode prog_7_method_2_code 50 = .ok (.bastore, 1) := by decide +kernel
theorem d_R_append_51 : decode prog_7_method_2_code 51 = .ok (.aload_n 0, 1) := by decide +kernel
theorem d_R_append_52 : decode prog_7_method_2_code 52 = .ok (.getfield 31, 3) := by decide +kernel
theorem d_R_append_55 : decode prog_7_method_2_code 55 = .ok (.getfield 42, 3) := by decide +kernel
theorem d_R_append_58 : decode prog_7_method_2_code 58 = .ok (.aload_n 0, 1) := by decide +kernel
theorem d_R_append_59 : decode prog_7_method_2_code 59 = .ok (.getfield 38, 3) := by decide +kernel
theorem d_R_append_62 : decode prog_7_method_2_code 62 = .ok (.iconst 0, 1) := by decide +kernel
theorem d_R_append_63 : decode prog_7_method_2_code 63 = .ok (.iastore, 1) := by decide +kernel
theorem d_R_append_64 : decode prog_7_method_2_code 64 = .ok (.aload_n 0, 1) := by decide +kernel
theorem d_R_append_65 : decode prog_7_method_2_code 65 = .ok (.getfield 35, 3) := by decide +kernel
theorem d_R_append_68 : decode prog_7_method_2_code 68 = .ok (.getfield 42, 3) := by decide +kernel
theorem d_R_append_71 : decode prog_7_method_2_code 71 = .ok (.aload_n 0, 1) := by decide +kernel
theorem d_R_append_72 : decode prog_7_method_2_code 72 = .ok (.getfield 38, 3) := by decide +kernel
theorem d_R_append_75 : decode prog_7_method_2_code 75 = .ok (.iconst 0, 1) := by decide +kernel
theorem d_R_append_76 : decode prog_7_method_2_code 76 = .ok (.iastore, 1) := by decide +kernel
theorem d_R_append_77 : decode prog_7_method_2_code 77 = .ok (.aload_n 0, 1) := by decide +kernel
theorem d_R_append_78 : decode prog_7_method_2_code 78 = .ok (.dup, 1) := by decide +kernel
theorem d_R_append_79 : decode prog_7_method_2_code 79 = .ok (.getfield 38, 3) := by decide +kernel
theorem d_R_append_82 : decode prog_7_method_2_code 82 = .ok (.dup_x1, 1) := by decide +kernel
theorem d_R_append_83 : decode prog_7_method_2_code 83 = .ok (.iconst 1, 1) := by decide +kernel
theorem d_R_append_84 : decode prog_7_method_2_code 84 = .ok (.iadd, 1) := by decide +kernel
theorem d_R_append_85 : decode prog_7_method_2_code 85 = .ok (.putfield 38, 3) := by decide +kernel
theorem d_R_append_88 : decode prog_7_method_2_code 88 = .ok (.ireturn, 1) := by decide +kernel
theorem d_C_hasSpace_0 : decode prog_4_method_2_code 0 = .ok (.aload_n 0, 1) := by decide +kernel
theorem d_C_hasSpace_1 : decode prog_4_method_2_code 1 = .ok (.getfield 9, 3) := by decide +kernel
theorem d_C_hasSpace_4 : decode prog_4_method_2_code 4 = .ok (.iload_n 1, 1) := by decide +kernel
theorem d_C_hasSpace_5 : decode prog_4_method_2_code 5 = .ok (.iaload, 1) := by decide +kernel
theorem d_C_hasSpace_6 : decode prog_4_method_2_code 6 = .ok (.iconst 3, 1) := by decide +kernel
theorem d_C_hasSpace_7 : decode prog_4_method_2_code 7 = .ok (.if_icmp .ge 7, 3) := by decide +kernel
theorem d_C_hasSpace_14 : decode prog_4_method_2_code 14 = .ok (.iconst 0, 1) := by decide +kernel
theorem d_C_hasSpace_15 : decode prog_4_method_2_code 15 = .ok (.ireturn, 1) := by decide +kernel
theorem d_C_hasSpace_10 : decode prog_4_method_2_code 10 = .ok (.iconst 1, 1) := by decide +kernel
theorem d_C_hasSpace_11 : decode prog_4_method_2_code 11 = .ok (.goto 4, 3) := by decide +kernel
theorem d_C_endOf_0 : decode prog_4_method_4_code 0 = .ok (.iload_n 1, 1) := by decide +kernel
theorem d_C_endOf_1 : decode prog_4_method_4_code 1 = .ok (.iconst 3, 1) := by decide +kernel
theorem d_C_endOf_2 : decode prog_4_method_4_code 2 = .ok (.imul, 1) := by decide +kernel
theorem d_C_endOf_3 : decode prog_4_method_4_code 3 = .ok (.aload_n 0, 1) := by decide +kernel
theorem d_C_endOf_4 : decode prog_4_method_4_code 4 = .ok (.getfield 9, 3) := by decide +kernel
theorem d_C_endOf_7 : decode prog_4_method_4_code 7 = .ok (.iload_n 1, 1) := by decide +kernel
theorem d_C_endOf_8 : decode prog_4_method_4_code 8 = .ok (.iaload, 1) := by decide +kernel
theorem d_C_endOf_9 : decode prog_4_method_4_code 9 = .ok (.iadd, 1) := by decide +kernel
theorem d_C_endOf_10 : decode prog_4_method_4_code 10 = .ok (.ireturn, 1) := by decide +kernel
theorem d_C_append_0 : decode prog_4_method_5_code 0 = .ok (.aload_n 0, 1) := by decide +kernel
theorem d_C_append_1 : decode prog_4_method_5_code 1 = .ok (.iload_n 1, 1) := by decide +kernel
theorem d_C_append_2 : decode prog_4_method_5_code 2 = .ok (.invokevirtual 24, 3) := by decide +kernel
theorem d_C_append_5 : decode prog_4_method_5_code 5 = .ok (.istore 5, 2) := by decide +kernel
theorem d_C_append_7 : decode prog_4_method_5_code 7 = .ok (.aload_n 0, 1) := by decide +kernel
theorem d_C_append_8 : decode prog_4_method_5_code 8 = .ok (.getfield 15, 3) := by decide +kernel
theorem d_C_append_11 : decode prog_4_method_5_code 11 = .ok (.iload 5, 2) := by decide +kernel
theorem d_C_append_13 : decode prog_4_method_5_code 13 = .ok (.iload_n 2, 1) := by decide +kernel
theorem d_C_append_14 : decode prog_4_method_5_code 14 = .ok (.iastore, 1) := by decide +kernel
theorem d_C_append_15 : decode prog_4_method_5_code 15 = .ok (.aload_n 0, 1) := by decide +kernel
theorem d_C_append_16 : decode prog_4_method_5_code 16 = .ok (.getfield 18, 3) := by decide +kernel
theorem d_C_append_19 : decode prog_4_method_5_code 19 = .ok (.iload 5, 2) := by decide +kernel
theorem d_C_append_21 : decode prog_4_method_5_code 21 = .ok (.iload_n 3, 1) := by decide +kernel
theorem d_C_append_22 : decode prog_4_method_5_code 22 = .ok (.iastore, 1) := by decide +kernel
theorem d_C_append_23 : decode prog_4_method_5_code 23 = .ok (.aload_n 0, 1) := by decide +kernel
theorem d_C_append_24 : decode prog_4_method_5_code 24 = .ok (.getfield 21, 3) := by decide +kernel
theorem d_C_append_27 : decode prog_4_method_5_code 27 = .ok (.iload 5, 2) := by decide +kernel
theorem d_C_append_29 : decode prog_4_method_5_code 29 = .ok (.iload 4, 2) := by decide +kernel
theorem d_C_append_31 : decode prog_4_method_5_code 31 = .ok (.iastore, 1) := by decide +kernel
theorem d_C_append_32 : decode prog_4_method_5_code 32 = .ok (.aload_n 0, 1) := by decide +kernel
theorem d_C_append_33 : decode prog_4_method_5_code 33 = .ok (.getfield 9, 3) := by decide +kernel
theorem d_C_append_36 : decode prog_4_method_5_code 36 = .ok (.iload_n 1, 1) := by decide +kernel
theorem d_C_append_37 : decode prog_4_method_5_code 37 = .ok (.dup2, 1) := by decide +kernel
theorem d_C_append_38 : decode prog_4_method_5_code 38 = .ok (.iaload, 1) := by decide +kernel
theorem d_C_append_39 : decode prog_4_method_5_code 39 = .ok (.iconst 1, 1) := by decide +kernel
theorem d_C_append_40 : decode prog_4_method_5_code 40 = .ok (.iadd, 1) := by decide +kernel
theorem d_C_append_41 : decode prog_4_method_5_code 41 = .ok (.iastore, 1) := by decide +kernel
theorem d_C_append_42 : decode prog_4_method_5_code 42 = .ok (.return_, 1) := by decide +kernel
theorem d_B_placeOf_0 : decode prog_3_method_4_code 0 = .ok (.lload_n 0, 1) := by decide +kernel
theorem d_B_placeOf_1 : decode prog_3_method_4_code 1 = .ok (.iconst 3, 1) := by decide +kernel
theorem d_B_placeOf_2 : decode prog_3_method_4_code 2 = .ok (.iconst 4, 1) := by decide +kernel
theorem d_B_placeOf_3 : decode prog_3_method_4_code 3 = .ok (.iload_n 2, 1) := by decide +kernel
theorem d_B_placeOf_4 : decode prog_3_method_4_code 4 = .ok (.imul, 1) := by decide +kernel
theorem d_B_placeOf_5 : decode prog_3_method_4_code 5 = .ok (.iadd, 1) := by decide +kernel
theorem d_B_placeOf_6 : decode prog_3_method_4_code 6 = .ok (.lushr, 1) := by decide +kernel
theorem d_B_placeOf_7 : decode prog_3_method_4_code 7 = .ok (.l2i, 1) := by decide +kernel
theorem d_B_placeOf_8 : decode prog_3_method_4_code 8 = .ok (.bipush 15, 2) := by decide +kernel
theorem d_B_placeOf_10 : decode prog_3_method_4_code 10 = .ok (.iand, 1) := by decide +kernel
theorem d_B_placeOf_11 : decode prog_3_method_4_code 11 = .ok (.ireturn, 1) := by decide +kernel
theorem d_B_isOpen_0 : decode prog_3_method_6_code 0 = .ok (.lload_n 0, 1) := by decide +kernel
theorem d_B_isOpen_1 : decode prog_3_method_6_code 1 = .ok (.bipush 27, 2) := by decide +kernel
theorem d_B_isOpen_3 : decode prog_3_method_6_code 3 = .ok (.iload_n 2, 1) := by decide +kernel
theorem d_B_isOpen_4 : decode prog_3_method_6_code 4 = .ok (.iadd, 1) := by decide +kernel
theorem d_B_isOpen_5 : decode prog_3_method_6_code 5 = .ok (.lushr, 1) := by decide +kernel
theorem d_B_isOpen_6 : decode prog_3_method_6_code 6 = .ok (.lconst 1, 1) := by decide +kernel
theorem d_B_isOpen_7 : decode prog_3_method_6_code 7 = .ok (.land, 1) := by decide +kernel
theorem d_B_isOpen_8 : decode prog_3_method_6_code 8 = .ok (.lconst 0, 1) := by decide +kernel
theorem d_B_isOpen_9 : decode prog_3_method_6_code 9 = .ok (.lcmp, 1) := by decide +kernel
theorem d_B_isOpen_10 : decode prog_3_method_6_code 10 = .ok (.ifCond .eq 7, 3) := by decide +kernel
theorem d_B_isOpen_17 : decode prog_3_method_6_code 17 = .ok (.iconst 0, 1) := by decide +kernel
theorem d_B_isOpen_18 : decode prog_3_method_6_code 18 = .ok (.ireturn, 1) := by decide +kernel
theorem d_B_isOpen_13 : decode prog_3_method_6_code 13 = .ok (.iconst 1, 1) := by decide +kernel
end
section
theorem d_B_isOpen_14 : decode prog_3_method_6_code 14 = .ok (.goto 4, 3) := by decide +kernel
theorem d_B_roomOf_0 : decode prog_3_method_2_code 0 = .ok (.lload_n 0, 1) := by decide +kernel
theorem d_B_roomOf_1 : decode prog_3_method_2_code 1 = .ok (.l2i, 1) := by decide +kernel
theorem d_B_roomOf_2 : decode prog_3_method_2_code 2 = .ok (.bipush 7, 2) := by decide +kernel
theorem d_B_roomOf_4 : decode prog_3_method_2_code 4 = .ok (.iand, 1) := by decide +kernel
theorem d_B_roomOf_5 : decode prog_3_method_2_code 5 = .ok (.ireturn, 1) := by decide +kernel
theorem d_B_isSeen_0 : decode prog_3_method_17_code 0 = .ok (.lload_n 0, 1) := by decide +kernel
theorem d_B_isSeen_1 : decode prog_3_method_17_code 1 = .ok (.iload_n 2, 1) := by decide +kernel
theorem d_B_isSeen_2 : decode prog_3_method_17_code 2 = .ok (.invokestatic 19, 3) := by decide +kernel
theorem d_B_isSeen_5 : decode prog_3_method_17_code 5 = .ok (.istore_n 3, 1) := by decide +kernel
theorem d_B_isSeen_6 : decode prog_3_method_17_code 6 = .ok (.iconst 0, 1) := by decide +kernel
theorem d_B_isSeen_7 : decode prog_3_method_17_code 7 = .ok (.istore 4, 2) := by decide +kernel
theorem d_B_isSeen_9 : decode prog_3_method_17_code 9 = .ok (.iload 4, 2) := by decide +kernel
theorem d_B_isSeen_11 : decode prog_3_method_17_code 11 = .ok (.bipush 6, 2) := by decide +kernel
theorem d_B_isSeen_13 : decode prog_3_method_17_code 13 = .ok (.if_icmp .ge 37, 3) := by decide +kernel
theorem d_B_isSeen_16 : decode prog_3_method_17_code 16 = .ok (.iload_n 3, 1) := by decide +kernel
theorem d_B_isSeen_17 : decode prog_3_method_17_code 17 = .ok (.bipush 7, 2) := by decide +kernel
theorem d_B_isSeen_19 : decode prog_3_method_17_code 19 = .ok (.if_icmp .lt 31, 3) := by decide +kernel
theorem d_B_isSeen_22 : decode prog_3_method_17_code 22 = .ok (.lload_n 0, 1) := by decide +kernel
theorem d_B_isSeen_23 : decode prog_3_method_17_code 23 = .ok (.iload_n 3, 1) := by decide +kernel
theorem d_B_isSeen_24 : decode prog_3_method_17_code 24 = .ok (.bipush 7, 2) := by decide +kernel
theorem d_B_isSeen_26 : decode prog_3_method_17_code 26 = .ok (.isub, 1) := by decide +kernel
theorem d_B_isSeen_27 : decode prog_3_method_17_code 27 = .ok (.invokestatic 23, 3) := by decide +kernel
theorem d_B_isSeen_30 : decode prog_3_method_17_code 30 = .ok (.ifCond .ne 5, 3) := by decide +kernel
theorem d_B_isSeen_35 : decode prog_3_method_17_code 35 = .ok (.lload_n 0, 1) := by decide +kernel
theorem d_B_isSeen_36 : decode prog_3_method_17_code 36 = .ok (.iload_n 3, 1) := by decide +kernel
theorem d_B_isSeen_37 : decode prog_3_method_17_code 37 = .ok (.bipush 7, 2) := by decide +kernel
theorem d_B_isSeen_39 : decode prog_3_method_17_code 39 = .ok (.isub, 1) := by decide +kernel
theorem d_B_isSeen_40 : decode prog_3_method_17_code 40 = .ok (.invokestatic 19, 3) := by decide +kernel
theorem d_B_isSeen_43 : decode prog_3_method_17_code 43 = .ok (.istore_n 3, 1) := by decide +kernel
theorem d_B_isSeen_44 : decode prog_3_method_17_code 44 = .ok (.iinc 4 1, 3) := by decide +kernel
theorem d_B_isSeen_47 : decode prog_3_method_17_code 47 = .ok (.goto (-38), 3) := by decide +kernel
theorem d_B_isSeen_33 : decode prog_3_method_17_code 33 = .ok (.iconst 0, 1) := by decide +kernel
theorem d_B_isSeen_34 : decode prog_3_method_17_code 34 = .ok (.ireturn, 1) := by decide +kernel
theorem d_B_isSeen_50 : decode prog_3_method_17_code 50 = .ok (.iload_n 3, 1) := by decide +kernel
theorem d_B_isSeen_51 : decode prog_3_method_17_code 51 = .ok (.bipush 6, 2) := by decide +kernel
theorem d_B_isSeen_53 : decode prog_3_method_17_code 53 = .ok (.if_icmp .eq 11, 3) := by decide +kernel
theorem d_B_isSeen_64 : decode prog_3_method_17_code 64 = .ok (.iconst 1, 1) := by decide +kernel
theorem d_B_isSeen_65 : decode prog_3_method_17_code 65 = .ok (.goto 4, 3) := by decide +kernel
theorem d_B_isSeen_69 : decode prog_3_method_17_code 69 = .ok (.ireturn, 1) := by decide +kernel
theorem d_B_isSeen_56 : decode prog_3_method_17_code 56 = .ok (.iload_n 3, 1) := by decide +kernel
theorem d_B_isSeen_57 : decode prog_3_method_17_code 57 = .ok (.lload_n 0, 1) := by decide +kernel
theorem d_B_isSeen_58 : decode prog_3_method_17_code 58 = .ok (.invokestatic 27, 3) := by decide +kernel
theorem d_B_isSeen_61 : decode prog_3_method_17_code 61 = .ok (.if_icmp .ne 7, 3) := by decide +kernel
theorem d_B_isSeen_68 : decode prog_3_method_17_code 68 = .ok (.iconst 0, 1) := by decide +kernel
theorem d_E_isSeenOrNone_0 : decode prog_6_method_4_code 0 = .ok (.iload_n 1, 1) := by decide +kernel
theorem d_E_isSeenOrNone_1 : decode prog_6_method_4_code 1 = .ok (.iconst (-1), 1) := by decide +kernel
theorem d_E_isSeenOrNone_2 : decode prog_6_method_4_code 2 = .ok (.if_icmp .eq 14, 3) := by decide +kernel
theorem d_E_isSeenOrNone_16 : decode prog_6_method_4_code 16 = .ok (.iconst 1, 1) := by decide +kernel
theorem d_E_isSeenOrNone_17 : decode prog_6_method_4_code 17 = .ok (.goto 4, 3) := by decide +kernel
theorem d_E_isSeenOrNone_21 : decode prog_6_method_4_code 21 = .ok (.ireturn, 1) := by decide +kernel
theorem d_E_isSeenOrNone_5 : decode prog_6_method_4_code 5 = .ok (.aload_n 0, 1) := by decide +kernel
theorem d_E_isSeenOrNone_6 : decode prog_6_method_4_code 6 = .ok (.getfield 22, 3) := by decide +kernel
theorem d_E_isSeenOrNone_9 : decode prog_6_method_4_code 9 = .ok (.iload_n 1, 1) := by decide +kernel
theorem d_E_isSeenOrNone_10 : decode prog_6_method_4_code 10 = .ok (.invokestatic 86, 3) := by decide +kernel
theorem d_E_isSeenOrNone_13 : decode prog_6_method_4_code 13 = .ok (.ifCond .eq 7, 3) := by decide +kernel
theorem d_E_isSeenOrNone_20 : decode prog_6_method_4_code 20 = .ok (.iconst 0, 1) := by decide +kernel
theorem d_R_answers_0 : decode prog_7_method_3_code 0 = .ok (.aload_n 0, 1) := by decide +kernel
theorem d_R_answers_1 : decode prog_7_method_3_code 1 = .ok (.getfield 9, 3) := by decide +kernel
theorem d_R_answers_4 : decode prog_7_method_3_code 4 = .ok (.iload_n 1, 1) := by decide +kernel
theorem d_R_answers_5 : decode prog_7_method_3_code 5 = .ok (.iaload, 1) := by decide +kernel
theorem d_R_answers_6 : decode prog_7_method_3_code 6 = .ok (.iload_n 2, 1) := by decide +kernel
theorem d_R_answers_7 : decode prog_7_method_3_code 7 = .ok (.if_icmp .ne 59, 3) := by decide +kernel
theorem d_R_answers_66 : decode prog_7_method_3_code 66 = .ok (.iconst 0, 1) := by decide +kernel
theorem d_R_answers_67 : decode prog_7_method_3_code 67 = .ok (.ireturn, 1) := by decide +kernel
theorem d_R_answers_10 : decode prog_7_method_3_code 10 = .ok (.aload_n 0, 1) := by decide +kernel
theorem d_R_answers_11 : decode prog_7_method_3_code 11 = .ok (.getfield 15, 3) := by decide +kernel
theorem d_R_answers_14 : decode prog_7_method_3_code 14 = .ok (.iload_n 1, 1) := by decide +kernel
theorem d_R_answers_15 : decode prog_7_method_3_code 15 = .ok (.iaload, 1) := by decide +kernel
theorem d_R_answers_16 : decode prog_7_method_3_code 16 = .ok (.bipush (-2), 2) := by decide +kernel
theorem d_R_answers_18 : decode prog_7_method_3_code 18 = .ok (.if_icmp .eq 13, 3) := by decide +kernel
theorem d_R_answers_21 : decode prog_7_method_3_code 21 = .ok (.aload_n 0, 1) := by decide +kernel
theorem d_R_answers_22 : decode prog_7_method_3_code 22 = .ok (.getfield 15, 3) := by decide +kernel
theorem d_R_answers_25 : decode prog_7_method_3_code 25 = .ok (.iload_n 1, 1) := by decide +kernel
theorem d_R_answers_26 : decode prog_7_method_3_code 26 = .ok (.iaload, 1) := by decide +kernel
theorem d_R_answers_27 : decode prog_7_method_3_code 27 = .ok (.iload_n 3, 1) := by decide +kernel
theorem d_R_answers_28 : decode prog_7_method_3_code 28 = .ok (.if_icmp .ne 38, 3) := by decide +kernel
theorem d_R_answers_31 : decode prog_7_method_3_code 31 = .ok (.aload_n 0, 1) := by decide +kernel
theorem d_R_answers_32 : decode prog_7_method_3_code 32 = .ok (.getfield 18, 3) := by decide +kernel
theorem d_R_answers_35 : decode prog_7_method_3_code 35 = .ok (.iload_n 1, 1) := by decide +kernel
theorem d_R_answers_36 : decode prog_7_method_3_code 36 = .ok (.iaload, 1) := by decide +kernel
theorem d_R_answers_37 : decode prog_7_method_3_code 37 = .ok (.bipush (-2), 2) := by decide +kernel
theorem d_R_answers_39 : decode prog_7_method_3_code 39 = .ok (.if_icmp .eq 14, 3) := by decide +kernel
theorem d_R_answers_42 : decode prog_7_method_3_code 42 = .ok (.aload_n 0, 1) := by decide +kernel
theorem d_R_answers_43 : decode prog_7_method_3_code 43 = .ok (.getfield 18, 3) := by decide +kernel
theorem d_R_answers_46 : decode prog_7_method_3_code 46 = .ok (.iload_n 1, 1) := by decide +kernel
theorem d_R_answers_47 : decode prog_7_method_3_code 47 = .ok (.iaload, 1) := by decide +kernel
theorem d_R_answers_48 : decode prog_7_method_3_code 48 = .ok (.iload 4, 2) := by decide +kernel
theorem d_R_answers_50 : decode prog_7_method_3_code 50 = .ok (.if_icmp .ne 16, 3) := by decide +kernel
theorem d_R_answers_53 : decode prog_7_method_3_code 53 = .ok (.aload_n 0, 1) := by decide +kernel
theorem d_R_answers_54 : decode prog_7_method_3_code 54 = .ok (.getfield 24, 3) := by decide +kernel
theorem d_R_answers_57 : decode prog_7_method_3_code 57 = .ok (.iload_n 1, 1) := by decide +kernel
theorem d_R_answers_58 : decode prog_7_method_3_code 58 = .ok (.baload, 1) := by decide +kernel
theorem d_R_answers_59 : decode prog_7_method_3_code 59 = .ok (.ifCond .ne 7, 3) := by decide +kernel
theorem d_R_answers_62 : decode prog_7_method_3_code 62 = .ok (.iconst 1, 1) := by decide +kernel
theorem d_R_answers_63 : decode prog_7_method_3_code 63 = .ok (.goto 4, 3) := by decide +kernel
theorem d_C_startOf_0 : decode prog_4_method_3_code 0 = .ok (.iload_n 1, 1) := by decide +kernel
theorem d_C_startOf_1 : decode prog_4_method_3_code 1 = .ok (.iconst 3, 1) := by decide +kernel
theorem d_C_startOf_2 : decode prog_4_method_3_code 2 = .ok (.imul, 1) := by decide +kernel
theorem d_C_startOf_3 : decode prog_4_method_3_code 3 = .ok (.ireturn, 1) := by decide +kernel
theorem d_B_amountOf_0 : decode prog_3_method_8_code 0 = .ok (.lload_n 0, 1) := by decide +kernel
theorem d_B_amountOf_1 : decode prog_3_method_8_code 1 = .ok (.bipush 33, 2) := by decide +kernel
theorem d_B_amountOf_3 : decode prog_3_method_8_code 3 = .ok (.iconst 3, 1) := by decide +kernel
theorem d_B_amountOf_4 : decode prog_3_method_8_code 4 = .ok (.iload_n 2, 1) := by decide +kernel
theorem d_B_amountOf_5 : decode prog_3_method_8_code 5 = .ok (.imul, 1) := by decide +kernel
theorem d_B_amountOf_6 : decode prog_3_method_8_code 6 = .ok (.iadd, 1) := by decide +kernel
theorem d_B_amountOf_7 : decode prog_3_method_8_code 7 = .ok (.lushr, 1) := by decide +kernel
theorem d_B_amountOf_8 : decode prog_3_method_8_code 8 = .ok (.l2i, 1) := by decide +kernel
theorem d_B_amountOf_9 : decode prog_3_method_8_code 9 = .ok (.bipush 7, 2) := by decide +kernel
theorem d_B_amountOf_11 : decode prog_3_method_8_code 11 = .ok (.iand, 1) := by decide +kernel
theorem d_B_amountOf_12 : decode prog_3_method_8_code 12 = .ok (.ireturn, 1) := by decide +kernel
theorem d_E_holds_0 : decode prog_6_method_6_code 0 = .ok (.iload_n 1, 1) := by decide +kernel
theorem d_E_holds_1 : decode prog_6_method_6_code 1 = .ok (.tableswitch 111 0 3 #[31, 48, 66, 93], 31) := by decide +kernel
theorem d_E_holds_32 : decode prog_6_method_6_code 32 = .ok (.aload_n 0, 1) := by decide +kernel
theorem d_E_holds_33 : decode prog_6_method_6_code 33 = .ok (.getfield 22, 3) := by decide +kernel
theorem d_E_holds_36 : decode prog_6_method_6_code 36 = .ok (.invokestatic 115, 3) := by decide +kernel
theorem d_E_holds_39 : decode prog_6_method_6_code 39 = .ok (.iload_n 2, 1) := by decide +kernel
theorem d_E_holds_40 : decode prog_6_method_6_code 40 = .ok (.if_icmp .ne 7, 3) := by decide +kernel
theorem d_E_holds_47 : decode prog_6_method_6_code 47 = .ok (.iconst 0, 1) := by decide +kernel
theorem d_E_holds_48 : decode prog_6_method_6_code 48 = .ok (.ireturn, 1) := by decide +kernel
theorem d_E_holds_43 : decode prog_6_method_6_code 43 = .ok (.iconst 1, 1) := by decide +kernel
theorem d_E_holds_44 : decode prog_6_method_6_code 44 = .ok (.goto 4, 3) := by decide +kernel
theorem d_E_holds_49 : decode prog_6_method_6_code 49 = .ok (.aload_n 0, 1) := by decide +kernel
theorem d_E_holds_50 : decode prog_6_method_6_code 50 = .ok (.getfield 22, 3) := by decide +kernel
theorem d_E_holds_53 : decode prog_6_method_6_code 53 = .ok (.iload_n 2, 1) := by decide +kernel
theorem d_E_holds_54 : decode prog_6_method_6_code 54 = .ok (.invokestatic 119, 3) := by decide +kernel
theorem d_E_holds_57 : decode prog_6_method_6_code 57 = .ok (.iload_n 3, 1) := by decide +kernel
theorem d_E_holds_58 : decode prog_6_method_6_code 58 = .ok (.if_icmp .ne 7, 3) := by decide +kernel
theorem d_E_holds_65 : decode prog_6_method_6_code 65 = .ok (.iconst 0, 1) := by decide +kernel
theorem d_E_holds_66 : decode prog_6_method_6_code 66 = .ok (.ireturn, 1) := by decide +kernel
theorem d_E_holds_61 : decode prog_6_method_6_code 61 = .ok (.iconst 1, 1) := by decide +kernel
theorem d_E_holds_62 : decode prog_6_method_6_code 62 = .ok (.goto 4, 3) := by decide +kernel
theorem d_E_holds_67 : decode prog_6_method_6_code 67 = .ok (.aload_n 0, 1) := by decide +kernel
theorem d_E_holds_68 : decode prog_6_method_6_code 68 = .ok (.getfield 22, 3) := by decide +kernel
theorem d_E_holds_71 : decode prog_6_method_6_code 71 = .ok (.iload_n 2, 1) := by decide +kernel
theorem d_E_holds_72 : decode prog_6_method_6_code 72 = .ok (.invokestatic 123, 3) := by decide +kernel
theorem d_E_holds_75 : decode prog_6_method_6_code 75 = .ok (.iload_n 3, 1) := by decide +kernel
theorem d_E_holds_76 : decode prog_6_method_6_code 76 = .ok (.iconst 1, 1) := by decide +kernel
theorem d_E_holds_77 : decode prog_6_method_6_code 77 = .ok (.if_icmp .ne 7, 3) := by decide +kernel
theorem d_E_holds_84 : decode prog_6_method_6_code 84 = .ok (.iconst 0, 1) := by decide +kernel
theorem d_E_holds_85 : decode prog_6_method_6_code 85 = .ok (.if_icmp .ne 7, 3) := by decide +kernel
theorem d_E_holds_92 : decode prog_6_method_6_code 92 = .ok (.iconst 0, 1) := by decide +kernel
theorem d_E_holds_93 : decode prog_6_method_6_code 93 = .ok (.ireturn, 1) := by decide +kernel
theorem d_E_holds_88 : decode prog_6_method_6_code 88 = .ok (.iconst 1, 1) := by decide +kernel
theorem d_E_holds_89 : decode prog_6_method_6_code 89 = .ok (.goto 4, 3) := by decide +kernel
theorem d_E_holds_80 : decode prog_6_method_6_code 80 = .ok (.iconst 1, 1) := by decide +kernel
theorem d_E_holds_81 : decode prog_6_method_6_code 81 = .ok (.goto 4, 3) := by decide +kernel
theorem d_E_holds_94 : decode prog_6_method_6_code 94 = .ok (.aload_n 0, 1) := by decide +kernel
theorem d_E_holds_95 : decode prog_6_method_6_code 95 = .ok (.getfield 22, 3) := by decide +kernel
theorem d_E_holds_98 : decode prog_6_method_6_code 98 = .ok (.iload_n 2, 1) := by decide +kernel
theorem d_E_holds_99 : decode prog_6_method_6_code 99 = .ok (.invokestatic 126, 3) := by decide +kernel
theorem d_E_holds_102 : decode prog_6_method_6_code 102 = .ok (.iload_n 3, 1) := by decide +kernel
theorem d_E_holds_103 : decode prog_6_method_6_code 103 = .ok (.if_icmp .lt 7, 3) := by decide +kernel
theorem d_E_holds_110 : decode prog_6_method_6_code 110 = .ok (.iconst 0, 1) := by decide +kernel
theorem d_E_holds_111 : decode prog_6_method_6_code 111 = .ok (.ireturn, 1) := by decide +kernel
theorem d_E_holds_106 : decode prog_6_method_6_code 106 = .ok (.iconst 1, 1) := by decide +kernel
theorem d_E_holds_107 : decode prog_6_method_6_code 107 = .ok (.goto 4, 3) := by decide +kernel
theorem d_E_holds_112 : decode prog_6_method_6_code 112 = .ok (.aload_n 0, 1) := by decide +kernel
theorem d_E_holds_113 : decode prog_6_method_6_code 113 = .ok (.getfield 22, 3) := by decide +kernel
theorem d_E_holds_116 : decode prog_6_method_6_code 116 = .ok (.iload_n 2, 1) := by decide +kernel
theorem d_E_holds_117 : decode prog_6_method_6_code 117 = .ok (.invokestatic 126, 3) := by decide +kernel
theorem d_E_holds_120 : decode prog_6_method_6_code 120 = .ok (.iload_n 3, 1) := by decide +kernel
theorem d_E_holds_121 : decode prog_6_method_6_code 121 = .ok (.if_icmp .gt 7, 3) := by decide +kernel
theorem d_E_holds_128 : decode prog_6_method_6_code 128 = .ok (.iconst 0, 1) := by decide +kernel
theorem d_E_holds_129 : decode prog_6_method_6_code 129 = .ok (.ireturn, 1) := by decide +kernel
theorem d_E_holds_124 : decode prog_6_method_6_code 124 = .ok (.iconst 1, 1) := by decide +kernel
theorem d_E_holds_125 : decode prog_6_method_6_code 125 = .ok (.goto 4, 3) := by decide +kernel
theorem d_E_conditionsHold_0 : decode prog_6_method_5_code 0 = .ok (.aload_n 0, 1) := by decide +kernel
theorem d_E_conditionsHold_1 : decode prog_6_method_5_code 1 = .ok (.getfield 12, 3) := by decide +kernel
theorem d_E_conditionsHold_4 : decode prog_6_method_5_code 4 = .ok (.getfield 73, 3) := by decide +kernel
theorem d_E_conditionsHold_7 : decode prog_6_method_5_code 7 = .ok (.getfield 90, 3) := by decide +kernel
theorem d_E_conditionsHold_10 : decode prog_6_method_5_code 10 = .ok (.astore_n 2, 1) := by decide +kernel
theorem d_E_conditionsHold_11 : decode prog_6_method_5_code 11 = .ok (.aload_n 2, 1) := by decide +kernel
theorem d_E_conditionsHold_12 : decode prog_6_method_5_code 12 = .ok (.iload_n 1, 1) := by decide +kernel
theorem d_E_conditionsHold_13 : decode prog_6_method_5_code 13 = .ok (.invokevirtual 94, 3) := by decide +kernel
theorem d_E_conditionsHold_16 : decode prog_6_method_5_code 16 = .ok (.istore_n 3, 1) := by decide +kernel
theorem d_E_conditionsHold_17 : decode prog_6_method_5_code 17 = .ok (.aload_n 2, 1) := by decide +kernel
theorem d_E_conditionsHold_18 : decode prog_6_method_5_code 18 = .ok (.iload_n 1, 1) := by decide +kernel
theorem d_E_conditionsHold_19 : decode prog_6_method_5_code 19 = .ok (.invokevirtual 100, 3) := by decide +kernel
theorem d_E_conditionsHold_22 : decode prog_6_method_5_code 22 = .ok (.istore 4, 2) := by decide +kernel
theorem d_E_conditionsHold_24 : decode prog_6_method_5_code 24 = .ok (.iload 4, 2) := by decide +kernel
theorem d_E_conditionsHold_26 : decode prog_6_method_5_code 26 = .ok (.iload_n 3, 1) := by decide +kernel
theorem d_E_conditionsHold_27 : decode prog_6_method_5_code 27 = .ok (.if_icmp .ge 39, 3) := by decide +kernel
theorem d_E_conditionsHold_66 : decode prog_6_method_5_code 66 = .ok (.iconst 1, 1) := by decide +kernel
theorem d_E_conditionsHold_67 : decode prog_6_method_5_code 67 = .ok (.ireturn, 1) := by decide +kernel
theorem d_E_conditionsHold_30 : decode prog_6_method_5_code 30 = .ok (.aload_n 0, 1) := by decide +kernel
theorem d_E_conditionsHold_31 : decode prog_6_method_5_code 31 = .ok (.aload_n 2, 1) := by decide +kernel
theorem d_E_conditionsHold_32 : decode prog_6_method_5_code 32 = .ok (.getfield 103, 3) := by decide +kernel
theorem d_E_conditionsHold_35 : decode prog_6_method_5_code 35 = .ok (.iload 4, 2) := by decide +kernel
theorem d_E_conditionsHold_37 : decode prog_6_method_5_code 37 = .ok (.iaload, 1) := by decide +kernel
theorem d_E_conditionsHold_38 : decode prog_6_method_5_code 38 = .ok (.aload_n 2, 1) := by decide +kernel
theorem d_E_conditionsHold_39 : decode prog_6_method_5_code 39 = .ok (.getfield 106, 3) := by decide +kernel
theorem d_E_conditionsHold_42 : decode prog_6_method_5_code 42 = .ok (.iload 4, 2) := by decide +kernel
theorem d_E_conditionsHold_44 : decode prog_6_method_5_code 44 = .ok (.iaload, 1) := by decide +kernel
theorem d_E_conditionsHold_45 : decode prog_6_method_5_code 45 = .ok (.aload_n 2, 1) := by decide +kernel
theorem d_E_conditionsHold_46 : decode prog_6_method_5_code 46 = .ok (.getfield 109, 3) := by decide +kernel
theorem d_E_conditionsHold_49 : decode prog_6_method_5_code 49 = .ok (.iload 4, 2) := by decide +kernel
theorem d_E_conditionsHold_51 : decode prog_6_method_5_code 51 = .ok (.iaload, 1) := by decide +kernel
theorem d_E_conditionsHold_52 : decode prog_6_method_5_code 52 = .ok (.invokevirtual 112, 3) := by decide +kernel
theorem d_E_conditionsHold_55 : decode prog_6_method_5_code 55 = .ok (.ifCond .ne 5, 3) := by decide +kernel
theorem d_E_conditionsHold_60 : decode prog_6_method_5_code 60 = .ok (.iinc 4 1, 3) := by decide +kernel
theorem d_E_conditionsHold_63 : decode prog_6_method_5_code 63 = .ok (.goto (-39), 3) := by decide +kernel
theorem d_E_conditionsHold_58 : decode prog_6_method_5_code 58 = .ok (.iconst 0, 1) := by decide +kernel
theorem d_E_conditionsHold_59 : decode prog_6_method_5_code 59 = .ok (.ireturn, 1) := by decide +kernel
theorem d_E_fittingRule_0 : decode prog_6_method_3_code 0 = .ok (.iload_n 1, 1) := by decide +kernel
theorem d_E_fittingRule_1 : decode prog_6_method_3_code 1 = .ok (.ifCond .eq 21, 3) := by decide +kernel
theorem d_E_fittingRule_4 : decode prog_6_method_3_code 4 = .ok (.aload_n 0, 1) := by decide +kernel
theorem d_E_fittingRule_5 : decode prog_6_method_3_code 5 = .ok (.iload_n 2, 1) := by decide +kernel
theorem d_E_fittingRule_6 : decode prog_6_method_3_code 6 = .ok (.invokevirtual 70, 3) := by decide +kernel
theorem d_E_fittingRule_9 : decode prog_6_method_3_code 9 = .ok (.ifCond .eq 11, 3) := by decide +kernel
theorem d_E_fittingRule_20 : decode prog_6_method_3_code 20 = .ok (.iconst (-1), 1) := by decide +kernel
theorem d_E_fittingRule_21 : decode prog_6_method_3_code 21 = .ok (.ireturn, 1) := by decide +kernel
theorem d_E_fittingRule_12 : decode prog_6_method_3_code 12 = .ok (.aload_n 0, 1) := by decide +kernel
theorem d_E_fittingRule_13 : decode prog_6_method_3_code 13 = .ok (.iload_n 3, 1) := by decide +kernel
theorem d_E_fittingRule_14 : decode prog_6_method_3_code 14 = .ok (.invokevirtual 70, 3) := by decide +kernel
theorem d_E_fittingRule_17 : decode prog_6_method_3_code 17 = .ok (.ifCond .ne 5, 3) := by decide +kernel
theorem d_E_fittingRule_22 : decode prog_6_method_3_code 22 = .ok (.iconst 0, 1) := by decide +kernel
theorem d_E_fittingRule_23 : decode prog_6_method_3_code 23 = .ok (.istore 4, 2) := by decide +kernel
theorem d_E_fittingRule_25 : decode prog_6_method_3_code 25 = .ok (.iload 4, 2) := by decide +kernel
theorem d_E_fittingRule_27 : decode prog_6_method_3_code 27 = .ok (.aload_n 0, 1) := by decide +kernel
theorem d_E_fittingRule_28 : decode prog_6_method_3_code 28 = .ok (.getfield 12, 3) := by decide +kernel
theorem d_E_fittingRule_31 : decode prog_6_method_3_code 31 = .ok (.getfield 73, 3) := by decide +kernel
theorem d_E_fittingRule_34 : decode prog_6_method_3_code 34 = .ok (.getfield 77, 3) := by decide +kernel
theorem d_E_fittingRule_37 : decode prog_6_method_3_code 37 = .ok (.if_icmp .ge 39, 3) := by decide +kernel
theorem d_E_fittingRule_76 : decode prog_6_method_3_code 76 = .ok (.iconst (-1), 1) := by decide +kernel
theorem d_E_fittingRule_77 : decode prog_6_method_3_code 77 = .ok (.ireturn, 1) := by decide +kernel
theorem d_E_fittingRule_40 : decode prog_6_method_3_code 40 = .ok (.aload_n 0, 1) := by decide +kernel
theorem d_E_fittingRule_41 : decode prog_6_method_3_code 41 = .ok (.getfield 12, 3) := by decide +kernel
theorem d_E_fittingRule_44 : decode prog_6_method_3_code 44 = .ok (.getfield 73, 3) := by decide +kernel
theorem d_E_fittingRule_47 : decode prog_6_method_3_code 47 = .ok (.iload 4, 2) := by decide +kernel
theorem d_E_fittingRule_49 : decode prog_6_method_3_code 49 = .ok (.iload_n 1, 1) := by decide +kernel
theorem d_E_fittingRule_50 : decode prog_6_method_3_code 50 = .ok (.iload_n 2, 1) := by decide +kernel
theorem d_E_fittingRule_51 : decode prog_6_method_3_code 51 = .ok (.iload_n 3, 1) := by decide +kernel
theorem d_E_fittingRule_52 : decode prog_6_method_3_code 52 = .ok (.invokevirtual 82, 3) := by decide +kernel
theorem d_E_fittingRule_55 : decode prog_6_method_3_code 55 = .ok (.ifCond .eq 15, 3) := by decide +kernel
theorem d_E_fittingRule_70 : decode prog_6_method_3_code 70 = .ok (.iinc 4 1, 3) := by decide +kernel
theorem d_E_fittingRule_73 : decode prog_6_method_3_code 73 = .ok (.goto (-48), 3) := by decide +kernel
theorem d_E_fittingRule_58 : decode prog_6_method_3_code 58 = .ok (.aload_n 0, 1) := by decide +kernel
theorem d_E_fittingRule_59 : decode prog_6_method_3_code 59 = .ok (.iload 4, 2) := by decide +kernel
theorem d_E_fittingRule_61 : decode prog_6_method_3_code 61 = .ok (.invokevirtual 67, 3) := by decide +kernel
theorem d_E_fittingRule_64 : decode prog_6_method_3_code 64 = .ok (.ifCond .eq 6, 3) := by decide +kernel
theorem d_E_fittingRule_67 : decode prog_6_method_3_code 67 = .ok (.iload 4, 2) := by decide +kernel
theorem d_E_fittingRule_69 : decode prog_6_method_3_code 69 = .ok (.ireturn, 1) := by decide +kernel
theorem d_E_say_0 : decode prog_6_method_17_code 0 = .ok (.aload_n 0, 1) := by decide +kernel
theorem d_E_say_1 : decode prog_6_method_17_code 1 = .ok (.getfield 26, 3) := by decide +kernel
theorem d_E_say_4 : decode prog_6_method_17_code 4 = .ok (.iconst 3, 1) := by decide +kernel
theorem d_E_say_5 : decode prog_6_method_17_code 5 = .ok (.if_icmp .ge 23, 3) := by decide +kernel
theorem d_E_say_28 : decode prog_6_method_17_code 28 = .ok (.return_, 1) := by decide +kernel
theorem d_E_say_8 : decode prog_6_method_17_code 8 = .ok (.aload_n 0, 1) := by decide +kernel
theorem d_E_say_9 : decode prog_6_method_17_code 9 = .ok (.getfield 18, 3) := by decide +kernel
theorem d_E_say_12 : decode prog_6_method_17_code 12 = .ok (.aload_n 0, 1) := by decide +kernel
theorem d_E_say_13 : decode prog_6_method_17_code 13 = .ok (.getfield 26, 3) := by decide +kernel
theorem d_E_say_16 : decode prog_6_method_17_code 16 = .ok (.iload_n 1, 1) := by decide +kernel
theorem d_E_say_17 : decode prog_6_method_17_code 17 = .ok (.iastore, 1) := by decide +kernel
theorem d_E_say_18 : decode prog_6_method_17_code 18 = .ok (.aload_n 0, 1) := by decide +kernel
theorem d_E_say_19 : decode prog_6_method_17_code 19 = .ok (.dup, 1) := by decide +kernel
theorem d_E_say_20 : decode prog_6_method_17_code 20 = .ok (.getfield 26, 3) := by decide +kernel
theorem d_E_say_23 : decode prog_6_method_17_code 23 = .ok (.iconst 1, 1) := by decide +kernel
theorem d_E_say_24 : decode prog_6_method_17_code 24 = .ok (.iadd, 1) := by decide +kernel
theorem d_E_say_25 : decode prog_6_method_17_code 25 = .ok (.putfield 26, 3) := by decide +kernel
theorem d_B_endingOf_0 : decode prog_3_method_15_code 0 = .ok (.lload_n 0, 1) := by decide +kernel
theorem d_B_endingOf_1 : decode prog_3_method_15_code 1 = .ok (.bipush 54, 2) := by decide +kernel
theorem d_B_endingOf_3 : decode prog_3_method_15_code 3 = .ok (.lushr, 1) := by decide +kernel
theorem d_B_endingOf_4 : decode prog_3_method_15_code 4 = .ok (.l2i, 1) := by decide +kernel
theorem d_B_endingOf_5 : decode prog_3_method_15_code 5 = .ok (.bipush 7, 2) := by decide +kernel
theorem d_B_endingOf_7 : decode prog_3_method_15_code 7 = .ok (.iand, 1) := by decide +kernel
theorem d_B_endingOf_8 : decode prog_3_method_15_code 8 = .ok (.iconst 1, 1) := by decide +kernel
theorem d_B_endingOf_9 : decode prog_3_method_15_code 9 = .ok (.isub, 1) := by decide +kernel
theorem d_B_endingOf_10 : decode prog_3_method_15_code 10 = .ok (.ireturn, 1) := by decide +kernel
theorem d_B_isOver_0 : decode prog_3_method_14_code 0 = .ok (.lload_n 0, 1) := by decide +kernel
theorem d_B_isOver_1 : decode prog_3_method_14_code 1 = .ok (.invokestatic 15, 3) := by decide +kernel
theorem d_B_isOver_4 : decode prog_3_method_14_code 4 = .ok (.iconst (-1), 1) := by decide +kernel
theorem d_B_isOver_5 : decode prog_3_method_14_code 5 = .ok (.if_icmp .eq 7, 3) := by decide +kernel
theorem d_B_isOver_12 : decode prog_3_method_14_code 12 = .ok (.iconst 0, 1) := by decide +kernel
theorem d_B_isOver_13 : decode prog_3_method_14_code 13 = .ok (.ireturn, 1) := by decide +kernel
theorem d_B_isOver_8 : decode prog_3_method_14_code 8 = .ok (.iconst 1, 1) := by decide +kernel
theorem d_B_isOver_9 : decode prog_3_method_14_code 9 = .ok (.goto 4, 3) := by decide +kernel
theorem d_B_withEnding_0 : decode prog_3_method_16_code 0 = .ok (.lload_n 0, 1) := by decide +kernel
theorem d_B_withEnding_1 : decode prog_3_method_16_code 1 = .ok (.bipush 54, 2) := by decide +kernel
theorem d_B_withEnding_3 : decode prog_3_method_16_code 3 = .ok (.bipush 7, 2) := by decide +kernel
theorem d_B_withEnding_5 : decode prog_3_method_16_code 5 = .ok (.iload_n 2, 1) := by decide +kernel
theorem d_B_withEnding_6 : decode prog_3_method_16_code 6 = .ok (.iconst 1, 1) := by decide +kernel
theorem d_B_withEnding_7 : decode prog_3_method_16_code 7 = .ok (.iadd, 1) := by decide +kernel
theorem d_B_withEnding_8 : decode prog_3_method_16_code 8 = .ok (.invokestatic 9, 3) := by decide +kernel
theorem d_B_withEnding_11 : decode prog_3_method_16_code 11 = .ok (.lreturn, 1) := by decide +kernel
theorem d_B_isPartOf_0 : decode prog_3_method_18_code 0 = .ok (.iload_n 2, 1) := by decide +kernel
theorem d_B_isPartOf_1 : decode prog_3_method_18_code 1 = .ok (.istore 4, 2) := by decide +kernel
theorem d_B_isPartOf_3 : decode prog_3_method_18_code 3 = .ok (.iconst 0, 1) := by decide +kernel
theorem d_B_isPartOf_4 : decode prog_3_method_18_code 4 = .ok (.istore 5, 2) := by decide +kernel
theorem d_B_isPartOf_6 : decode prog_3_method_18_code 6 = .ok (.iload 5, 2) := by decide +kernel
theorem d_B_isPartOf_8 : decode prog_3_method_18_code 8 = .ok (.bipush 6, 2) := by decide +kernel
theorem d_B_isPartOf_10 : decode prog_3_method_18_code 10 = .ok (.if_icmp .ge 33, 3) := by decide +kernel
theorem d_B_isPartOf_43 : decode prog_3_method_18_code 43 = .ok (.iconst 0, 1) := by decide +kernel
theorem d_B_isPartOf_44 : decode prog_3_method_18_code 44 = .ok (.ireturn, 1) := by decide +kernel
theorem d_B_isPartOf_13 : decode prog_3_method_18_code 13 = .ok (.iload 4, 2) := by decide +kernel
theorem d_B_isPartOf_15 : decode prog_3_method_18_code 15 = .ok (.ifCond .lt 28, 3) := by decide +kernel
theorem d_B_isPartOf_18 : decode prog_3_method_18_code 18 = .ok (.iload 4, 2) := by decide +kernel
theorem d_B_isPartOf_20 : decode prog_3_method_18_code 20 = .ok (.iload_n 3, 1) := by decide +kernel
theorem d_B_isPartOf_21 : decode prog_3_method_18_code 21 = .ok (.if_icmp .ne 5, 3) := by decide +kernel
theorem d_B_isPartOf_26 : decode prog_3_method_18_code 26 = .ok (.lload_n 0, 1) := by decide +kernel
theorem d_B_isPartOf_27 : decode prog_3_method_18_code 27 = .ok (.iload 4, 2) := by decide +kernel
theorem d_B_isPartOf_29 : decode prog_3_method_18_code 29 = .ok (.invokestatic 19, 3) := by decide +kernel
theorem d_B_isPartOf_32 : decode prog_3_method_18_code 32 = .ok (.bipush 7, 2) := by decide +kernel
theorem d_B_isPartOf_34 : decode prog_3_method_18_code 34 = .ok (.isub, 1) := by decide +kernel
theorem d_B_isPartOf_35 : decode prog_3_method_18_code 35 = .ok (.istore 4, 2) := by decide +kernel
theorem d_B_isPartOf_37 : decode prog_3_method_18_code 37 = .ok (.iinc 5 1, 3) := by decide +kernel
theorem d_B_isPartOf_40 : decode prog_3_method_18_code 40 = .ok (.goto (-34), 3) := by decide +kernel
theorem d_B_isPartOf_24 : decode prog_3_method_18_code 24 = .ok (.iconst 1, 1) := by decide +kernel
theorem d_B_isPartOf_25 : decode prog_3_method_18_code 25 = .ok (.ireturn, 1) := by decide +kernel
theorem d_B_withRoom_0 : decode prog_3_method_3_code 0 = .ok (.lload_n 0, 1) := by decide +kernel
theorem d_B_withRoom_1 : decode prog_3_method_3_code 1 = .ok (.iconst 0, 1) := by decide +kernel
theorem d_B_withRoom_2 : decode prog_3_method_3_code 2 = .ok (.bipush 7, 2) := by decide +kernel
theorem d_B_withRoom_4 : decode prog_3_method_3_code 4 = .ok (.iload_n 2, 1) := by decide +kernel
theorem d_B_withRoom_5 : decode prog_3_method_3_code 5 = .ok (.invokestatic 9, 3) := by decide +kernel
theorem d_B_withRoom_8 : decode prog_3_method_3_code 8 = .ok (.lreturn, 1) := by decide +kernel
theorem d_E_doEffect_0 : decode prog_6_method_8_code 0 = .ok (.iload_n 1, 1) := by decide +kernel
theorem d_E_doEffect_1 : decode prog_6_method_8_code 1 = .ok (.tableswitch 144 0 3 #[31, 46, 83, 99], 31) := by decide +kernel
theorem d_E_doEffect_32 : decode prog_6_method_8_code 32 = .ok (.aload_n 0, 1) := by decide +kernel
theorem d_E_doEffect_33 : decode prog_6_method_8_code 33 = .ok (.aload_n 0, 1) := by decide +kernel
theorem d_E_doEffect_34 : decode prog_6_method_8_code 34 = .ok (.getfield 22, 3) := by decide +kernel
theorem d_E_doEffect_37 : decode prog_6_method_8_code 37 = .ok (.iload_n 2, 1) := by decide +kernel
theorem d_E_doEffect_38 : decode prog_6_method_8_code 38 = .ok (.invokestatic 137, 3) := by decide +kernel
theorem d_E_doEffect_41 : decode prog_6_method_8_code 41 = .ok (.putfield 22, 3) := by decide +kernel
theorem d_E_doEffect_44 : decode prog_6_method_8_code 44 = .ok (.goto 113, 3) := by decide +kernel
theorem d_E_doEffect_157 : decode prog_6_method_8_code 157 = .ok (.return_, 1) := by decide +kernel
theorem d_E_doEffect_47 : decode prog_6_method_8_code 47 = .ok (.iload_n 3, 1) := by decide +kernel
theorem d_E_doEffect_48 : decode prog_6_method_8_code 48 = .ok (.bipush 7, 2) := by decide +kernel
theorem d_E_doEffect_50 : decode prog_6_method_8_code 50 = .ok (.if_icmp .lt 18, 3) := by decide +kernel
theorem d_E_doEffect_53 : decode prog_6_method_8_code 53 = .ok (.aload_n 0, 1) := by decide +kernel
theorem d_E_doEffect_54 : decode prog_6_method_8_code 54 = .ok (.getfield 22, 3) := by decide +kernel
theorem d_E_doEffect_57 : decode prog_6_method_8_code 57 = .ok (.iload_n 3, 1) := by decide +kernel
theorem d_E_doEffect_58 : decode prog_6_method_8_code 58 = .ok (.bipush 7, 2) := by decide +kernel
theorem d_E_doEffect_60 : decode prog_6_method_8_code 60 = .ok (.isub, 1) := by decide +kernel
theorem d_E_doEffect_61 : decode prog_6_method_8_code 61 = .ok (.iload_n 2, 1) := by decide +kernel
theorem d_E_doEffect_62 : decode prog_6_method_8_code 62 = .ok (.invokestatic 141, 3) := by decide +kernel
theorem d_E_doEffect_65 : decode prog_6_method_8_code 65 = .ok (.ifCond .ne 92, 3) := by decide +kernel
theorem d_E_doEffect_84 : decode prog_6_method_8_code 84 = .ok (.aload_n 0, 1) := by decide +kernel
theorem d_E_doEffect_85 : decode prog_6_method_8_code 85 = .ok (.aload_n 0, 1) := by decide +kernel
theorem d_E_doEffect_86 : decode prog_6_method_8_code 86 = .ok (.getfield 22, 3) := by decide +kernel
theorem d_E_doEffect_89 : decode prog_6_method_8_code 89 = .ok (.iload_n 2, 1) := by decide +kernel
theorem d_E_doEffect_90 : decode prog_6_method_8_code 90 = .ok (.iload_n 3, 1) := by decide +kernel
theorem d_E_doEffect_91 : decode prog_6_method_8_code 91 = .ok (.invokestatic 149, 3) := by decide +kernel
theorem d_E_doEffect_94 : decode prog_6_method_8_code 94 = .ok (.putfield 22, 3) := by decide +kernel
theorem d_E_doEffect_97 : decode prog_6_method_8_code 97 = .ok (.goto 60, 3) := by decide +kernel
theorem d_E_doEffect_100 : decode prog_6_method_8_code 100 = .ok (.aload_n 0, 1) := by decide +kernel
theorem d_E_doEffect_101 : decode prog_6_method_8_code 101 = .ok (.getfield 22, 3) := by decide +kernel
theorem d_E_doEffect_104 : decode prog_6_method_8_code 104 = .ok (.iload_n 2, 1) := by decide +kernel
theorem d_E_doEffect_105 : decode prog_6_method_8_code 105 = .ok (.invokestatic 126, 3) := by decide +kernel
theorem d_E_doEffect_108 : decode prog_6_method_8_code 108 = .ok (.iload_n 3, 1) := by decide +kernel
theorem d_E_doEffect_109 : decode prog_6_method_8_code 109 = .ok (.iadd, 1) := by decide +kernel
theorem d_E_doEffect_110 : decode prog_6_method_8_code 110 = .ok (.istore 4, 2) := by decide +kernel
theorem d_E_doEffect_112 : decode prog_6_method_8_code 112 = .ok (.aload_n 0, 1) := by decide +kernel
theorem d_E_doEffect_113 : decode prog_6_method_8_code 113 = .ok (.aload_n 0, 1) := by decide +kernel
theorem d_E_doEffect_114 : decode prog_6_method_8_code 114 = .ok (.getfield 22, 3) := by decide +kernel
theorem d_E_doEffect_117 : decode prog_6_method_8_code 117 = .ok (.iload_n 2, 1) := by decide +kernel
theorem d_E_doEffect_118 : decode prog_6_method_8_code 118 = .ok (.iconst 0, 1) := by decide +kernel
theorem d_E_doEffect_119 : decode prog_6_method_8_code 119 = .ok (.iload 4, 2) := by decide +kernel
theorem d_E_doEffect_121 : decode prog_6_method_8_code 121 = .ok (.aload_n 0, 1) := by decide +kernel
theorem d_E_doEffect_122 : decode prog_6_method_8_code 122 = .ok (.getfield 12, 3) := by decide +kernel
theorem d_E_doEffect_125 : decode prog_6_method_8_code 125 = .ok (.getfield 152, 3) := by decide +kernel
theorem d_E_doEffect_128 : decode prog_6_method_8_code 128 = .ok (.iload_n 2, 1) := by decide +kernel
theorem d_E_doEffect_129 : decode prog_6_method_8_code 129 = .ok (.iaload, 1) := by decide +kernel
theorem d_E_doEffect_130 : decode prog_6_method_8_code 130 = .ok (.invokestatic 155, 3) := by decide +kernel
theorem d_E_doEffect_133 : decode prog_6_method_8_code 133 = .ok (.invokestatic 161, 3) := by decide +kernel
theorem d_E_doEffect_136 : decode prog_6_method_8_code 136 = .ok (.invokestatic 164, 3) := by decide +kernel
theorem d_E_doEffect_139 : decode prog_6_method_8_code 139 = .ok (.putfield 22, 3) := by decide +kernel
theorem d_E_doEffect_142 : decode prog_6_method_8_code 142 = .ok (.goto 15, 3) := by decide +kernel
theorem d_E_doEffect_145 : decode prog_6_method_8_code 145 = .ok (.aload_n 0, 1) := by decide +kernel
theorem d_E_doEffect_146 : decode prog_6_method_8_code 146 = .ok (.aload_n 0, 1) := by decide +kernel
theorem d_E_doEffect_147 : decode prog_6_method_8_code 147 = .ok (.getfield 22, 3) := by decide +kernel
theorem d_E_doEffect_150 : decode prog_6_method_8_code 150 = .ok (.iload_n 2, 1) := by decide +kernel
theorem d_E_doEffect_151 : decode prog_6_method_8_code 151 = .ok (.invokestatic 167, 3) := by decide +kernel
theorem d_E_doEffect_154 : decode prog_6_method_8_code 154 = .ok (.putfield 22, 3) := by decide +kernel
theorem d_E_doEffect_68 : decode prog_6_method_8_code 68 = .ok (.aload_n 0, 1) := by decide +kernel
theorem d_E_doEffect_69 : decode prog_6_method_8_code 69 = .ok (.aload_n 0, 1) := by decide +kernel
theorem d_E_doEffect_70 : decode prog_6_method_8_code 70 = .ok (.getfield 22, 3) := by decide +kernel
theorem d_E_doEffect_73 : decode prog_6_method_8_code 73 = .ok (.iload_n 2, 1) := by decide +kernel
theorem d_E_doEffect_74 : decode prog_6_method_8_code 74 = .ok (.iload_n 3, 1) := by decide +kernel
theorem d_E_doEffect_75 : decode prog_6_method_8_code 75 = .ok (.invokestatic 145, 3) := by decide +kernel
theorem d_E_doEffect_78 : decode prog_6_method_8_code 78 = .ok (.putfield 22, 3) := by decide +kernel
theorem d_E_doEffect_81 : decode prog_6_method_8_code 81 = .ok (.goto 76, 3) := by decide +kernel
theorem d_E_doRule_0 : decode prog_6_method_7_code 0 = .ok (.aload_n 0, 1) := by decide +kernel
theorem d_E_doRule_1 : decode prog_6_method_7_code 1 = .ok (.dup, 1) := by decide +kernel
theorem d_E_doRule_2 : decode prog_6_method_7_code 2 = .ok (.getfield 30, 3) := by decide +kernel
theorem d_E_doRule_5 : decode prog_6_method_7_code 5 = .ok (.iconst 1, 1) := by decide +kernel
theorem d_E_doRule_6 : decode prog_6_method_7_code 6 = .ok (.iload_n 1, 1) := by decide +kernel
theorem d_E_doRule_7 : decode prog_6_method_7_code 7 = .ok (.ishl, 1) := by decide +kernel
theorem d_E_doRule_8 : decode prog_6_method_7_code 8 = .ok (.ior, 1) := by decide +kernel
theorem d_E_doRule_9 : decode prog_6_method_7_code 9 = .ok (.putfield 30, 3) := by decide +kernel
theorem d_E_doRule_12 : decode prog_6_method_7_code 12 = .ok (.aload_n 0, 1) := by decide +kernel
theorem d_E_doRule_13 : decode prog_6_method_7_code 13 = .ok (.aload_n 0, 1) := by decide +kernel
theorem d_E_doRule_14 : decode prog_6_method_7_code 14 = .ok (.getfield 12, 3) := by decide +kernel
theorem d_E_doRule_17 : decode prog_6_method_7_code 17 = .ok (.getfield 73, 3) := by decide +kernel
theorem d_E_doRule_20 : decode prog_6_method_7_code 20 = .ok (.getfield 129, 3) := by decide +kernel
theorem d_E_doRule_23 : decode prog_6_method_7_code 23 = .ok (.iload_n 1, 1) := by decide +kernel
theorem d_E_doRule_24 : decode prog_6_method_7_code 24 = .ok (.iaload, 1) := by decide +kernel
theorem d_E_doRule_25 : decode prog_6_method_7_code 25 = .ok (.invokevirtual 45, 3) := by decide +kernel
theorem d_E_doRule_28 : decode prog_6_method_7_code 28 = .ok (.aload_n 0, 1) := by decide +kernel
theorem d_E_doRule_29 : decode prog_6_method_7_code 29 = .ok (.getfield 12, 3) := by decide +kernel
theorem d_E_doRule_32 : decode prog_6_method_7_code 32 = .ok (.getfield 73, 3) := by decide +kernel
theorem d_E_doRule_35 : decode prog_6_method_7_code 35 = .ok (.getfield 130, 3) := by decide +kernel
theorem d_E_doRule_38 : decode prog_6_method_7_code 38 = .ok (.astore_n 2, 1) := by decide +kernel
theorem d_E_doRule_39 : decode prog_6_method_7_code 39 = .ok (.aload_n 2, 1) := by decide +kernel
theorem d_E_doRule_40 : decode prog_6_method_7_code 40 = .ok (.iload_n 1, 1) := by decide +kernel
theorem d_E_doRule_41 : decode prog_6_method_7_code 41 = .ok (.invokevirtual 94, 3) := by decide +kernel
theorem d_E_doRule_44 : decode prog_6_method_7_code 44 = .ok (.istore_n 3, 1) := by decide +kernel
theorem d_E_doRule_45 : decode prog_6_method_7_code 45 = .ok (.aload_n 2, 1) := by decide +kernel
theorem d_E_doRule_46 : decode prog_6_method_7_code 46 = .ok (.iload_n 1, 1) := by decide +kernel
theorem d_E_doRule_47 : decode prog_6_method_7_code 47 = .ok (.invokevirtual 100, 3) := by decide +kernel
theorem d_E_doRule_50 : decode prog_6_method_7_code 50 = .ok (.istore 4, 2) := by decide +kernel
theorem d_E_doRule_52 : decode prog_6_method_7_code 52 = .ok (.iload 4, 2) := by decide +kernel
theorem d_E_doRule_54 : decode prog_6_method_7_code 54 = .ok (.iload_n 3, 1) := by decide +kernel
theorem d_E_doRule_55 : decode prog_6_method_7_code 55 = .ok (.if_icmp .ge 44, 3) := by decide +kernel
theorem d_E_doRule_99 : decode prog_6_method_7_code 99 = .ok (.return_, 1) := by decide +kernel
theorem d_E_doRule_58 : decode prog_6_method_7_code 58 = .ok (.aload_n 0, 1) := by decide +kernel
theorem d_E_doRule_59 : decode prog_6_method_7_code 59 = .ok (.getfield 22, 3) := by decide +kernel
theorem d_E_doRule_62 : decode prog_6_method_7_code 62 = .ok (.invokestatic 48, 3) := by decide +kernel
theorem d_E_doRule_65 : decode prog_6_method_7_code 65 = .ok (.ifCond .ne 34, 3) := by decide +kernel
theorem d_E_doRule_68 : decode prog_6_method_7_code 68 = .ok (.aload_n 0, 1) := by decide +kernel
theorem d_E_doRule_69 : decode prog_6_method_7_code 69 = .ok (.aload_n 2, 1) := by decide +kernel
theorem d_E_doRule_70 : decode prog_6_method_7_code 70 = .ok (.getfield 103, 3) := by decide +kernel
theorem d_E_doRule_73 : decode prog_6_method_7_code 73 = .ok (.iload 4, 2) := by decide +kernel
theorem d_E_doRule_75 : decode prog_6_method_7_code 75 = .ok (.iaload, 1) := by decide +kernel
theorem d_E_doRule_76 : decode prog_6_method_7_code 76 = .ok (.aload_n 2, 1) := by decide +kernel
theorem d_E_doRule_77 : decode prog_6_method_7_code 77 = .ok (.getfield 106, 3) := by decide +kernel
theorem d_E_doRule_80 : decode prog_6_method_7_code 80 = .ok (.iload 4, 2) := by decide +kernel
theorem d_E_doRule_82 : decode prog_6_method_7_code 82 = .ok (.iaload, 1) := by decide +kernel
theorem d_E_doRule_83 : decode prog_6_method_7_code 83 = .ok (.aload_n 2, 1) := by decide +kernel
theorem d_E_doRule_84 : decode prog_6_method_7_code 84 = .ok (.getfield 109, 3) := by decide +kernel
theorem d_E_doRule_87 : decode prog_6_method_7_code 87 = .ok (.iload 4, 2) := by decide +kernel
theorem d_E_doRule_89 : decode prog_6_method_7_code 89 = .ok (.iaload, 1) := by decide +kernel
theorem d_E_doRule_90 : decode prog_6_method_7_code 90 = .ok (.invokevirtual 133, 3) := by decide +kernel
theorem d_E_doRule_93 : decode prog_6_method_7_code 93 = .ok (.iinc 4 1, 3) := by decide +kernel
theorem d_E_doRule_96 : decode prog_6_method_7_code 96 = .ok (.goto (-44), 3) := by decide +kernel
theorem d_B_stepOf_0 : decode prog_3_method_10_code 0 = .ok (.lload_n 0, 1) := by decide +kernel
theorem d_B_stepOf_1 : decode prog_3_method_10_code 1 = .ok (.bipush 42, 2) := by decide +kernel
theorem d_B_stepOf_3 : decode prog_3_method_10_code 3 = .ok (.iconst 2, 1) := by decide +kernel
theorem d_B_stepOf_4 : decode prog_3_method_10_code 4 = .ok (.iload_n 2, 1) := by decide +kernel
theorem d_B_stepOf_5 : decode prog_3_method_10_code 5 = .ok (.imul, 1) := by decide +kernel
theorem d_B_stepOf_6 : decode prog_3_method_10_code 6 = .ok (.iadd, 1) := by decide +kernel
theorem d_B_stepOf_7 : decode prog_3_method_10_code 7 = .ok (.lushr, 1) := by decide +kernel
theorem d_B_stepOf_8 : decode prog_3_method_10_code 8 = .ok (.l2i, 1) := by decide +kernel
theorem d_B_stepOf_9 : decode prog_3_method_10_code 9 = .ok (.iconst 3, 1) := by decide +kernel
theorem d_B_stepOf_10 : decode prog_3_method_10_code 10 = .ok (.iand, 1) := by decide +kernel
theorem d_B_stepOf_11 : decode prog_3_method_10_code 11 = .ok (.ireturn, 1) := by decide +kernel
theorem d_B_withStep_0 : decode prog_3_method_11_code 0 = .ok (.lload_n 0, 1) := by decide +kernel
theorem d_B_withStep_1 : decode prog_3_method_11_code 1 = .ok (.bipush 42, 2) := by decide +kernel
theorem d_B_withStep_3 : decode prog_3_method_11_code 3 = .ok (.iconst 2, 1) := by decide +kernel
theorem d_B_withStep_4 : decode prog_3_method_11_code 4 = .ok (.iload_n 2, 1) := by decide +kernel
theorem d_B_withStep_5 : decode prog_3_method_11_code 5 = .ok (.imul, 1) := by decide +kernel
theorem d_B_withStep_6 : decode prog_3_method_11_code 6 = .ok (.iadd, 1) := by decide +kernel
theorem d_B_withStep_7 : decode prog_3_method_11_code 7 = .ok (.iconst 3, 1) := by decide +kernel
theorem d_B_withStep_8 : decode prog_3_method_11_code 8 = .ok (.iload_n 3, 1) := by decide +kernel
theorem d_B_withStep_9 : decode prog_3_method_11_code 9 = .ok (.invokestatic 9, 3) := by decide +kernel
theorem d_B_withStep_12 : decode prog_3_method_11_code 12 = .ok (.lreturn, 1) := by decide +kernel
theorem d_E_stepWalkers_0 : decode prog_6_method_15_code 0 = .ok (.iconst 0, 1) := by decide +kernel
theorem d_E_stepWalkers_1 : decode prog_6_method_15_code 1 = .ok (.istore_n 1, 1) := by decide +kernel
theorem d_E_stepWalkers_2 : decode prog_6_method_15_code 2 = .ok (.iload_n 1, 1) := by decide +kernel
theorem d_E_stepWalkers_3 : decode prog_6_method_15_code 3 = .ok (.aload_n 0, 1) := by decide +kernel
theorem d_E_stepWalkers_4 : decode prog_6_method_15_code 4 = .ok (.getfield 12, 3) := by decide +kernel
theorem d_E_stepWalkers_7 : decode prog_6_method_15_code 7 = .ok (.getfield 193, 3) := by decide +kernel
theorem d_E_stepWalkers_10 : decode prog_6_method_15_code 10 = .ok (.if_icmp .ge 95, 3) := by decide +kernel
theorem d_E_stepWalkers_105 : decode prog_6_method_15_code 105 = .ok (.return_, 1) := by decide +kernel
theorem d_E_stepWalkers_13 : decode prog_6_method_15_code 13 = .ok (.aload_n 0, 1) := by decide +kernel
theorem d_E_stepWalkers_14 : decode prog_6_method_15_code 14 = .ok (.getfield 12, 3) := by decide +kernel
theorem d_E_stepWalkers_17 : decode prog_6_method_15_code 17 = .ok (.getfield 196, 3) := by decide +kernel
theorem d_E_stepWalkers_20 : decode prog_6_method_15_code 20 = .ok (.iload_n 1, 1) := by decide +kernel
theorem d_E_stepWalkers_21 : decode prog_6_method_15_code 21 = .ok (.iaload, 1) := by decide +kernel
theorem d_E_stepWalkers_22 : decode prog_6_method_15_code 22 = .ok (.istore_n 2, 1) := by decide +kernel
theorem d_E_stepWalkers_23 : decode prog_6_method_15_code 23 = .ok (.aload_n 0, 1) := by decide +kernel
theorem d_E_stepWalkers_24 : decode prog_6_method_15_code 24 = .ok (.getfield 22, 3) := by decide +kernel
theorem d_E_stepWalkers_27 : decode prog_6_method_15_code 27 = .ok (.iload_n 2, 1) := by decide +kernel
theorem d_E_stepWalkers_28 : decode prog_6_method_15_code 28 = .ok (.invokestatic 119, 3) := by decide +kernel
theorem d_E_stepWalkers_31 : decode prog_6_method_15_code 31 = .ok (.bipush 6, 2) := by decide +kernel
theorem d_E_stepWalkers_33 : decode prog_6_method_15_code 33 = .ok (.if_icmp .ge 66, 3) := by decide +kernel
theorem d_E_stepWalkers_99 : decode prog_6_method_15_code 99 = .ok (.iinc 1 1, 3) := by decide +kernel
theorem d_E_stepWalkers_102 : decode prog_6_method_15_code 102 = .ok (.goto (-100), 3) := by decide +kernel
theorem d_E_stepWalkers_36 : decode prog_6_method_15_code 36 = .ok (.aload_n 0, 1) := by decide +kernel
theorem d_E_stepWalkers_37 : decode prog_6_method_15_code 37 = .ok (.getfield 22, 3) := by decide +kernel
theorem d_E_stepWalkers_40 : decode prog_6_method_15_code 40 = .ok (.iload_n 1, 1) := by decide +kernel
theorem d_E_stepWalkers_41 : decode prog_6_method_15_code 41 = .ok (.invokestatic 199, 3) := by decide +kernel
theorem d_E_stepWalkers_44 : decode prog_6_method_15_code 44 = .ok (.istore_n 3, 1) := by decide +kernel
theorem d_E_stepWalkers_45 : decode prog_6_method_15_code 45 = .ok (.iload_n 3, 1) := by decide +kernel
theorem d_E_stepWalkers_46 : decode prog_6_method_15_code 46 = .ok (.iconst 2, 1) := by decide +kernel
theorem d_E_stepWalkers_47 : decode prog_6_method_15_code 47 = .ok (.if_icmp .ge 9, 3) := by decide +kernel
theorem d_E_stepWalkers_56 : decode prog_6_method_15_code 56 = .ok (.iconst 0, 1) := by decide +kernel
theorem d_E_stepWalkers_50 : decode prog_6_method_15_code 50 = .ok (.iload_n 3, 1) := by decide +kernel
theorem d_E_stepWalkers_51 : decode prog_6_method_15_code 51 = .ok (.iconst 1, 1) := by decide +kernel
theorem d_E_stepWalkers_52 : decode prog_6_method_15_code 52 = .ok (.iadd, 1) := by decide +kernel
theorem d_E_stepWalkers_53 : decode prog_6_method_15_code 53 = .ok (.goto 4, 3) := by decide +kernel
theorem d_E_stepWalkers_57 : decode prog_6_method_15_code 57 = .ok (.istore 4, 2) := by decide +kernel
theorem d_E_stepWalkers_59 : decode prog_6_method_15_code 59 = .ok (.aload_n 0, 1) := by decide +kernel
theorem d_E_stepWalkers_60 : decode prog_6_method_15_code 60 = .ok (.aload_n 0, 1) := by decide +kernel
theorem d_E_stepWalkers_61 : decode prog_6_method_15_code 61 = .ok (.getfield 22, 3) := by decide +kernel
theorem d_E_stepWalkers_64 : decode prog_6_method_15_code 64 = .ok (.iload_n 1, 1) := by decide +kernel
theorem d_E_stepWalkers_65 : decode prog_6_method_15_code 65 = .ok (.iload 4, 2) := by decide +kernel
theorem d_E_stepWalkers_67 : decode prog_6_method_15_code 67 = .ok (.invokestatic 202, 3) := by decide +kernel
theorem d_E_stepWalkers_70 : decode prog_6_method_15_code 70 = .ok (.putfield 22, 3) := by decide +kernel
theorem d_E_stepWalkers_73 : decode prog_6_method_15_code 73 = .ok (.aload_n 0, 1) := by decide +kernel
theorem d_E_stepWalkers_74 : decode prog_6_method_15_code 74 = .ok (.aload_n 0, 1) := by decide +kernel
theorem d_E_stepWalkers_75 : decode prog_6_method_15_code 75 = .ok (.getfield 22, 3) := by decide +kernel
theorem d_E_stepWalkers_78 : decode prog_6_method_15_code 78 = .ok (.iload_n 2, 1) := by decide +kernel
theorem d_E_stepWalkers_79 : decode prog_6_method_15_code 79 = .ok (.aload_n 0, 1) := by decide +kernel
theorem d_E_stepWalkers_80 : decode prog_6_method_15_code 80 = .ok (.getfield 12, 3) := by decide +kernel
theorem d_E_stepWalkers_83 : decode prog_6_method_15_code 83 = .ok (.getfield 205, 3) := by decide +kernel
theorem d_E_stepWalkers_86 : decode prog_6_method_15_code 86 = .ok (.iload_n 1, 1) := by decide +kernel
theorem d_E_stepWalkers_87 : decode prog_6_method_15_code 87 = .ok (.iconst 3, 1) := by decide +kernel
theorem d_E_stepWalkers_88 : decode prog_6_method_15_code 88 = .ok (.imul, 1) := by decide +kernel
theorem d_E_stepWalkers_89 : decode prog_6_method_15_code 89 = .ok (.iload 4, 2) := by decide +kernel
theorem d_E_stepWalkers_91 : decode prog_6_method_15_code 91 = .ok (.iadd, 1) := by decide +kernel
theorem d_E_stepWalkers_92 : decode prog_6_method_15_code 92 = .ok (.iaload, 1) := by decide +kernel
theorem d_E_stepWalkers_93 : decode prog_6_method_15_code 93 = .ok (.invokestatic 145, 3) := by decide +kernel
theorem d_E_stepWalkers_96 : decode prog_6_method_15_code 96 = .ok (.putfield 22, 3) := by decide +kernel
theorem d_B_countOf_0 : decode prog_3_method_12_code 0 = .ok (.lload_n 0, 1) := by decide +kernel
theorem d_B_countOf_1 : decode prog_3_method_12_code 1 = .ok (.bipush 46, 2) := by decide +kernel
theorem d_B_countOf_3 : decode prog_3_method_12_code 3 = .ok (.iconst 4, 1) := by decide +kernel
theorem d_B_countOf_4 : decode prog_3_method_12_code 4 = .ok (.iload_n 2, 1) := by decide +kernel
theorem d_B_countOf_5 : decode prog_3_method_12_code 5 = .ok (.imul, 1) := by decide +kernel
theorem d_B_countOf_6 : decode prog_3_method_12_code 6 = .ok (.iadd, 1) := by decide +kernel
theorem d_B_countOf_7 : decode prog_3_method_12_code 7 = .ok (.lushr, 1) := by decide +kernel
theorem d_B_countOf_8 : decode prog_3_method_12_code 8 = .ok (.l2i, 1) := by decide +kernel
theorem d_B_countOf_9 : decode prog_3_method_12_code 9 = .ok (.bipush 15, 2) := by decide +kernel
theorem d_B_countOf_11 : decode prog_3_method_12_code 11 = .ok (.iand, 1) := by decide +kernel
theorem d_B_countOf_12 : decode prog_3_method_12_code 12 = .ok (.ireturn, 1) := by decide +kernel
theorem d_E_runsOut_0 : decode prog_6_method_16_code 0 = .ok (.aload_n 0, 1) := by decide +kernel
theorem d_E_runsOut_1 : decode prog_6_method_16_code 1 = .ok (.getfield 22, 3) := by decide +kernel
theorem d_E_runsOut_4 : decode prog_6_method_16_code 4 = .ok (.iload_n 1, 1) := by decide +kernel
theorem d_E_runsOut_5 : decode prog_6_method_16_code 5 = .ok (.invokestatic 208, 3) := by decide +kernel
theorem d_E_runsOut_8 : decode prog_6_method_16_code 8 = .ok (.istore_n 2, 1) := by decide +kernel
theorem d_E_runsOut_9 : decode prog_6_method_16_code 9 = .ok (.iload_n 2, 1) := by decide +kernel
theorem d_E_runsOut_10 : decode prog_6_method_16_code 10 = .ok (.ifCond .ne 5, 3) := by decide +kernel
theorem d_E_runsOut_15 : decode prog_6_method_16_code 15 = .ok (.aload_n 0, 1) := by decide +kernel
theorem d_E_runsOut_16 : decode prog_6_method_16_code 16 = .ok (.aload_n 0, 1) := by decide +kernel
theorem d_E_runsOut_17 : decode prog_6_method_16_code 17 = .ok (.getfield 22, 3) := by decide +kernel
theorem d_E_runsOut_20 : decode prog_6_method_16_code 20 = .ok (.iload_n 1, 1) := by decide +kernel
theorem d_E_runsOut_21 : decode prog_6_method_16_code 21 = .ok (.iload_n 2, 1) := by decide +kernel
theorem d_E_runsOut_22 : decode prog_6_method_16_code 22 = .ok (.iconst 1, 1) := by decide +kernel
theorem d_E_runsOut_23 : decode prog_6_method_16_code 23 = .ok (.isub, 1) := by decide +kernel
theorem d_E_runsOut_24 : decode prog_6_method_16_code 24 = .ok (.invokestatic 211, 3) := by decide +kernel
theorem d_E_runsOut_27 : decode prog_6_method_16_code 27 = .ok (.putfield 22, 3) := by decide +kernel
theorem d_E_runsOut_30 : decode prog_6_method_16_code 30 = .ok (.iload_n 2, 1) := by decide +kernel
theorem d_E_runsOut_31 : decode prog_6_method_16_code 31 = .ok (.iconst 1, 1) := by decide +kernel
theorem d_E_runsOut_32 : decode prog_6_method_16_code 32 = .ok (.if_icmp .ne 7, 3) := by decide +kernel
theorem d_E_runsOut_39 : decode prog_6_method_16_code 39 = .ok (.iconst 0, 1) := by decide +kernel
theorem d_E_runsOut_40 : decode prog_6_method_16_code 40 = .ok (.ireturn, 1) := by decide +kernel
theorem d_E_runsOut_35 : decode prog_6_method_16_code 35 = .ok (.iconst 1, 1) := by decide +kernel
theorem d_E_runsOut_36 : decode prog_6_method_16_code 36 = .ok (.goto 4, 3) := by decide +kernel
theorem d_E_runsOut_13 : decode prog_6_method_16_code 13 = .ok (.iconst 0, 1) := by decide +kernel
theorem d_E_runsOut_14 : decode prog_6_method_16_code 14 = .ok (.ireturn, 1) := by decide +kernel
theorem d_E_putInto_0 : decode prog_6_method_14_code 0 = .ok (.aload_n 0, 1) := by decide +kernel
theorem d_E_putInto_1 : decode prog_6_method_14_code 1 = .ok (.getfield 22, 3) := by decide +kernel
theorem d_E_putInto_4 : decode prog_6_method_14_code 4 = .ok (.iload_n 1, 1) := by decide +kernel
theorem d_E_putInto_5 : decode prog_6_method_14_code 5 = .ok (.invokestatic 119, 3) := by decide +kernel
theorem d_E_putInto_8 : decode prog_6_method_14_code 8 = .ok (.bipush 6, 2) := by decide +kernel
theorem d_E_putInto_10 : decode prog_6_method_14_code 10 = .ok (.if_icmp .ne 51, 3) := by decide +kernel
theorem d_E_putInto_61 : decode prog_6_method_14_code 61 = .ok (.iconst 0, 1) := by decide +kernel
theorem d_E_putInto_62 : decode prog_6_method_14_code 62 = .ok (.ireturn, 1) := by decide +kernel
theorem d_E_putInto_13 : decode prog_6_method_14_code 13 = .ok (.aload_n 0, 1) := by decide +kernel
theorem d_E_putInto_14 : decode prog_6_method_14_code 14 = .ok (.getfield 12, 3) := by decide +kernel
theorem d_E_putInto_17 : decode prog_6_method_14_code 17 = .ok (.getfield 192, 3) := by decide +kernel
theorem d_E_putInto_20 : decode prog_6_method_14_code 20 = .ok (.iload_n 2, 1) := by decide +kernel
theorem d_E_putInto_21 : decode prog_6_method_14_code 21 = .ok (.iaload, 1) := by decide +kernel
theorem d_E_putInto_22 : decode prog_6_method_14_code 22 = .ok (.iconst 2, 1) := by decide +kernel
theorem d_E_putInto_23 : decode prog_6_method_14_code 23 = .ok (.iand, 1) := by decide +kernel
theorem d_E_putInto_24 : decode prog_6_method_14_code 24 = .ok (.ifCond .eq 37, 3) := by decide +kernel
theorem d_E_putInto_27 : decode prog_6_method_14_code 27 = .ok (.aload_n 0, 1) := by decide +kernel
theorem d_E_putInto_28 : decode prog_6_method_14_code 28 = .ok (.getfield 22, 3) := by decide +kernel
theorem d_E_putInto_31 : decode prog_6_method_14_code 31 = .ok (.iload_n 2, 1) := by decide +kernel
theorem d_E_putInto_32 : decode prog_6_method_14_code 32 = .ok (.invokestatic 123, 3) := by decide +kernel
theorem d_E_putInto_35 : decode prog_6_method_14_code 35 = .ok (.ifCond .eq 26, 3) := by decide +kernel
theorem d_E_putInto_38 : decode prog_6_method_14_code 38 = .ok (.aload_n 0, 1) := by decide +kernel
theorem d_E_putInto_39 : decode prog_6_method_14_code 39 = .ok (.getfield 22, 3) := by decide +kernel
theorem d_E_putInto_42 : decode prog_6_method_14_code 42 = .ok (.iload_n 2, 1) := by decide +kernel
theorem d_E_putInto_43 : decode prog_6_method_14_code 43 = .ok (.invokestatic 86, 3) := by decide +kernel
theorem d_E_putInto_46 : decode prog_6_method_14_code 46 = .ok (.ifCond .eq 15, 3) := by decide +kernel
theorem d_E_putInto_49 : decode prog_6_method_14_code 49 = .ok (.aload_n 0, 1) := by decide +kernel
theorem d_E_putInto_50 : decode prog_6_method_14_code 50 = .ok (.getfield 22, 3) := by decide +kernel
theorem d_E_putInto_53 : decode prog_6_method_14_code 53 = .ok (.iload_n 2, 1) := by decide +kernel
theorem d_E_putInto_54 : decode prog_6_method_14_code 54 = .ok (.iload_n 1, 1) := by decide +kernel
theorem d_E_putInto_55 : decode prog_6_method_14_code 55 = .ok (.invokestatic 141, 3) := by decide +kernel
theorem d_E_putInto_58 : decode prog_6_method_14_code 58 = .ok (.ifCond .eq 5, 3) := by decide +kernel
theorem d_E_putInto_63 : decode prog_6_method_14_code 63 = .ok (.aload_n 0, 1) := by decide +kernel
theorem d_E_putInto_64 : decode prog_6_method_14_code 64 = .ok (.aload_n 0, 1) := by decide +kernel
theorem d_E_putInto_65 : decode prog_6_method_14_code 65 = .ok (.getfield 22, 3) := by decide +kernel
theorem d_E_putInto_68 : decode prog_6_method_14_code 68 = .ok (.iload_n 1, 1) := by decide +kernel
theorem d_E_putInto_69 : decode prog_6_method_14_code 69 = .ok (.bipush 7, 2) := by decide +kernel
theorem d_E_putInto_71 : decode prog_6_method_14_code 71 = .ok (.iload_n 2, 1) := by decide +kernel
theorem d_E_putInto_72 : decode prog_6_method_14_code 72 = .ok (.iadd, 1) := by decide +kernel
theorem d_E_putInto_73 : decode prog_6_method_14_code 73 = .ok (.invokestatic 145, 3) := by decide +kernel
theorem d_E_putInto_76 : decode prog_6_method_14_code 76 = .ok (.putfield 22, 3) := by decide +kernel
theorem d_E_putInto_79 : decode prog_6_method_14_code 79 = .ok (.iconst 1, 1) := by decide +kernel
theorem d_E_putInto_80 : decode prog_6_method_14_code 80 = .ok (.ireturn, 1) := by decide +kernel
theorem d_E_turnLid_0 : decode prog_6_method_13_code 0 = .ok (.aload_n 0, 1) := by decide +kernel
theorem d_E_turnLid_1 : decode prog_6_method_13_code 1 = .ok (.getfield 12, 3) := by decide +kernel
theorem d_E_turnLid_4 : decode prog_6_method_13_code 4 = .ok (.getfield 192, 3) := by decide +kernel
theorem d_E_turnLid_7 : decode prog_6_method_13_code 7 = .ok (.iload_n 1, 1) := by decide +kernel
theorem d_E_turnLid_8 : decode prog_6_method_13_code 8 = .ok (.iaload, 1) := by decide +kernel
theorem d_E_turnLid_9 : decode prog_6_method_13_code 9 = .ok (.iconst 2, 1) := by decide +kernel
theorem d_E_turnLid_10 : decode prog_6_method_13_code 10 = .ok (.iand, 1) := by decide +kernel
theorem d_E_turnLid_11 : decode prog_6_method_13_code 11 = .ok (.ifCond .eq 35, 3) := by decide +kernel
end
section
theorem d_E_turnLid_46 : decode prog_6_method_13_code 46 = .ok (.iconst 0, 1) := by decide +kernel
theorem d_E_turnLid_47 : decode prog_6_method_13_code 47 = .ok (.ireturn, 1) := by decide +kernel
theorem d_E_turnLid_14 : decode prog_6_method_13_code 14 = .ok (.aload_n 0, 1) := by decide +kernel
theorem d_E_turnLid_15 : decode prog_6_method_13_code 15 = .ok (.getfield 22, 3) := by decide +kernel
theorem d_E_turnLid_18 : decode prog_6_method_13_code 18 = .ok (.iload_n 1, 1) := by decide +kernel
theorem d_E_turnLid_19 : decode prog_6_method_13_code 19 = .ok (.invokestatic 123, 3) := by decide +kernel
theorem d_E_turnLid_22 : decode prog_6_method_13_code 22 = .ok (.iload_n 2, 1) := by decide +kernel
theorem d_E_turnLid_23 : decode prog_6_method_13_code 23 = .ok (.iconst 1, 1) := by decide +kernel
theorem d_E_turnLid_24 : decode prog_6_method_13_code 24 = .ok (.if_icmp .ne 7, 3) := by decide +kernel
theorem d_E_turnLid_31 : decode prog_6_method_13_code 31 = .ok (.iconst 0, 1) := by decide +kernel
theorem d_E_turnLid_27 : decode prog_6_method_13_code 27 = .ok (.iconst 1, 1) := by decide +kernel
theorem d_E_turnLid_28 : decode prog_6_method_13_code 28 = .ok (.goto 4, 3) := by decide +kernel
theorem d_E_turnLid_32 : decode prog_6_method_13_code 32 = .ok (.if_icmp .eq 14, 3) := by decide +kernel
theorem d_E_turnLid_35 : decode prog_6_method_13_code 35 = .ok (.aload_n 0, 1) := by decide +kernel
theorem d_E_turnLid_36 : decode prog_6_method_13_code 36 = .ok (.getfield 22, 3) := by decide +kernel
theorem d_E_turnLid_39 : decode prog_6_method_13_code 39 = .ok (.iload_n 1, 1) := by decide +kernel
theorem d_E_turnLid_40 : decode prog_6_method_13_code 40 = .ok (.invokestatic 86, 3) := by decide +kernel
theorem d_E_turnLid_43 : decode prog_6_method_13_code 43 = .ok (.ifCond .ne 5, 3) := by decide +kernel
theorem d_E_turnLid_48 : decode prog_6_method_13_code 48 = .ok (.aload_n 0, 1) := by decide +kernel
theorem d_E_turnLid_49 : decode prog_6_method_13_code 49 = .ok (.aload_n 0, 1) := by decide +kernel
theorem d_E_turnLid_50 : decode prog_6_method_13_code 50 = .ok (.getfield 22, 3) := by decide +kernel
theorem d_E_turnLid_53 : decode prog_6_method_13_code 53 = .ok (.iload_n 1, 1) := by decide +kernel
theorem d_E_turnLid_54 : decode prog_6_method_13_code 54 = .ok (.iload_n 2, 1) := by decide +kernel
theorem d_E_turnLid_55 : decode prog_6_method_13_code 55 = .ok (.invokestatic 149, 3) := by decide +kernel
theorem d_E_turnLid_58 : decode prog_6_method_13_code 58 = .ok (.putfield 22, 3) := by decide +kernel
theorem d_E_turnLid_61 : decode prog_6_method_13_code 61 = .ok (.iconst 1, 1) := by decide +kernel
theorem d_E_turnLid_62 : decode prog_6_method_13_code 62 = .ok (.ireturn, 1) := by decide +kernel
theorem d_E_putDown_0 : decode prog_6_method_12_code 0 = .ok (.aload_n 0, 1) := by decide +kernel
theorem d_E_putDown_1 : decode prog_6_method_12_code 1 = .ok (.getfield 22, 3) := by decide +kernel
theorem d_E_putDown_4 : decode prog_6_method_12_code 4 = .ok (.iload_n 1, 1) := by decide +kernel
theorem d_E_putDown_5 : decode prog_6_method_12_code 5 = .ok (.invokestatic 119, 3) := by decide +kernel
theorem d_E_putDown_8 : decode prog_6_method_12_code 8 = .ok (.bipush 6, 2) := by decide +kernel
theorem d_E_putDown_10 : decode prog_6_method_12_code 10 = .ok (.if_icmp .eq 5, 3) := by decide +kernel
theorem d_E_putDown_15 : decode prog_6_method_12_code 15 = .ok (.aload_n 0, 1) := by decide +kernel
theorem d_E_putDown_16 : decode prog_6_method_12_code 16 = .ok (.aload_n 0, 1) := by decide +kernel
theorem d_E_putDown_17 : decode prog_6_method_12_code 17 = .ok (.getfield 22, 3) := by decide +kernel
theorem d_E_putDown_20 : decode prog_6_method_12_code 20 = .ok (.iload_n 1, 1) := by decide +kernel
theorem d_E_putDown_21 : decode prog_6_method_12_code 21 = .ok (.aload_n 0, 1) := by decide +kernel
theorem d_E_putDown_22 : decode prog_6_method_12_code 22 = .ok (.getfield 22, 3) := by decide +kernel
theorem d_E_putDown_25 : decode prog_6_method_12_code 25 = .ok (.invokestatic 115, 3) := by decide +kernel
theorem d_E_putDown_28 : decode prog_6_method_12_code 28 = .ok (.invokestatic 145, 3) := by decide +kernel
theorem d_E_putDown_31 : decode prog_6_method_12_code 31 = .ok (.putfield 22, 3) := by decide +kernel
theorem d_E_putDown_34 : decode prog_6_method_12_code 34 = .ok (.iconst 1, 1) := by decide +kernel
theorem d_E_putDown_35 : decode prog_6_method_12_code 35 = .ok (.ireturn, 1) := by decide +kernel
theorem d_E_putDown_13 : decode prog_6_method_12_code 13 = .ok (.iconst 0, 1) := by decide +kernel
theorem d_E_putDown_14 : decode prog_6_method_12_code 14 = .ok (.ireturn, 1) := by decide +kernel
theorem d_E_takeUp_0 : decode prog_6_method_11_code 0 = .ok (.aload_n 0, 1) := by decide +kernel
theorem d_E_takeUp_1 : decode prog_6_method_11_code 1 = .ok (.getfield 12, 3) := by decide +kernel
theorem d_E_takeUp_4 : decode prog_6_method_11_code 4 = .ok (.getfield 192, 3) := by decide +kernel
theorem d_E_takeUp_7 : decode prog_6_method_11_code 7 = .ok (.iload_n 1, 1) := by decide +kernel
theorem d_E_takeUp_8 : decode prog_6_method_11_code 8 = .ok (.iaload, 1) := by decide +kernel
theorem d_E_takeUp_9 : decode prog_6_method_11_code 9 = .ok (.iconst 1, 1) := by decide +kernel
theorem d_E_takeUp_10 : decode prog_6_method_11_code 10 = .ok (.iand, 1) := by decide +kernel
theorem d_E_takeUp_11 : decode prog_6_method_11_code 11 = .ok (.ifCond .eq 27, 3) := by decide +kernel
theorem d_E_takeUp_38 : decode prog_6_method_11_code 38 = .ok (.iconst 0, 1) := by decide +kernel
theorem d_E_takeUp_39 : decode prog_6_method_11_code 39 = .ok (.ireturn, 1) := by decide +kernel
theorem d_E_takeUp_14 : decode prog_6_method_11_code 14 = .ok (.aload_n 0, 1) := by decide +kernel
theorem d_E_takeUp_15 : decode prog_6_method_11_code 15 = .ok (.getfield 22, 3) := by decide +kernel
theorem d_E_takeUp_18 : decode prog_6_method_11_code 18 = .ok (.iload_n 1, 1) := by decide +kernel
theorem d_E_takeUp_19 : decode prog_6_method_11_code 19 = .ok (.invokestatic 119, 3) := by decide +kernel
theorem d_E_takeUp_22 : decode prog_6_method_11_code 22 = .ok (.bipush 6, 2) := by decide +kernel
theorem d_E_takeUp_24 : decode prog_6_method_11_code 24 = .ok (.if_icmp .eq 14, 3) := by decide +kernel
theorem d_E_takeUp_27 : decode prog_6_method_11_code 27 = .ok (.aload_n 0, 1) := by decide +kernel
theorem d_E_takeUp_28 : decode prog_6_method_11_code 28 = .ok (.getfield 22, 3) := by decide +kernel
theorem d_E_takeUp_31 : decode prog_6_method_11_code 31 = .ok (.iload_n 1, 1) := by decide +kernel
theorem d_E_takeUp_32 : decode prog_6_method_11_code 32 = .ok (.invokestatic 86, 3) := by decide +kernel
theorem d_E_takeUp_35 : decode prog_6_method_11_code 35 = .ok (.ifCond .ne 5, 3) := by decide +kernel
theorem d_E_takeUp_40 : decode prog_6_method_11_code 40 = .ok (.aload_n 0, 1) := by decide +kernel
theorem d_E_takeUp_41 : decode prog_6_method_11_code 41 = .ok (.aload_n 0, 1) := by decide +kernel
theorem d_E_takeUp_42 : decode prog_6_method_11_code 42 = .ok (.getfield 22, 3) := by decide +kernel
theorem d_E_takeUp_45 : decode prog_6_method_11_code 45 = .ok (.iload_n 1, 1) := by decide +kernel
theorem d_E_takeUp_46 : decode prog_6_method_11_code 46 = .ok (.bipush 6, 2) := by decide +kernel
theorem d_E_takeUp_48 : decode prog_6_method_11_code 48 = .ok (.invokestatic 145, 3) := by decide +kernel
theorem d_E_takeUp_51 : decode prog_6_method_11_code 51 = .ok (.putfield 22, 3) := by decide +kernel
theorem d_E_takeUp_54 : decode prog_6_method_11_code 54 = .ok (.iconst 1, 1) := by decide +kernel
theorem d_E_takeUp_55 : decode prog_6_method_11_code 55 = .ok (.ireturn, 1) := by decide +kernel
theorem d_E_goThrough_0 : decode prog_6_method_10_code 0 = .ok (.aload_n 0, 1) := by decide +kernel
theorem d_E_goThrough_1 : decode prog_6_method_10_code 1 = .ok (.getfield 22, 3) := by decide +kernel
theorem d_E_goThrough_4 : decode prog_6_method_10_code 4 = .ok (.invokestatic 115, 3) := by decide +kernel
theorem d_E_goThrough_7 : decode prog_6_method_10_code 7 = .ok (.iconst 4, 1) := by decide +kernel
theorem d_E_goThrough_8 : decode prog_6_method_10_code 8 = .ok (.imul, 1) := by decide +kernel
theorem d_E_goThrough_9 : decode prog_6_method_10_code 9 = .ok (.iload_n 1, 1) := by decide +kernel
theorem d_E_goThrough_10 : decode prog_6_method_10_code 10 = .ok (.iadd, 1) := by decide +kernel
theorem d_E_goThrough_11 : decode prog_6_method_10_code 11 = .ok (.istore_n 2, 1) := by decide +kernel
theorem d_E_goThrough_12 : decode prog_6_method_10_code 12 = .ok (.aload_n 0, 1) := by decide +kernel
theorem d_E_goThrough_13 : decode prog_6_method_10_code 13 = .ok (.getfield 12, 3) := by decide +kernel
theorem d_E_goThrough_16 : decode prog_6_method_10_code 16 = .ok (.getfield 186, 3) := by decide +kernel
theorem d_E_goThrough_19 : decode prog_6_method_10_code 19 = .ok (.iload_n 2, 1) := by decide +kernel
theorem d_E_goThrough_20 : decode prog_6_method_10_code 20 = .ok (.iaload, 1) := by decide +kernel
theorem d_E_goThrough_21 : decode prog_6_method_10_code 21 = .ok (.istore_n 3, 1) := by decide +kernel
theorem d_E_goThrough_22 : decode prog_6_method_10_code 22 = .ok (.aload_n 0, 1) := by decide +kernel
theorem d_E_goThrough_23 : decode prog_6_method_10_code 23 = .ok (.getfield 12, 3) := by decide +kernel
theorem d_E_goThrough_26 : decode prog_6_method_10_code 26 = .ok (.getfield 189, 3) := by decide +kernel
theorem d_E_goThrough_29 : decode prog_6_method_10_code 29 = .ok (.iload_n 2, 1) := by decide +kernel
theorem d_E_goThrough_30 : decode prog_6_method_10_code 30 = .ok (.iaload, 1) := by decide +kernel
theorem d_E_goThrough_31 : decode prog_6_method_10_code 31 = .ok (.iconst (-1), 1) := by decide +kernel
theorem d_E_goThrough_32 : decode prog_6_method_10_code 32 = .ok (.if_icmp .eq 19, 3) := by decide +kernel
theorem d_E_goThrough_51 : decode prog_6_method_10_code 51 = .ok (.iconst 0, 1) := by decide +kernel
theorem d_E_goThrough_52 : decode prog_6_method_10_code 52 = .ok (.ireturn, 1) := by decide +kernel
theorem d_E_goThrough_35 : decode prog_6_method_10_code 35 = .ok (.iload_n 3, 1) := by decide +kernel
theorem d_E_goThrough_36 : decode prog_6_method_10_code 36 = .ok (.iconst (-1), 1) := by decide +kernel
theorem d_E_goThrough_37 : decode prog_6_method_10_code 37 = .ok (.if_icmp .eq 16, 3) := by decide +kernel
theorem d_E_goThrough_40 : decode prog_6_method_10_code 40 = .ok (.aload_n 0, 1) := by decide +kernel
theorem d_E_goThrough_41 : decode prog_6_method_10_code 41 = .ok (.getfield 22, 3) := by decide +kernel
theorem d_E_goThrough_44 : decode prog_6_method_10_code 44 = .ok (.iload_n 3, 1) := by decide +kernel
theorem d_E_goThrough_45 : decode prog_6_method_10_code 45 = .ok (.invokestatic 123, 3) := by decide +kernel
theorem d_E_goThrough_48 : decode prog_6_method_10_code 48 = .ok (.ifCond .ne 5, 3) := by decide +kernel
theorem d_E_goThrough_53 : decode prog_6_method_10_code 53 = .ok (.aload_n 0, 1) := by decide +kernel
theorem d_E_goThrough_54 : decode prog_6_method_10_code 54 = .ok (.aload_n 0, 1) := by decide +kernel
theorem d_E_goThrough_55 : decode prog_6_method_10_code 55 = .ok (.getfield 22, 3) := by decide +kernel
theorem d_E_goThrough_58 : decode prog_6_method_10_code 58 = .ok (.aload_n 0, 1) := by decide +kernel
theorem d_E_goThrough_59 : decode prog_6_method_10_code 59 = .ok (.getfield 12, 3) := by decide +kernel
theorem d_E_goThrough_62 : decode prog_6_method_10_code 62 = .ok (.getfield 189, 3) := by decide +kernel
theorem d_E_goThrough_65 : decode prog_6_method_10_code 65 = .ok (.iload_n 2, 1) := by decide +kernel
theorem d_E_goThrough_66 : decode prog_6_method_10_code 66 = .ok (.iaload, 1) := by decide +kernel
theorem d_E_goThrough_67 : decode prog_6_method_10_code 67 = .ok (.invokestatic 137, 3) := by decide +kernel
theorem d_E_goThrough_70 : decode prog_6_method_10_code 70 = .ok (.putfield 22, 3) := by decide +kernel
theorem d_E_goThrough_73 : decode prog_6_method_10_code 73 = .ok (.iconst 1, 1) := by decide +kernel
theorem d_E_goThrough_74 : decode prog_6_method_10_code 74 = .ok (.ireturn, 1) := by decide +kernel
theorem d_E_actWithoutRule_0 : decode prog_6_method_9_code 0 = .ok (.iload_n 1, 1) := by decide +kernel
theorem d_E_actWithoutRule_1 : decode prog_6_method_9_code 1 = .ok (.tableswitch 78 0 5 #[39, 45, 51, 57, 64, 71], 39) := by decide +kernel
theorem d_E_actWithoutRule_40 : decode prog_6_method_9_code 40 = .ok (.aload_n 0, 1) := by decide +kernel
theorem d_E_actWithoutRule_41 : decode prog_6_method_9_code 41 = .ok (.iload_n 2, 1) := by decide +kernel
theorem d_E_actWithoutRule_42 : decode prog_6_method_9_code 42 = .ok (.invokevirtual 170, 3) := by decide +kernel
theorem d_E_actWithoutRule_45 : decode prog_6_method_9_code 45 = .ok (.ireturn, 1) := by decide +kernel
theorem d_E_actWithoutRule_46 : decode prog_6_method_9_code 46 = .ok (.aload_n 0, 1) := by decide +kernel
theorem d_E_actWithoutRule_47 : decode prog_6_method_9_code 47 = .ok (.iload_n 2, 1) := by decide +kernel
theorem d_E_actWithoutRule_48 : decode prog_6_method_9_code 48 = .ok (.invokevirtual 173, 3) := by decide +kernel
theorem d_E_actWithoutRule_51 : decode prog_6_method_9_code 51 = .ok (.ireturn, 1) := by decide +kernel
theorem d_E_actWithoutRule_52 : decode prog_6_method_9_code 52 = .ok (.aload_n 0, 1) := by decide +kernel
theorem d_E_actWithoutRule_53 : decode prog_6_method_9_code 53 = .ok (.iload_n 2, 1) := by decide +kernel
theorem d_E_actWithoutRule_54 : decode prog_6_method_9_code 54 = .ok (.invokevirtual 176, 3) := by decide +kernel
theorem d_E_actWithoutRule_57 : decode prog_6_method_9_code 57 = .ok (.ireturn, 1) := by decide +kernel
theorem d_E_actWithoutRule_58 : decode prog_6_method_9_code 58 = .ok (.aload_n 0, 1) := by decide +kernel
theorem d_E_actWithoutRule_59 : decode prog_6_method_9_code 59 = .ok (.iload_n 2, 1) := by decide +kernel
theorem d_E_actWithoutRule_60 : decode prog_6_method_9_code 60 = .ok (.iconst 1, 1) := by decide +kernel
theorem d_E_actWithoutRule_61 : decode prog_6_method_9_code 61 = .ok (.invokevirtual 179, 3) := by decide +kernel
theorem d_E_actWithoutRule_64 : decode prog_6_method_9_code 64 = .ok (.ireturn, 1) := by decide +kernel
theorem d_E_actWithoutRule_65 : decode prog_6_method_9_code 65 = .ok (.aload_n 0, 1) := by decide +kernel
theorem d_E_actWithoutRule_66 : decode prog_6_method_9_code 66 = .ok (.iload_n 2, 1) := by decide +kernel
theorem d_E_actWithoutRule_67 : decode prog_6_method_9_code 67 = .ok (.iconst 0, 1) := by decide +kernel
theorem d_E_actWithoutRule_68 : decode prog_6_method_9_code 68 = .ok (.invokevirtual 179, 3) := by decide +kernel
theorem d_E_actWithoutRule_71 : decode prog_6_method_9_code 71 = .ok (.ireturn, 1) := by decide +kernel
theorem d_E_actWithoutRule_72 : decode prog_6_method_9_code 72 = .ok (.aload_n 0, 1) := by decide +kernel
theorem d_E_actWithoutRule_73 : decode prog_6_method_9_code 73 = .ok (.iload_n 2, 1) := by decide +kernel
theorem d_E_actWithoutRule_74 : decode prog_6_method_9_code 74 = .ok (.iload_n 3, 1) := by decide +kernel
theorem d_E_actWithoutRule_75 : decode prog_6_method_9_code 75 = .ok (.invokevirtual 183, 3) := by decide +kernel
theorem d_E_actWithoutRule_78 : decode prog_6_method_9_code 78 = .ok (.ireturn, 1) := by decide +kernel
theorem d_E_actWithoutRule_79 : decode prog_6_method_9_code 79 = .ok (.iload_n 1, 1) := by decide +kernel
theorem d_E_actWithoutRule_80 : decode prog_6_method_9_code 80 = .ok (.bipush 6, 2) := by decide +kernel
theorem d_E_actWithoutRule_82 : decode prog_6_method_9_code 82 = .ok (.if_icmp .ne 7, 3) := by decide +kernel
theorem d_E_actWithoutRule_89 : decode prog_6_method_9_code 89 = .ok (.iconst 0, 1) := by decide +kernel
theorem d_E_actWithoutRule_90 : decode prog_6_method_9_code 90 = .ok (.ireturn, 1) := by decide +kernel
theorem d_E_actWithoutRule_85 : decode prog_6_method_9_code 85 = .ok (.iconst 1, 1) := by decide +kernel
theorem d_E_actWithoutRule_86 : decode prog_6_method_9_code 86 = .ok (.goto 4, 3) := by decide +kernel
theorem d_E_take_0 : decode prog_6_method_2_code 0 = .ok (.aload_n 0, 1) := by decide +kernel
theorem d_E_take_1 : decode prog_6_method_2_code 1 = .ok (.lload_n 1, 1) := by decide +kernel
theorem d_E_take_2 : decode prog_6_method_2_code 2 = .ok (.putfield 22, 3) := by decide +kernel
theorem d_E_take_5 : decode prog_6_method_2_code 5 = .ok (.aload_n 0, 1) := by decide +kernel
theorem d_E_take_6 : decode prog_6_method_2_code 6 = .ok (.iconst 0, 1) := by decide +kernel
theorem d_E_take_7 : decode prog_6_method_2_code 7 = .ok (.putfield 26, 3) := by decide +kernel
theorem d_E_take_10 : decode prog_6_method_2_code 10 = .ok (.aload_n 0, 1) := by decide +kernel
theorem d_E_take_11 : decode prog_6_method_2_code 11 = .ok (.iconst 0, 1) := by decide +kernel
theorem d_E_take_12 : decode prog_6_method_2_code 12 = .ok (.putfield 30, 3) := by decide +kernel
theorem d_E_take_15 : decode prog_6_method_2_code 15 = .ok (.aload_n 0, 1) := by decide +kernel
theorem d_E_take_16 : decode prog_6_method_2_code 16 = .ok (.iload_n 3, 1) := by decide +kernel
theorem d_E_take_17 : decode prog_6_method_2_code 17 = .ok (.iload 4, 2) := by decide +kernel
theorem d_E_take_19 : decode prog_6_method_2_code 19 = .ok (.iload 5, 2) := by decide +kernel
theorem d_E_take_21 : decode prog_6_method_2_code 21 = .ok (.invokevirtual 33, 3) := by decide +kernel
theorem d_E_take_24 : decode prog_6_method_2_code 24 = .ok (.istore 6, 2) := by decide +kernel
theorem d_E_take_26 : decode prog_6_method_2_code 26 = .ok (.iload 6, 2) := by decide +kernel
theorem d_E_take_28 : decode prog_6_method_2_code 28 = .ok (.iconst (-1), 1) := by decide +kernel
theorem d_E_take_29 : decode prog_6_method_2_code 29 = .ok (.if_icmp .eq 12, 3) := by decide +kernel
theorem d_E_take_41 : decode prog_6_method_2_code 41 = .ok (.aload_n 0, 1) := by decide +kernel
theorem d_E_take_42 : decode prog_6_method_2_code 42 = .ok (.aload_n 0, 1) := by decide +kernel
theorem d_E_take_43 : decode prog_6_method_2_code 43 = .ok (.iload_n 3, 1) := by decide +kernel
theorem d_E_take_44 : decode prog_6_method_2_code 44 = .ok (.iload 4, 2) := by decide +kernel
theorem d_E_take_46 : decode prog_6_method_2_code 46 = .ok (.iload 5, 2) := by decide +kernel
theorem d_E_take_48 : decode prog_6_method_2_code 48 = .ok (.invokevirtual 41, 3) := by decide +kernel
theorem d_E_take_51 : decode prog_6_method_2_code 51 = .ok (.ifCond .eq 10, 3) := by decide +kernel
theorem d_E_take_61 : decode prog_6_method_2_code 61 = .ok (.bipush 99, 2) := by decide +kernel
theorem d_E_take_54 : decode prog_6_method_2_code 54 = .ok (.bipush 100, 2) := by decide +kernel
theorem d_E_take_56 : decode prog_6_method_2_code 56 = .ok (.iload_n 3, 1) := by decide +kernel
theorem d_E_take_57 : decode prog_6_method_2_code 57 = .ok (.iadd, 1) := by decide +kernel
theorem d_E_take_58 : decode prog_6_method_2_code 58 = .ok (.goto 5, 3) := by decide +kernel
theorem d_E_take_32 : decode prog_6_method_2_code 32 = .ok (.aload_n 0, 1) := by decide +kernel
theorem d_E_take_33 : decode prog_6_method_2_code 33 = .ok (.iload 6, 2) := by decide +kernel
theorem d_E_take_35 : decode prog_6_method_2_code 35 = .ok (.invokevirtual 37, 3) := by decide +kernel
theorem d_E_take_38 : decode prog_6_method_2_code 38 = .ok (.goto 28, 3) := by decide +kernel
theorem d_E_take_63 : decode prog_6_method_2_code 63 = .ok (.invokevirtual 45, 3) := by decide +kernel
theorem d_E_take_66 : decode prog_6_method_2_code 66 = .ok (.aload_n 0, 1) := by decide +kernel
theorem d_E_take_67 : decode prog_6_method_2_code 67 = .ok (.getfield 22, 3) := by decide +kernel
theorem d_E_take_70 : decode prog_6_method_2_code 70 = .ok (.invokestatic 48, 3) := by decide +kernel
theorem d_E_take_73 : decode prog_6_method_2_code 73 = .ok (.ifCond .ne 7, 3) := by decide +kernel
theorem d_E_take_76 : decode prog_6_method_2_code 76 = .ok (.aload_n 0, 1) := by decide +kernel
theorem d_E_take_77 : decode prog_6_method_2_code 77 = .ok (.invokevirtual 54, 3) := by decide +kernel
theorem d_E_take_80 : decode prog_6_method_2_code 80 = .ok (.iconst 0, 1) := by decide +kernel
theorem d_E_take_81 : decode prog_6_method_2_code 81 = .ok (.istore 7, 2) := by decide +kernel
theorem d_E_take_83 : decode prog_6_method_2_code 83 = .ok (.iload 7, 2) := by decide +kernel
theorem d_E_take_85 : decode prog_6_method_2_code 85 = .ok (.aload_n 0, 1) := by decide +kernel
theorem d_E_take_86 : decode prog_6_method_2_code 86 = .ok (.getfield 12, 3) := by decide +kernel
theorem d_E_take_89 : decode prog_6_method_2_code 89 = .ok (.getfield 57, 3) := by decide +kernel
theorem d_E_take_92 : decode prog_6_method_2_code 92 = .ok (.if_icmp .ge 55, 3) := by decide +kernel
theorem d_E_take_147 : decode prog_6_method_2_code 147 = .ok (.aload_n 0, 1) := by decide +kernel
theorem d_E_take_148 : decode prog_6_method_2_code 148 = .ok (.getfield 22, 3) := by decide +kernel
theorem d_E_take_151 : decode prog_6_method_2_code 151 = .ok (.lreturn, 1) := by decide +kernel
theorem d_E_take_95 : decode prog_6_method_2_code 95 = .ok (.aload_n 0, 1) := by decide +kernel
theorem d_E_take_96 : decode prog_6_method_2_code 96 = .ok (.getfield 22, 3) := by decide +kernel
theorem d_E_take_99 : decode prog_6_method_2_code 99 = .ok (.invokestatic 48, 3) := by decide +kernel
theorem d_E_take_102 : decode prog_6_method_2_code 102 = .ok (.ifCond .ne 45, 3) := by decide +kernel
theorem d_E_take_105 : decode prog_6_method_2_code 105 = .ok (.aload_n 0, 1) := by decide +kernel
theorem d_E_take_106 : decode prog_6_method_2_code 106 = .ok (.getfield 12, 3) := by decide +kernel
theorem d_E_take_109 : decode prog_6_method_2_code 109 = .ok (.getfield 60, 3) := by decide +kernel
theorem d_E_take_112 : decode prog_6_method_2_code 112 = .ok (.iload 7, 2) := by decide +kernel
theorem d_E_take_114 : decode prog_6_method_2_code 114 = .ok (.iaload, 1) := by decide +kernel
theorem d_E_take_115 : decode prog_6_method_2_code 115 = .ok (.istore 8, 2) := by decide +kernel
theorem d_E_take_117 : decode prog_6_method_2_code 117 = .ok (.aload_n 0, 1) := by decide +kernel
theorem d_E_take_118 : decode prog_6_method_2_code 118 = .ok (.iload 7, 2) := by decide +kernel
theorem d_E_take_120 : decode prog_6_method_2_code 120 = .ok (.invokevirtual 63, 3) := by decide +kernel
theorem d_E_take_123 : decode prog_6_method_2_code 123 = .ok (.ifCond .eq 18, 3) := by decide +kernel
theorem d_E_take_141 : decode prog_6_method_2_code 141 = .ok (.iinc 7 1, 3) := by decide +kernel
theorem d_E_take_144 : decode prog_6_method_2_code 144 = .ok (.goto (-61), 3) := by decide +kernel
theorem d_E_take_126 : decode prog_6_method_2_code 126 = .ok (.aload_n 0, 1) := by decide +kernel
theorem d_E_take_127 : decode prog_6_method_2_code 127 = .ok (.iload 8, 2) := by decide +kernel
theorem d_E_take_129 : decode prog_6_method_2_code 129 = .ok (.invokevirtual 67, 3) := by decide +kernel
theorem d_E_take_132 : decode prog_6_method_2_code 132 = .ok (.ifCond .eq 9, 3) := by decide +kernel
theorem d_E_take_135 : decode prog_6_method_2_code 135 = .ok (.aload_n 0, 1) := by decide +kernel
theorem d_E_take_136 : decode prog_6_method_2_code 136 = .ok (.iload 8, 2) := by decide +kernel
theorem d_E_take_138 : decode prog_6_method_2_code 138 = .ok (.invokevirtual 37, 3) := by decide +kernel
theorem d_A_forget_0 : decode prog_2_method_2_code 0 = .ok (.aload_n 0, 1) := by decide +kernel
theorem d_A_forget_1 : decode prog_2_method_2_code 1 = .ok (.iconst 0, 1) := by decide +kernel
theorem d_A_forget_2 : decode prog_2_method_2_code 2 = .ok (.putfield 34, 3) := by decide +kernel
theorem d_A_forget_5 : decode prog_2_method_2_code 5 = .ok (.aload_n 0, 1) := by decide +kernel
theorem d_A_forget_6 : decode prog_2_method_2_code 6 = .ok (.iconst 0, 1) := by decide +kernel
theorem d_A_forget_7 : decode prog_2_method_2_code 7 = .ok (.putfield 38, 3) := by decide +kernel
theorem d_A_forget_10 : decode prog_2_method_2_code 10 = .ok (.aload_n 0, 1) := by decide +kernel
theorem d_A_forget_11 : decode prog_2_method_2_code 11 = .ok (.iconst 0, 1) := by decide +kernel
theorem d_A_forget_12 : decode prog_2_method_2_code 12 = .ok (.putfield 41, 3) := by decide +kernel
theorem d_A_forget_15 : decode prog_2_method_2_code 15 = .ok (.aload_n 0, 1) := by decide +kernel
theorem d_A_forget_16 : decode prog_2_method_2_code 16 = .ok (.iconst 0, 1) := by decide +kernel
theorem d_A_forget_17 : decode prog_2_method_2_code 17 = .ok (.putfield 45, 3) := by decide +kernel
theorem d_A_forget_20 : decode prog_2_method_2_code 20 = .ok (.return_, 1) := by decide +kernel
theorem d_U_fill_0 : decode prog_19_method_103_code 0 = .ok (.iconst 0, 1) := by decide +kernel
theorem d_U_fill_1 : decode prog_19_method_103_code 1 = .ok (.istore_n 2, 1) := by decide +kernel
theorem d_U_fill_2 : decode prog_19_method_103_code 2 = .ok (.aload_n 0, 1) := by decide +kernel
theorem d_U_fill_3 : decode prog_19_method_103_code 3 = .ok (.arraylength, 1) := by decide +kernel
theorem d_U_fill_4 : decode prog_19_method_103_code 4 = .ok (.istore_n 3, 1) := by decide +kernel
theorem d_U_fill_5 : decode prog_19_method_103_code 5 = .ok (.iload_n 2, 1) := by decide +kernel
theorem d_U_fill_6 : decode prog_19_method_103_code 6 = .ok (.iload_n 3, 1) := by decide +kernel
theorem d_U_fill_7 : decode prog_19_method_103_code 7 = .ok (.if_icmp .ge 13, 3) := by decide +kernel
theorem d_U_fill_20 : decode prog_19_method_103_code 20 = .ok (.return_, 1) := by decide +kernel
theorem d_U_fill_10 : decode prog_19_method_103_code 10 = .ok (.aload_n 0, 1) := by decide +kernel
theorem d_U_fill_11 : decode prog_19_method_103_code 11 = .ok (.iload_n 2, 1) := by decide +kernel
theorem d_U_fill_12 : decode prog_19_method_103_code 12 = .ok (.iload_n 1, 1) := by decide +kernel
theorem d_U_fill_13 : decode prog_19_method_103_code 13 = .ok (.iastore, 1) := by decide +kernel
theorem d_U_fill_14 : decode prog_19_method_103_code 14 = .ok (.iinc 2 1, 3) := by decide +kernel
theorem d_U_fill_17 : decode prog_19_method_103_code 17 = .ok (.goto (-12), 3) := by decide +kernel
theorem d_D_of_0 : decode prog_5_method_2_code 0 = .ok (.iload_n 0, 1) := by decide +kernel
theorem d_D_of_1 : decode prog_5_method_2_code 1 = .ok (.bipush 6, 2) := by decide +kernel
theorem d_D_of_3 : decode prog_5_method_2_code 3 = .ok (.ishl, 1) := by decide +kernel
theorem d_D_of_4 : decode prog_5_method_2_code 4 = .ok (.iload_n 1, 1) := by decide +kernel
theorem d_D_of_5 : decode prog_5_method_2_code 5 = .ok (.iconst 1, 1) := by decide +kernel
theorem d_D_of_6 : decode prog_5_method_2_code 6 = .ok (.iadd, 1) := by decide +kernel
theorem d_D_of_7 : decode prog_5_method_2_code 7 = .ok (.iconst 3, 1) := by decide +kernel
theorem d_D_of_8 : decode prog_5_method_2_code 8 = .ok (.ishl, 1) := by decide +kernel
theorem d_D_of_9 : decode prog_5_method_2_code 9 = .ok (.ior, 1) := by decide +kernel
theorem d_D_of_10 : decode prog_5_method_2_code 10 = .ok (.iload_n 2, 1) := by decide +kernel
theorem d_D_of_11 : decode prog_5_method_2_code 11 = .ok (.iconst 1, 1) := by decide +kernel
theorem d_D_of_12 : decode prog_5_method_2_code 12 = .ok (.iadd, 1) := by decide +kernel
theorem d_D_of_13 : decode prog_5_method_2_code 13 = .ok (.ior, 1) := by decide +kernel
theorem d_D_of_14 : decode prog_5_method_2_code 14 = .ok (.ireturn, 1) := by decide +kernel
theorem d_A_listCommands_0 : decode prog_2_method_4_code 0 = .ok (.aload_n 0, 1) := by decide +kernel
theorem d_A_listCommands_1 : decode prog_2_method_4_code 1 = .ok (.iconst 0, 1) := by decide +kernel
theorem d_A_listCommands_2 : decode prog_2_method_4_code 2 = .ok (.putfield 72, 3) := by decide +kernel
theorem d_A_listCommands_5 : decode prog_2_method_4_code 5 = .ok (.iconst 0, 1) := by decide +kernel
theorem d_A_listCommands_6 : decode prog_2_method_4_code 6 = .ok (.istore_n 2, 1) := by decide +kernel
theorem d_A_listCommands_7 : decode prog_2_method_4_code 7 = .ok (.iload_n 2, 1) := by decide +kernel
theorem d_A_listCommands_8 : decode prog_2_method_4_code 8 = .ok (.bipush 8, 2) := by decide +kernel
theorem d_A_listCommands_10 : decode prog_2_method_4_code 10 = .ok (.if_icmp .gt 86, 3) := by decide +kernel
theorem d_A_listCommands_96 : decode prog_2_method_4_code 96 = .ok (.return_, 1) := by decide +kernel
theorem d_A_listCommands_13 : decode prog_2_method_4_code 13 = .ok (.iconst (-1), 1) := by decide +kernel
theorem d_A_listCommands_14 : decode prog_2_method_4_code 14 = .ok (.istore_n 3, 1) := by decide +kernel
theorem d_A_listCommands_15 : decode prog_2_method_4_code 15 = .ok (.iload_n 3, 1) := by decide +kernel
theorem d_A_listCommands_16 : decode prog_2_method_4_code 16 = .ok (.bipush 6, 2) := by decide +kernel
theorem d_A_listCommands_18 : decode prog_2_method_4_code 18 = .ok (.if_icmp .ge 72, 3) := by decide +kernel
theorem d_A_listCommands_90 : decode prog_2_method_4_code 90 = .ok (.iinc 2 1, 3) := by decide +kernel
theorem d_A_listCommands_93 : decode prog_2_method_4_code 93 = .ok (.goto (-86), 3) := by decide +kernel
theorem d_A_listCommands_21 : decode prog_2_method_4_code 21 = .ok (.iconst (-1), 1) := by decide +kernel
theorem d_A_listCommands_22 : decode prog_2_method_4_code 22 = .ok (.istore 4, 2) := by decide +kernel
theorem d_A_listCommands_24 : decode prog_2_method_4_code 24 = .ok (.iload 4, 2) := by decide +kernel
theorem d_A_listCommands_26 : decode prog_2_method_4_code 26 = .ok (.bipush 6, 2) := by decide +kernel
theorem d_A_listCommands_28 : decode prog_2_method_4_code 28 = .ok (.if_icmp .ge 56, 3) := by decide +kernel
theorem d_A_listCommands_84 : decode prog_2_method_4_code 84 = .ok (.iinc 3 1, 3) := by decide +kernel
theorem d_A_listCommands_87 : decode prog_2_method_4_code 87 = .ok (.goto (-72), 3) := by decide +kernel
theorem d_A_listCommands_31 : decode prog_2_method_4_code 31 = .ok (.aload_n 0, 1) := by decide +kernel
theorem d_A_listCommands_32 : decode prog_2_method_4_code 32 = .ok (.getfield 72, 3) := by decide +kernel
theorem d_A_listCommands_35 : decode prog_2_method_4_code 35 = .ok (.sipush 163, 3) := by decide +kernel
theorem d_A_listCommands_38 : decode prog_2_method_4_code 38 = .ok (.if_icmp .ge 40, 3) := by decide +kernel
theorem d_A_listCommands_78 : decode prog_2_method_4_code 78 = .ok (.iinc 4 1, 3) := by decide +kernel
theorem d_A_listCommands_81 : decode prog_2_method_4_code 81 = .ok (.goto (-57), 3) := by decide +kernel
theorem d_A_listCommands_41 : decode prog_2_method_4_code 41 = .ok (.aload_n 1, 1) := by decide +kernel
theorem d_A_listCommands_42 : decode prog_2_method_4_code 42 = .ok (.iload_n 2, 1) := by decide +kernel
theorem d_A_listCommands_43 : decode prog_2_method_4_code 43 = .ok (.iload_n 3, 1) := by decide +kernel
theorem d_A_listCommands_44 : decode prog_2_method_4_code 44 = .ok (.iload 4, 2) := by decide +kernel
theorem d_A_listCommands_46 : decode prog_2_method_4_code 46 = .ok (.invokevirtual 75, 3) := by decide +kernel
theorem d_A_listCommands_49 : decode prog_2_method_4_code 49 = .ok (.ifCond .eq 29, 3) := by decide +kernel
theorem d_A_listCommands_52 : decode prog_2_method_4_code 52 = .ok (.aload_n 0, 1) := by decide +kernel
theorem d_A_listCommands_53 : decode prog_2_method_4_code 53 = .ok (.getfield 11, 3) := by decide +kernel
theorem d_A_listCommands_56 : decode prog_2_method_4_code 56 = .ok (.aload_n 0, 1) := by decide +kernel
theorem d_A_listCommands_57 : decode prog_2_method_4_code 57 = .ok (.getfield 72, 3) := by decide +kernel
theorem d_A_listCommands_60 : decode prog_2_method_4_code 60 = .ok (.iload_n 2, 1) := by decide +kernel
theorem d_A_listCommands_61 : decode prog_2_method_4_code 61 = .ok (.iload_n 3, 1) := by decide +kernel
theorem d_A_listCommands_62 : decode prog_2_method_4_code 62 = .ok (.iload 4, 2) := by decide +kernel
theorem d_A_listCommands_64 : decode prog_2_method_4_code 64 = .ok (.invokestatic 79, 3) := by decide +kernel
theorem d_A_listCommands_67 : decode prog_2_method_4_code 67 = .ok (.iastore, 1) := by decide +kernel
theorem d_A_listCommands_68 : decode prog_2_method_4_code 68 = .ok (.aload_n 0, 1) := by decide +kernel
theorem d_A_listCommands_69 : decode prog_2_method_4_code 69 = .ok (.dup, 1) := by decide +kernel
theorem d_A_listCommands_70 : decode prog_2_method_4_code 70 = .ok (.getfield 72, 3) := by decide +kernel
theorem d_A_listCommands_73 : decode prog_2_method_4_code 73 = .ok (.iconst 1, 1) := by decide +kernel
theorem d_A_listCommands_74 : decode prog_2_method_4_code 74 = .ok (.iadd, 1) := by decide +kernel
theorem d_A_listCommands_75 : decode prog_2_method_4_code 75 = .ok (.putfield 72, 3) := by decide +kernel
theorem d_A_slotOf_0 : decode prog_2_method_10_code 0 = .ok (.lload_n 1, 1) := by decide +kernel
theorem d_A_slotOf_1 : decode prog_2_method_10_code 1 = .ok (.ldc2_w 130, 3) := by decide +kernel
theorem d_A_slotOf_4 : decode prog_2_method_10_code 4 = .ok (.lmul, 1) := by decide +kernel
theorem d_A_slotOf_5 : decode prog_2_method_10_code 5 = .ok (.bipush 55, 2) := by decide +kernel
theorem d_A_slotOf_7 : decode prog_2_method_10_code 7 = .ok (.lushr, 1) := by decide +kernel
theorem d_A_slotOf_8 : decode prog_2_method_10_code 8 = .ok (.l2i, 1) := by decide +kernel
theorem d_A_slotOf_9 : decode prog_2_method_10_code 9 = .ok (.istore_n 3, 1) := by decide +kernel
theorem d_A_slotOf_10 : decode prog_2_method_10_code 10 = .ok (.iconst 0, 1) := by decide +kernel
theorem d_A_slotOf_11 : decode prog_2_method_10_code 11 = .ok (.istore 4, 2) := by decide +kernel
theorem d_A_slotOf_13 : decode prog_2_method_10_code 13 = .ok (.iload 4, 2) := by decide +kernel
theorem d_A_slotOf_15 : decode prog_2_method_10_code 15 = .ok (.sipush 512, 3) := by decide +kernel
theorem d_A_slotOf_18 : decode prog_2_method_10_code 18 = .ok (.if_icmp .ge 46, 3) := by decide +kernel
theorem d_A_slotOf_64 : decode prog_2_method_10_code 64 = .ok (.iload_n 3, 1) := by decide +kernel
theorem d_A_slotOf_65 : decode prog_2_method_10_code 65 = .ok (.ireturn, 1) := by decide +kernel
theorem d_A_slotOf_21 : decode prog_2_method_10_code 21 = .ok (.aload_n 0, 1) := by decide +kernel
theorem d_A_slotOf_22 : decode prog_2_method_10_code 22 = .ok (.getfield 25, 3) := by decide +kernel
theorem d_A_slotOf_25 : decode prog_2_method_10_code 25 = .ok (.iload_n 3, 1) := by decide +kernel
theorem d_A_slotOf_26 : decode prog_2_method_10_code 26 = .ok (.iaload, 1) := by decide +kernel
theorem d_A_slotOf_27 : decode prog_2_method_10_code 27 = .ok (.ifCond .eq 21, 3) := by decide +kernel
theorem d_A_slotOf_48 : decode prog_2_method_10_code 48 = .ok (.iload_n 3, 1) := by decide +kernel
theorem d_A_slotOf_49 : decode prog_2_method_10_code 49 = .ok (.ireturn, 1) := by decide +kernel
theorem d_A_slotOf_30 : decode prog_2_method_10_code 30 = .ok (.aload_n 0, 1) := by decide +kernel
theorem d_A_slotOf_31 : decode prog_2_method_10_code 31 = .ok (.getfield 15, 3) := by decide +kernel
theorem d_A_slotOf_34 : decode prog_2_method_10_code 34 = .ok (.aload_n 0, 1) := by decide +kernel
theorem d_A_slotOf_35 : decode prog_2_method_10_code 35 = .ok (.getfield 25, 3) := by decide +kernel
theorem d_A_slotOf_38 : decode prog_2_method_10_code 38 = .ok (.iload_n 3, 1) := by decide +kernel
theorem d_A_slotOf_39 : decode prog_2_method_10_code 39 = .ok (.iaload, 1) := by decide +kernel
theorem d_A_slotOf_40 : decode prog_2_method_10_code 40 = .ok (.iconst 1, 1) := by decide +kernel
theorem d_A_slotOf_41 : decode prog_2_method_10_code 41 = .ok (.isub, 1) := by decide +kernel
theorem d_A_slotOf_42 : decode prog_2_method_10_code 42 = .ok (.laload, 1) := by decide +kernel
theorem d_A_slotOf_43 : decode prog_2_method_10_code 43 = .ok (.lload_n 1, 1) := by decide +kernel
theorem d_A_slotOf_44 : decode prog_2_method_10_code 44 = .ok (.lcmp, 1) := by decide +kernel
theorem d_A_slotOf_45 : decode prog_2_method_10_code 45 = .ok (.ifCond .ne 5, 3) := by decide +kernel
theorem d_A_slotOf_50 : decode prog_2_method_10_code 50 = .ok (.iload_n 3, 1) := by decide +kernel
theorem d_A_slotOf_51 : decode prog_2_method_10_code 51 = .ok (.iconst 1, 1) := by decide +kernel
theorem d_A_slotOf_52 : decode prog_2_method_10_code 52 = .ok (.iadd, 1) := by decide +kernel
theorem d_A_slotOf_53 : decode prog_2_method_10_code 53 = .ok (.sipush 511, 3) := by decide +kernel
theorem d_A_slotOf_56 : decode prog_2_method_10_code 56 = .ok (.iand, 1) := by decide +kernel
theorem d_A_slotOf_57 : decode prog_2_method_10_code 57 = .ok (.istore_n 3, 1) := by decide +kernel
theorem d_A_slotOf_58 : decode prog_2_method_10_code 58 = .ok (.iinc 4 1, 3) := by decide +kernel
theorem d_A_slotOf_61 : decode prog_2_method_10_code 61 = .ok (.goto (-48), 3) := by decide +kernel
theorem d_A_append_0 : decode prog_2_method_9_code 0 = .ok (.aload_n 0, 1) := by decide +kernel
theorem d_A_append_1 : decode prog_2_method_9_code 1 = .ok (.getfield 15, 3) := by decide +kernel
theorem d_A_append_4 : decode prog_2_method_9_code 4 = .ok (.aload_n 0, 1) := by decide +kernel
theorem d_A_append_5 : decode prog_2_method_9_code 5 = .ok (.getfield 34, 3) := by decide +kernel
theorem d_A_append_8 : decode prog_2_method_9_code 8 = .ok (.lload_n 1, 1) := by decide +kernel
theorem d_A_append_9 : decode prog_2_method_9_code 9 = .ok (.lastore, 1) := by decide +kernel
theorem d_A_append_10 : decode prog_2_method_9_code 10 = .ok (.aload_n 0, 1) := by decide +kernel
theorem d_A_append_11 : decode prog_2_method_9_code 11 = .ok (.getfield 19, 3) := by decide +kernel
theorem d_A_append_14 : decode prog_2_method_9_code 14 = .ok (.aload_n 0, 1) := by decide +kernel
theorem d_A_append_15 : decode prog_2_method_9_code 15 = .ok (.getfield 34, 3) := by decide +kernel
theorem d_A_append_18 : decode prog_2_method_9_code 18 = .ok (.iload 4, 2) := by decide +kernel
theorem d_A_append_20 : decode prog_2_method_9_code 20 = .ok (.iastore, 1) := by decide +kernel
theorem d_A_append_21 : decode prog_2_method_9_code 21 = .ok (.aload_n 0, 1) := by decide +kernel
theorem d_A_append_22 : decode prog_2_method_9_code 22 = .ok (.getfield 22, 3) := by decide +kernel
theorem d_A_append_25 : decode prog_2_method_9_code 25 = .ok (.aload_n 0, 1) := by decide +kernel
theorem d_A_append_26 : decode prog_2_method_9_code 26 = .ok (.getfield 34, 3) := by decide +kernel
theorem d_A_append_29 : decode prog_2_method_9_code 29 = .ok (.iload 5, 2) := by decide +kernel
theorem d_A_append_31 : decode prog_2_method_9_code 31 = .ok (.iastore, 1) := by decide +kernel
theorem d_A_append_32 : decode prog_2_method_9_code 32 = .ok (.iconst 0, 1) := by decide +kernel
theorem d_A_append_33 : decode prog_2_method_9_code 33 = .ok (.istore 6, 2) := by decide +kernel
theorem d_A_append_35 : decode prog_2_method_9_code 35 = .ok (.iload 6, 2) := by decide +kernel
theorem d_A_append_37 : decode prog_2_method_9_code 37 = .ok (.iconst 3, 1) := by decide +kernel
theorem d_A_append_38 : decode prog_2_method_9_code 38 = .ok (.if_icmp .ge 24, 3) := by decide +kernel
theorem d_A_append_62 : decode prog_2_method_9_code 62 = .ok (.aload_n 0, 1) := by decide +kernel
theorem d_A_append_63 : decode prog_2_method_9_code 63 = .ok (.dup, 1) := by decide +kernel
theorem d_A_append_64 : decode prog_2_method_9_code 64 = .ok (.getfield 34, 3) := by decide +kernel
theorem d_A_append_67 : decode prog_2_method_9_code 67 = .ok (.iconst 1, 1) := by decide +kernel
theorem d_A_append_68 : decode prog_2_method_9_code 68 = .ok (.iadd, 1) := by decide +kernel
theorem d_A_append_69 : decode prog_2_method_9_code 69 = .ok (.putfield 34, 3) := by decide +kernel
theorem d_A_append_72 : decode prog_2_method_9_code 72 = .ok (.aload_n 0, 1) := by decide +kernel
theorem d_A_append_73 : decode prog_2_method_9_code 73 = .ok (.getfield 25, 3) := by decide +kernel
theorem d_A_append_76 : decode prog_2_method_9_code 76 = .ok (.iload_n 3, 1) := by decide +kernel
theorem d_A_append_77 : decode prog_2_method_9_code 77 = .ok (.aload_n 0, 1) := by decide +kernel
theorem d_A_append_78 : decode prog_2_method_9_code 78 = .ok (.getfield 34, 3) := by decide +kernel
theorem d_A_append_81 : decode prog_2_method_9_code 81 = .ok (.iastore, 1) := by decide +kernel
theorem d_A_append_82 : decode prog_2_method_9_code 82 = .ok (.return_, 1) := by decide +kernel
theorem d_A_append_41 : decode prog_2_method_9_code 41 = .ok (.aload_n 0, 1) := by decide +kernel
theorem d_A_append_42 : decode prog_2_method_9_code 42 = .ok (.getfield 28, 3) := by decide +kernel
theorem d_A_append_45 : decode prog_2_method_9_code 45 = .ok (.aload_n 0, 1) := by decide +kernel
theorem d_A_append_46 : decode prog_2_method_9_code 46 = .ok (.getfield 34, 3) := by decide +kernel
theorem d_A_append_49 : decode prog_2_method_9_code 49 = .ok (.iconst 3, 1) := by decide +kernel
theorem d_A_append_50 : decode prog_2_method_9_code 50 = .ok (.imul, 1) := by decide +kernel
theorem d_A_append_51 : decode prog_2_method_9_code 51 = .ok (.iload 6, 2) := by decide +kernel
theorem d_A_append_53 : decode prog_2_method_9_code 53 = .ok (.iadd, 1) := by decide +kernel
theorem d_A_append_54 : decode prog_2_method_9_code 54 = .ok (.lconst 0, 1) := by decide +kernel
theorem d_A_append_55 : decode prog_2_method_9_code 55 = .ok (.lastore, 1) := by decide +kernel
theorem d_A_append_56 : decode prog_2_method_9_code 56 = .ok (.iinc 6 1, 3) := by decide +kernel
theorem d_A_append_59 : decode prog_2_method_9_code 59 = .ok (.goto (-24), 3) := by decide +kernel
theorem d_A_opn_0 : decode prog_2_method_3_code 0 = .ok (.aload_n 0, 1) := by decide +kernel
theorem d_A_opn_1 : decode prog_2_method_3_code 1 = .ok (.getfield 25, 3) := by decide +kernel
theorem d_A_opn_4 : decode prog_2_method_3_code 4 = .ok (.iconst 0, 1) := by decide +kernel
theorem d_A_opn_5 : decode prog_2_method_3_code 5 = .ok (.invokestatic 48, 3) := by decide +kernel
theorem d_A_opn_8 : decode prog_2_method_3_code 8 = .ok (.aload_n 0, 1) := by decide +kernel
theorem d_A_opn_9 : decode prog_2_method_3_code 9 = .ok (.aload_n 1, 1) := by decide +kernel
theorem d_A_opn_10 : decode prog_2_method_3_code 10 = .ok (.invokevirtual 54, 3) := by decide +kernel
theorem d_A_opn_13 : decode prog_2_method_3_code 13 = .ok (.aload_n 1, 1) := by decide +kernel
theorem d_A_opn_14 : decode prog_2_method_3_code 14 = .ok (.invokevirtual 58, 3) := by decide +kernel
theorem d_A_opn_17 : decode prog_2_method_3_code 17 = .ok (.lstore_n 2, 1) := by decide +kernel
theorem d_A_opn_18 : decode prog_2_method_3_code 18 = .ok (.aload_n 0, 1) := by decide +kernel
theorem d_A_opn_19 : decode prog_2_method_3_code 19 = .ok (.lload_n 2, 1) := by decide +kernel
theorem d_A_opn_20 : decode prog_2_method_3_code 20 = .ok (.aload_n 0, 1) := by decide +kernel
theorem d_A_opn_21 : decode prog_2_method_3_code 21 = .ok (.lload_n 2, 1) := by decide +kernel
theorem d_A_opn_22 : decode prog_2_method_3_code 22 = .ok (.invokevirtual 64, 3) := by decide +kernel
theorem d_A_opn_25 : decode prog_2_method_3_code 25 = .ok (.iconst 0, 1) := by decide +kernel
theorem d_A_opn_26 : decode prog_2_method_3_code 26 = .ok (.iconst 0, 1) := by decide +kernel
theorem d_A_opn_27 : decode prog_2_method_3_code 27 = .ok (.invokevirtual 68, 3) := by decide +kernel
theorem d_A_opn_30 : decode prog_2_method_3_code 30 = .ok (.return_, 1) := by decide +kernel
theorem d_A_hasMore_0 : decode prog_2_method_5_code 0 = .ok (.aload_n 0, 1) := by decide +kernel
theorem d_A_hasMore_1 : decode prog_2_method_5_code 1 = .ok (.getfield 38, 3) := by decide +kernel
theorem d_A_hasMore_4 : decode prog_2_method_5_code 4 = .ok (.aload_n 0, 1) := by decide +kernel
theorem d_A_hasMore_5 : decode prog_2_method_5_code 5 = .ok (.getfield 34, 3) := by decide +kernel
theorem d_A_hasMore_8 : decode prog_2_method_5_code 8 = .ok (.if_icmp .ge 14, 3) := by decide +kernel
theorem d_A_hasMore_22 : decode prog_2_method_5_code 22 = .ok (.iconst 0, 1) := by decide +kernel
theorem d_A_hasMore_23 : decode prog_2_method_5_code 23 = .ok (.ireturn, 1) := by decide +kernel
theorem d_A_hasMore_11 : decode prog_2_method_5_code 11 = .ok (.aload_n 0, 1) := by decide +kernel
theorem d_A_hasMore_12 : decode prog_2_method_5_code 12 = .ok (.getfield 41, 3) := by decide +kernel
theorem d_A_hasMore_15 : decode prog_2_method_5_code 15 = .ok (.ifCond .ne 7, 3) := by decide +kernel
theorem d_A_hasMore_18 : decode prog_2_method_5_code 18 = .ok (.iconst 1, 1) := by decide +kernel
theorem d_A_hasMore_19 : decode prog_2_method_5_code 19 = .ok (.goto 4, 3) := by decide +kernel
theorem d_A_isFinished_0 : decode prog_2_method_6_code 0 = .ok (.aload_n 0, 1) := by decide +kernel
theorem d_A_isFinished_1 : decode prog_2_method_6_code 1 = .ok (.getfield 34, 3) := by decide +kernel
theorem d_A_isFinished_4 : decode prog_2_method_6_code 4 = .ok (.ifCond .le 18, 3) := by decide +kernel
theorem d_A_isFinished_22 : decode prog_2_method_6_code 22 = .ok (.iconst 0, 1) := by decide +kernel
theorem d_A_isFinished_23 : decode prog_2_method_6_code 23 = .ok (.ireturn, 1) := by decide +kernel
theorem d_A_isFinished_7 : decode prog_2_method_6_code 7 = .ok (.aload_n 0, 1) := by decide +kernel
theorem d_A_isFinished_8 : decode prog_2_method_6_code 8 = .ok (.getfield 38, 3) := by decide +kernel
theorem d_A_isFinished_11 : decode prog_2_method_6_code 11 = .ok (.aload_n 0, 1) := by decide +kernel
theorem d_A_isFinished_12 : decode prog_2_method_6_code 12 = .ok (.getfield 34, 3) := by decide +kernel
theorem d_A_isFinished_15 : decode prog_2_method_6_code 15 = .ok (.if_icmp .ne 7, 3) := by decide +kernel
theorem d_A_isFinished_18 : decode prog_2_method_6_code 18 = .ok (.iconst 1, 1) := by decide +kernel
theorem d_A_isFinished_19 : decode prog_2_method_6_code 19 = .ok (.goto 4, 3) := by decide +kernel
theorem d_D_verbOf_0 : decode prog_5_method_3_code 0 = .ok (.iload_n 0, 1) := by decide +kernel
theorem d_D_verbOf_1 : decode prog_5_method_3_code 1 = .ok (.bipush 6, 2) := by decide +kernel
theorem d_D_verbOf_3 : decode prog_5_method_3_code 3 = .ok (.ishr, 1) := by decide +kernel
theorem d_D_verbOf_4 : decode prog_5_method_3_code 4 = .ok (.ireturn, 1) := by decide +kernel
theorem d_D_firstOf_0 : decode prog_5_method_4_code 0 = .ok (.iload_n 0, 1) := by decide +kernel
theorem d_D_firstOf_1 : decode prog_5_method_4_code 1 = .ok (.iconst 3, 1) := by decide +kernel
theorem d_D_firstOf_2 : decode prog_5_method_4_code 2 = .ok (.ishr, 1) := by decide +kernel
theorem d_D_firstOf_3 : decode prog_5_method_4_code 3 = .ok (.bipush 7, 2) := by decide +kernel
theorem d_D_firstOf_5 : decode prog_5_method_4_code 5 = .ok (.iand, 1) := by decide +kernel
theorem d_D_firstOf_6 : decode prog_5_method_4_code 6 = .ok (.iconst 1, 1) := by decide +kernel
theorem d_D_firstOf_7 : decode prog_5_method_4_code 7 = .ok (.isub, 1) := by decide +kernel
theorem d_D_firstOf_8 : decode prog_5_method_4_code 8 = .ok (.ireturn, 1) := by decide +kernel
theorem d_D_secondOf_0 : decode prog_5_method_5_code 0 = .ok (.iload_n 0, 1) := by decide +kernel
theorem d_D_secondOf_1 : decode prog_5_method_5_code 1 = .ok (.bipush 7, 2) := by decide +kernel
theorem d_D_secondOf_3 : decode prog_5_method_5_code 3 = .ok (.iand, 1) := by decide +kernel
theorem d_D_secondOf_4 : decode prog_5_method_5_code 4 = .ok (.iconst 1, 1) := by decide +kernel
theorem d_D_secondOf_5 : decode prog_5_method_5_code 5 = .ok (.isub, 1) := by decide +kernel
theorem d_D_secondOf_6 : decode prog_5_method_5_code 6 = .ok (.ireturn, 1) := by decide +kernel
theorem d_A_addTo_0 : decode prog_2_method_15_code 0 = .ok (.aload_n 0, 1) := by decide +kernel
theorem d_A_addTo_1 : decode prog_2_method_15_code 1 = .ok (.iload_n 1, 1) := by decide +kernel
theorem d_A_addTo_2 : decode prog_2_method_15_code 2 = .ok (.iload_n 2, 1) := by decide +kernel
theorem d_A_addTo_3 : decode prog_2_method_15_code 3 = .ok (.bipush 64, 2) := by decide +kernel
theorem d_A_addTo_5 : decode prog_2_method_15_code 5 = .ok (.idiv, 1) := by decide +kernel
theorem d_A_addTo_6 : decode prog_2_method_15_code 6 = .ok (.iadd, 1) := by decide +kernel
theorem d_A_addTo_7 : decode prog_2_method_15_code 7 = .ok (.dup2, 1) := by decide +kernel
theorem d_A_addTo_8 : decode prog_2_method_15_code 8 = .ok (.laload, 1) := by decide +kernel
theorem d_A_addTo_9 : decode prog_2_method_15_code 9 = .ok (.lconst 1, 1) := by decide +kernel
theorem d_A_addTo_10 : decode prog_2_method_15_code 10 = .ok (.iload_n 2, 1) := by decide +kernel
theorem d_A_addTo_11 : decode prog_2_method_15_code 11 = .ok (.bipush 64, 2) := by decide +kernel
theorem d_A_addTo_13 : decode prog_2_method_15_code 13 = .ok (.irem, 1) := by decide +kernel
theorem d_A_addTo_14 : decode prog_2_method_15_code 14 = .ok (.lshl, 1) := by decide +kernel
theorem d_A_addTo_15 : decode prog_2_method_15_code 15 = .ok (.lor, 1) := by decide +kernel
theorem d_A_addTo_16 : decode prog_2_method_15_code 16 = .ok (.lastore, 1) := by decide +kernel
theorem d_A_addTo_17 : decode prog_2_method_15_code 17 = .ok (.return_, 1) := by decide +kernel
theorem d_A_note_0 : decode prog_2_method_8_code 0 = .ok (.aload_n 0, 1) := by decide +kernel
theorem d_A_note_1 : decode prog_2_method_8_code 1 = .ok (.lload_n 1, 1) := by decide +kernel
theorem d_A_note_2 : decode prog_2_method_8_code 2 = .ok (.invokevirtual 64, 3) := by decide +kernel
theorem d_A_note_5 : decode prog_2_method_8_code 5 = .ok (.istore 4, 2) := by decide +kernel
theorem d_A_note_7 : decode prog_2_method_8_code 7 = .ok (.aload_n 0, 1) := by decide +kernel
theorem d_A_note_8 : decode prog_2_method_8_code 8 = .ok (.getfield 25, 3) := by decide +kernel
theorem d_A_note_11 : decode prog_2_method_8_code 11 = .ok (.iload 4, 2) := by decide +kernel
theorem d_A_note_13 : decode prog_2_method_8_code 13 = .ok (.iaload, 1) := by decide +kernel
theorem d_A_note_14 : decode prog_2_method_8_code 14 = .ok (.ifCond .ne 31, 3) := by decide +kernel
theorem d_A_note_17 : decode prog_2_method_8_code 17 = .ok (.aload_n 0, 1) := by decide +kernel
theorem d_A_note_18 : decode prog_2_method_8_code 18 = .ok (.getfield 34, 3) := by decide +kernel
theorem d_A_note_21 : decode prog_2_method_8_code 21 = .ok (.sipush 160, 3) := by decide +kernel
theorem d_A_note_24 : decode prog_2_method_8_code 24 = .ok (.if_icmp .ne 9, 3) := by decide +kernel
theorem d_A_note_33 : decode prog_2_method_8_code 33 = .ok (.aload_n 0, 1) := by decide +kernel
theorem d_A_note_34 : decode prog_2_method_8_code 34 = .ok (.lload_n 1, 1) := by decide +kernel
theorem d_A_note_35 : decode prog_2_method_8_code 35 = .ok (.iload 4, 2) := by decide +kernel
theorem d_A_note_37 : decode prog_2_method_8_code 37 = .ok (.aload_n 0, 1) := by decide +kernel
theorem d_A_note_38 : decode prog_2_method_8_code 38 = .ok (.getfield 38, 3) := by decide +kernel
theorem d_A_note_41 : decode prog_2_method_8_code 41 = .ok (.iload_n 3, 1) := by decide +kernel
theorem d_A_note_42 : decode prog_2_method_8_code 42 = .ok (.invokevirtual 68, 3) := by decide +kernel
theorem d_A_note_27 : decode prog_2_method_8_code 27 = .ok (.aload_n 0, 1) := by decide +kernel
theorem d_A_note_28 : decode prog_2_method_8_code 28 = .ok (.iconst 1, 1) := by decide +kernel
theorem d_A_note_29 : decode prog_2_method_8_code 29 = .ok (.putfield 41, 3) := by decide +kernel
theorem d_A_note_32 : decode prog_2_method_8_code 32 = .ok (.return_, 1) := by decide +kernel
theorem d_A_note_45 : decode prog_2_method_8_code 45 = .ok (.aload_n 0, 1) := by decide +kernel
theorem d_A_note_46 : decode prog_2_method_8_code 46 = .ok (.getfield 28, 3) := by decide +kernel
theorem d_A_note_49 : decode prog_2_method_8_code 49 = .ok (.aload_n 0, 1) := by decide +kernel
theorem d_A_note_50 : decode prog_2_method_8_code 50 = .ok (.getfield 38, 3) := by decide +kernel
theorem d_A_note_53 : decode prog_2_method_8_code 53 = .ok (.iconst 3, 1) := by decide +kernel
theorem d_A_note_54 : decode prog_2_method_8_code 54 = .ok (.imul, 1) := by decide +kernel
theorem d_A_note_55 : decode prog_2_method_8_code 55 = .ok (.aload_n 0, 1) := by decide +kernel
theorem d_A_note_56 : decode prog_2_method_8_code 56 = .ok (.getfield 25, 3) := by decide +kernel
theorem d_A_note_59 : decode prog_2_method_8_code 59 = .ok (.iload 4, 2) := by decide +kernel
theorem d_A_note_61 : decode prog_2_method_8_code 61 = .ok (.iaload, 1) := by decide +kernel
theorem d_A_note_62 : decode prog_2_method_8_code 62 = .ok (.iconst 1, 1) := by decide +kernel
theorem d_A_note_63 : decode prog_2_method_8_code 63 = .ok (.isub, 1) := by decide +kernel
theorem d_A_note_64 : decode prog_2_method_8_code 64 = .ok (.invokestatic 126, 3) := by decide +kernel
theorem d_A_note_67 : decode prog_2_method_8_code 67 = .ok (.return_, 1) := by decide +kernel
theorem d_U_fillL_0 : decode prog_19_method_101_code 0 = .ok (.iconst 0, 1) := by decide +kernel
theorem d_U_fillL_1 : decode prog_19_method_101_code 1 = .ok (.istore_n 3, 1) := by decide +kernel
theorem d_U_fillL_2 : decode prog_19_method_101_code 2 = .ok (.aload_n 0, 1) := by decide +kernel
theorem d_U_fillL_3 : decode prog_19_method_101_code 3 = .ok (.arraylength, 1) := by decide +kernel
theorem d_U_fillL_4 : decode prog_19_method_101_code 4 = .ok (.istore 4, 2) := by decide +kernel
theorem d_U_fillL_6 : decode prog_19_method_101_code 6 = .ok (.iload_n 3, 1) := by decide +kernel
theorem d_U_fillL_7 : decode prog_19_method_101_code 7 = .ok (.iload 4, 2) := by decide +kernel
theorem d_U_fillL_9 : decode prog_19_method_101_code 9 = .ok (.if_icmp .ge 13, 3) := by decide +kernel
theorem d_U_fillL_22 : decode prog_19_method_101_code 22 = .ok (.return_, 1) := by decide +kernel
theorem d_U_fillL_12 : decode prog_19_method_101_code 12 = .ok (.aload_n 0, 1) := by decide +kernel
theorem d_U_fillL_13 : decode prog_19_method_101_code 13 = .ok (.iload_n 3, 1) := by decide +kernel
theorem d_U_fillL_14 : decode prog_19_method_101_code 14 = .ok (.lload_n 1, 1) := by decide +kernel
theorem d_U_fillL_15 : decode prog_19_method_101_code 15 = .ok (.lastore, 1) := by decide +kernel
theorem d_U_fillL_16 : decode prog_19_method_101_code 16 = .ok (.iinc 3 1, 3) := by decide +kernel
theorem d_U_fillL_19 : decode prog_19_method_101_code 19 = .ok (.goto (-13), 3) := by decide +kernel
theorem d_A_isHopeful_0 : decode prog_2_method_14_code 0 = .ok (.aload_n 0, 1) := by decide +kernel
theorem d_A_isHopeful_1 : decode prog_2_method_14_code 1 = .ok (.getfield 31, 3) := by decide +kernel
theorem d_A_isHopeful_4 : decode prog_2_method_14_code 4 = .ok (.iload_n 1, 1) := by decide +kernel
theorem d_A_isHopeful_5 : decode prog_2_method_14_code 5 = .ok (.bipush 64, 2) := by decide +kernel
theorem d_A_isHopeful_7 : decode prog_2_method_14_code 7 = .ok (.idiv, 1) := by decide +kernel
theorem d_A_isHopeful_8 : decode prog_2_method_14_code 8 = .ok (.laload, 1) := by decide +kernel
theorem d_A_isHopeful_9 : decode prog_2_method_14_code 9 = .ok (.iload_n 1, 1) := by decide +kernel
theorem d_A_isHopeful_10 : decode prog_2_method_14_code 10 = .ok (.bipush 64, 2) := by decide +kernel
theorem d_A_isHopeful_12 : decode prog_2_method_14_code 12 = .ok (.irem, 1) := by decide +kernel
theorem d_A_isHopeful_13 : decode prog_2_method_14_code 13 = .ok (.lushr, 1) := by decide +kernel
theorem d_A_isHopeful_14 : decode prog_2_method_14_code 14 = .ok (.lconst 1, 1) := by decide +kernel
theorem d_A_isHopeful_15 : decode prog_2_method_14_code 15 = .ok (.land, 1) := by decide +kernel
theorem d_A_isHopeful_16 : decode prog_2_method_14_code 16 = .ok (.lconst 0, 1) := by decide +kernel
theorem d_A_isHopeful_17 : decode prog_2_method_14_code 17 = .ok (.lcmp, 1) := by decide +kernel
theorem d_A_isHopeful_18 : decode prog_2_method_14_code 18 = .ok (.ifCond .eq 7, 3) := by decide +kernel
theorem d_A_isHopeful_25 : decode prog_2_method_14_code 25 = .ok (.iconst 0, 1) := by decide +kernel
theorem d_A_isHopeful_26 : decode prog_2_method_14_code 26 = .ok (.ireturn, 1) := by decide +kernel
theorem d_A_isHopeful_21 : decode prog_2_method_14_code 21 = .ok (.iconst 1, 1) := by decide +kernel
theorem d_A_isHopeful_22 : decode prog_2_method_14_code 22 = .ok (.goto 4, 3) := by decide +kernel
theorem d_A_isWon_0 : decode prog_2_method_12_code 0 = .ok (.aload_n 0, 1) := by decide +kernel
theorem d_A_isWon_1 : decode prog_2_method_12_code 1 = .ok (.getfield 15, 3) := by decide +kernel
theorem d_A_isWon_4 : decode prog_2_method_12_code 4 = .ok (.iload_n 1, 1) := by decide +kernel
theorem d_A_isWon_5 : decode prog_2_method_12_code 5 = .ok (.laload, 1) := by decide +kernel
theorem d_A_isWon_6 : decode prog_2_method_12_code 6 = .ok (.invokestatic 146, 3) := by decide +kernel
theorem d_A_isWon_9 : decode prog_2_method_12_code 9 = .ok (.istore_n 3, 1) := by decide +kernel
theorem d_A_isWon_10 : decode prog_2_method_12_code 10 = .ok (.aload_n 2, 1) := by decide +kernel
theorem d_A_isWon_11 : decode prog_2_method_12_code 11 = .ok (.iload_n 3, 1) := by decide +kernel
theorem d_A_isWon_12 : decode prog_2_method_12_code 12 = .ok (.invokevirtual 149, 3) := by decide +kernel
theorem d_A_isWon_15 : decode prog_2_method_12_code 15 = .ok (.ifCond .eq 16, 3) := by decide +kernel
theorem d_A_isWon_31 : decode prog_2_method_12_code 31 = .ok (.iconst 0, 1) := by decide +kernel
theorem d_A_isWon_32 : decode prog_2_method_12_code 32 = .ok (.ireturn, 1) := by decide +kernel
theorem d_A_isWon_18 : decode prog_2_method_12_code 18 = .ok (.aload_n 2, 1) := by decide +kernel
theorem d_A_isWon_19 : decode prog_2_method_12_code 19 = .ok (.getfield 152, 3) := by decide +kernel
theorem d_A_isWon_22 : decode prog_2_method_12_code 22 = .ok (.iload_n 3, 1) := by decide +kernel
theorem d_A_isWon_23 : decode prog_2_method_12_code 23 = .ok (.baload, 1) := by decide +kernel
theorem d_A_isWon_24 : decode prog_2_method_12_code 24 = .ok (.ifCond .eq 7, 3) := by decide +kernel
theorem d_A_isWon_27 : decode prog_2_method_12_code 27 = .ok (.iconst 1, 1) := by decide +kernel
theorem d_A_isWon_28 : decode prog_2_method_12_code 28 = .ok (.goto 4, 3) := by decide +kernel
theorem d_A_leadsToHope_0 : decode prog_2_method_13_code 0 = .ok (.iconst 0, 1) := by decide +kernel
theorem d_A_leadsToHope_1 : decode prog_2_method_13_code 1 = .ok (.istore_n 2, 1) := by decide +kernel
theorem d_A_leadsToHope_2 : decode prog_2_method_13_code 2 = .ok (.iload_n 2, 1) := by decide +kernel
theorem d_A_leadsToHope_3 : decode prog_2_method_13_code 3 = .ok (.iconst 3, 1) := by decide +kernel
theorem d_A_leadsToHope_4 : decode prog_2_method_13_code 4 = .ok (.if_icmp .ge 33, 3) := by decide +kernel
theorem d_A_leadsToHope_37 : decode prog_2_method_13_code 37 = .ok (.iconst 0, 1) := by decide +kernel
theorem d_A_leadsToHope_38 : decode prog_2_method_13_code 38 = .ok (.ireturn, 1) := by decide +kernel
theorem d_A_leadsToHope_7 : decode prog_2_method_13_code 7 = .ok (.aload_n 0, 1) := by decide +kernel
theorem d_A_leadsToHope_8 : decode prog_2_method_13_code 8 = .ok (.getfield 28, 3) := by decide +kernel
theorem d_A_leadsToHope_11 : decode prog_2_method_13_code 11 = .ok (.iload_n 1, 1) := by decide +kernel
theorem d_A_leadsToHope_12 : decode prog_2_method_13_code 12 = .ok (.iconst 3, 1) := by decide +kernel
theorem d_A_leadsToHope_13 : decode prog_2_method_13_code 13 = .ok (.imul, 1) := by decide +kernel
theorem d_A_leadsToHope_14 : decode prog_2_method_13_code 14 = .ok (.iload_n 2, 1) := by decide +kernel
theorem d_A_leadsToHope_15 : decode prog_2_method_13_code 15 = .ok (.iadd, 1) := by decide +kernel
theorem d_A_leadsToHope_16 : decode prog_2_method_13_code 16 = .ok (.laload, 1) := by decide +kernel
theorem d_A_leadsToHope_17 : decode prog_2_method_13_code 17 = .ok (.aload_n 0, 1) := by decide +kernel
theorem d_A_leadsToHope_18 : decode prog_2_method_13_code 18 = .ok (.getfield 31, 3) := by decide +kernel
theorem d_A_leadsToHope_21 : decode prog_2_method_13_code 21 = .ok (.iload_n 2, 1) := by decide +kernel
theorem d_A_leadsToHope_22 : decode prog_2_method_13_code 22 = .ok (.laload, 1) := by decide +kernel
theorem d_A_leadsToHope_23 : decode prog_2_method_13_code 23 = .ok (.land, 1) := by decide +kernel
theorem d_A_leadsToHope_24 : decode prog_2_method_13_code 24 = .ok (.lconst 0, 1) := by decide +kernel
theorem d_A_leadsToHope_25 : decode prog_2_method_13_code 25 = .ok (.lcmp, 1) := by decide +kernel
end
section
theorem d_A_leadsToHope_26 : decode prog_2_method_13_code 26 = .ok (.ifCond .eq 5, 3) := by decide +kernel
theorem d_A_leadsToHope_31 : decode prog_2_method_13_code 31 = .ok (.iinc 2 1, 3) := by decide +kernel
theorem d_A_leadsToHope_34 : decode prog_2_method_13_code 34 = .ok (.goto (-32), 3) := by decide +kernel
theorem d_A_leadsToHope_29 : decode prog_2_method_13_code 29 = .ok (.iconst 1, 1) := by decide +kernel
theorem d_A_leadsToHope_30 : decode prog_2_method_13_code 30 = .ok (.ireturn, 1) := by decide +kernel
theorem d_A_findHope_0 : decode prog_2_method_11_code 0 = .ok (.aload_n 0, 1) := by decide +kernel
theorem d_A_findHope_1 : decode prog_2_method_11_code 1 = .ok (.getfield 31, 3) := by decide +kernel
theorem d_A_findHope_4 : decode prog_2_method_11_code 4 = .ok (.lconst 0, 1) := by decide +kernel
theorem d_A_findHope_5 : decode prog_2_method_11_code 5 = .ok (.invokestatic 132, 3) := by decide +kernel
theorem d_A_findHope_8 : decode prog_2_method_11_code 8 = .ok (.iconst 1, 1) := by decide +kernel
theorem d_A_findHope_9 : decode prog_2_method_11_code 9 = .ok (.istore_n 2, 1) := by decide +kernel
theorem d_A_findHope_10 : decode prog_2_method_11_code 10 = .ok (.iconst 0, 1) := by decide +kernel
theorem d_A_findHope_11 : decode prog_2_method_11_code 11 = .ok (.istore_n 3, 1) := by decide +kernel
theorem d_A_findHope_12 : decode prog_2_method_11_code 12 = .ok (.iload_n 3, 1) := by decide +kernel
theorem d_A_findHope_13 : decode prog_2_method_11_code 13 = .ok (.sipush 160, 3) := by decide +kernel
theorem d_A_findHope_16 : decode prog_2_method_11_code 16 = .ok (.if_icmp .gt 74, 3) := by decide +kernel
theorem d_A_findHope_90 : decode prog_2_method_11_code 90 = .ok (.return_, 1) := by decide +kernel
theorem d_A_findHope_19 : decode prog_2_method_11_code 19 = .ok (.iload_n 2, 1) := by decide +kernel
theorem d_A_findHope_20 : decode prog_2_method_11_code 20 = .ok (.ifCond .eq 70, 3) := by decide +kernel
theorem d_A_findHope_23 : decode prog_2_method_11_code 23 = .ok (.iconst 0, 1) := by decide +kernel
theorem d_A_findHope_24 : decode prog_2_method_11_code 24 = .ok (.istore_n 2, 1) := by decide +kernel
theorem d_A_findHope_25 : decode prog_2_method_11_code 25 = .ok (.aload_n 0, 1) := by decide +kernel
theorem d_A_findHope_26 : decode prog_2_method_11_code 26 = .ok (.getfield 34, 3) := by decide +kernel
theorem d_A_findHope_29 : decode prog_2_method_11_code 29 = .ok (.iconst 1, 1) := by decide +kernel
theorem d_A_findHope_30 : decode prog_2_method_11_code 30 = .ok (.isub, 1) := by decide +kernel
theorem d_A_findHope_31 : decode prog_2_method_11_code 31 = .ok (.istore 4, 2) := by decide +kernel
theorem d_A_findHope_33 : decode prog_2_method_11_code 33 = .ok (.iload 4, 2) := by decide +kernel
theorem d_A_findHope_35 : decode prog_2_method_11_code 35 = .ok (.ifCond .lt 49, 3) := by decide +kernel
theorem d_A_findHope_84 : decode prog_2_method_11_code 84 = .ok (.iinc 3 1, 3) := by decide +kernel
theorem d_A_findHope_87 : decode prog_2_method_11_code 87 = .ok (.goto (-75), 3) := by decide +kernel
theorem d_A_findHope_38 : decode prog_2_method_11_code 38 = .ok (.aload_n 0, 1) := by decide +kernel
theorem d_A_findHope_39 : decode prog_2_method_11_code 39 = .ok (.iload 4, 2) := by decide +kernel
theorem d_A_findHope_41 : decode prog_2_method_11_code 41 = .ok (.invokevirtual 135, 3) := by decide +kernel
theorem d_A_findHope_44 : decode prog_2_method_11_code 44 = .ok (.ifCond .ne 34, 3) := by decide +kernel
theorem d_A_findHope_78 : decode prog_2_method_11_code 78 = .ok (.iinc 4 (-1), 3) := by decide +kernel
theorem d_A_findHope_81 : decode prog_2_method_11_code 81 = .ok (.goto (-48), 3) := by decide +kernel
theorem d_A_findHope_47 : decode prog_2_method_11_code 47 = .ok (.aload_n 0, 1) := by decide +kernel
theorem d_A_findHope_48 : decode prog_2_method_11_code 48 = .ok (.iload 4, 2) := by decide +kernel
theorem d_A_findHope_50 : decode prog_2_method_11_code 50 = .ok (.aload_n 1, 1) := by decide +kernel
theorem d_A_findHope_51 : decode prog_2_method_11_code 51 = .ok (.invokevirtual 139, 3) := by decide +kernel
theorem d_A_findHope_54 : decode prog_2_method_11_code 54 = .ok (.ifCond .ne 12, 3) := by decide +kernel
theorem d_A_findHope_57 : decode prog_2_method_11_code 57 = .ok (.aload_n 0, 1) := by decide +kernel
theorem d_A_findHope_58 : decode prog_2_method_11_code 58 = .ok (.iload 4, 2) := by decide +kernel
theorem d_A_findHope_60 : decode prog_2_method_11_code 60 = .ok (.invokevirtual 143, 3) := by decide +kernel
theorem d_A_findHope_63 : decode prog_2_method_11_code 63 = .ok (.ifCond .eq 15, 3) := by decide +kernel
theorem d_A_findHope_66 : decode prog_2_method_11_code 66 = .ok (.aload_n 0, 1) := by decide +kernel
theorem d_A_findHope_67 : decode prog_2_method_11_code 67 = .ok (.getfield 31, 3) := by decide +kernel
theorem d_A_findHope_70 : decode prog_2_method_11_code 70 = .ok (.iconst 0, 1) := by decide +kernel
theorem d_A_findHope_71 : decode prog_2_method_11_code 71 = .ok (.iload 4, 2) := by decide +kernel
theorem d_A_findHope_73 : decode prog_2_method_11_code 73 = .ok (.invokestatic 126, 3) := by decide +kernel
theorem d_A_findHope_76 : decode prog_2_method_11_code 76 = .ok (.iconst 1, 1) := by decide +kernel
theorem d_A_findHope_77 : decode prog_2_method_11_code 77 = .ok (.istore_n 2, 1) := by decide +kernel
theorem d_A_goThroughNext_0 : decode prog_2_method_7_code 0 = .ok (.aload_n 0, 1) := by decide +kernel
theorem d_A_goThroughNext_1 : decode prog_2_method_7_code 1 = .ok (.invokevirtual 85, 3) := by decide +kernel
theorem d_A_goThroughNext_4 : decode prog_2_method_7_code 4 = .ok (.ifCond .ne 4, 3) := by decide +kernel
theorem d_A_goThroughNext_8 : decode prog_2_method_7_code 8 = .ok (.aload_n 0, 1) := by decide +kernel
theorem d_A_goThroughNext_9 : decode prog_2_method_7_code 9 = .ok (.getfield 15, 3) := by decide +kernel
theorem d_A_goThroughNext_12 : decode prog_2_method_7_code 12 = .ok (.aload_n 0, 1) := by decide +kernel
theorem d_A_goThroughNext_13 : decode prog_2_method_7_code 13 = .ok (.getfield 38, 3) := by decide +kernel
theorem d_A_goThroughNext_16 : decode prog_2_method_7_code 16 = .ok (.laload, 1) := by decide +kernel
theorem d_A_goThroughNext_17 : decode prog_2_method_7_code 17 = .ok (.lstore_n 2, 1) := by decide +kernel
theorem d_A_goThroughNext_18 : decode prog_2_method_7_code 18 = .ok (.lload_n 2, 1) := by decide +kernel
theorem d_A_goThroughNext_19 : decode prog_2_method_7_code 19 = .ok (.invokestatic 89, 3) := by decide +kernel
theorem d_A_goThroughNext_22 : decode prog_2_method_7_code 22 = .ok (.ifCond .eq 7, 3) := by decide +kernel
theorem d_A_goThroughNext_29 : decode prog_2_method_7_code 29 = .ok (.aload_n 0, 1) := by decide +kernel
theorem d_A_goThroughNext_30 : decode prog_2_method_7_code 30 = .ok (.getfield 72, 3) := by decide +kernel
theorem d_A_goThroughNext_25 : decode prog_2_method_7_code 25 = .ok (.iconst 0, 1) := by decide +kernel
theorem d_A_goThroughNext_26 : decode prog_2_method_7_code 26 = .ok (.goto 7, 3) := by decide +kernel
theorem d_A_goThroughNext_7 : decode prog_2_method_7_code 7 = .ok (.return_, 1) := by decide +kernel
theorem d_A_goThroughNext_33 : decode prog_2_method_7_code 33 = .ok (.istore 4, 2) := by decide +kernel
theorem d_A_goThroughNext_35 : decode prog_2_method_7_code 35 = .ok (.iconst 0, 1) := by decide +kernel
theorem d_A_goThroughNext_36 : decode prog_2_method_7_code 36 = .ok (.istore 5, 2) := by decide +kernel
theorem d_A_goThroughNext_38 : decode prog_2_method_7_code 38 = .ok (.iload 5, 2) := by decide +kernel
theorem d_A_goThroughNext_40 : decode prog_2_method_7_code 40 = .ok (.iload 4, 2) := by decide +kernel
theorem d_A_goThroughNext_42 : decode prog_2_method_7_code 42 = .ok (.if_icmp .ge 68, 3) := by decide +kernel
theorem d_A_goThroughNext_45 : decode prog_2_method_7_code 45 = .ok (.aload_n 0, 1) := by decide +kernel
theorem d_A_goThroughNext_46 : decode prog_2_method_7_code 46 = .ok (.getfield 41, 3) := by decide +kernel
theorem d_A_goThroughNext_49 : decode prog_2_method_7_code 49 = .ok (.ifCond .ne 61, 3) := by decide +kernel
theorem d_A_goThroughNext_52 : decode prog_2_method_7_code 52 = .ok (.aload_n 0, 1) := by decide +kernel
theorem d_A_goThroughNext_53 : decode prog_2_method_7_code 53 = .ok (.getfield 11, 3) := by decide +kernel
theorem d_A_goThroughNext_56 : decode prog_2_method_7_code 56 = .ok (.iload 5, 2) := by decide +kernel
theorem d_A_goThroughNext_58 : decode prog_2_method_7_code 58 = .ok (.iaload, 1) := by decide +kernel
theorem d_A_goThroughNext_59 : decode prog_2_method_7_code 59 = .ok (.istore 6, 2) := by decide +kernel
theorem d_A_goThroughNext_61 : decode prog_2_method_7_code 61 = .ok (.aload_n 1, 1) := by decide +kernel
theorem d_A_goThroughNext_62 : decode prog_2_method_7_code 62 = .ok (.lload_n 2, 1) := by decide +kernel
theorem d_A_goThroughNext_63 : decode prog_2_method_7_code 63 = .ok (.iload 6, 2) := by decide +kernel
theorem d_A_goThroughNext_65 : decode prog_2_method_7_code 65 = .ok (.invokestatic 95, 3) := by decide +kernel
theorem d_A_goThroughNext_68 : decode prog_2_method_7_code 68 = .ok (.iload 6, 2) := by decide +kernel
theorem d_A_goThroughNext_70 : decode prog_2_method_7_code 70 = .ok (.invokestatic 99, 3) := by decide +kernel
theorem d_A_goThroughNext_73 : decode prog_2_method_7_code 73 = .ok (.iload 6, 2) := by decide +kernel
theorem d_A_goThroughNext_75 : decode prog_2_method_7_code 75 = .ok (.invokestatic 102, 3) := by decide +kernel
theorem d_A_goThroughNext_78 : decode prog_2_method_7_code 78 = .ok (.invokevirtual 105, 3) := by decide +kernel
theorem d_A_goThroughNext_81 : decode prog_2_method_7_code 81 = .ok (.lstore 7, 2) := by decide +kernel
theorem d_A_goThroughNext_83 : decode prog_2_method_7_code 83 = .ok (.aload_n 0, 1) := by decide +kernel
theorem d_A_goThroughNext_84 : decode prog_2_method_7_code 84 = .ok (.dup, 1) := by decide +kernel
theorem d_A_goThroughNext_85 : decode prog_2_method_7_code 85 = .ok (.getfield 45, 3) := by decide +kernel
theorem d_A_goThroughNext_88 : decode prog_2_method_7_code 88 = .ok (.aload_n 1, 1) := by decide +kernel
theorem d_A_goThroughNext_89 : decode prog_2_method_7_code 89 = .ok (.getfield 111, 3) := by decide +kernel
theorem d_A_goThroughNext_92 : decode prog_2_method_7_code 92 = .ok (.ior, 1) := by decide +kernel
theorem d_A_goThroughNext_93 : decode prog_2_method_7_code 93 = .ok (.putfield 45, 3) := by decide +kernel
theorem d_A_goThroughNext_96 : decode prog_2_method_7_code 96 = .ok (.aload_n 0, 1) := by decide +kernel
theorem d_A_goThroughNext_97 : decode prog_2_method_7_code 97 = .ok (.lload 7, 2) := by decide +kernel
theorem d_A_goThroughNext_99 : decode prog_2_method_7_code 99 = .ok (.iload 6, 2) := by decide +kernel
theorem d_A_goThroughNext_101 : decode prog_2_method_7_code 101 = .ok (.invokevirtual 112, 3) := by decide +kernel
theorem d_A_goThroughNext_104 : decode prog_2_method_7_code 104 = .ok (.iinc 5 1, 3) := by decide +kernel
theorem d_A_goThroughNext_107 : decode prog_2_method_7_code 107 = .ok (.goto (-69), 3) := by decide +kernel
theorem d_A_goThroughNext_110 : decode prog_2_method_7_code 110 = .ok (.aload_n 0, 1) := by decide +kernel
theorem d_A_goThroughNext_111 : decode prog_2_method_7_code 111 = .ok (.getfield 41, 3) := by decide +kernel
theorem d_A_goThroughNext_114 : decode prog_2_method_7_code 114 = .ok (.ifCond .ne 13, 3) := by decide +kernel
theorem d_A_goThroughNext_127 : decode prog_2_method_7_code 127 = .ok (.aload_n 0, 1) := by decide +kernel
theorem d_A_goThroughNext_128 : decode prog_2_method_7_code 128 = .ok (.invokevirtual 116, 3) := by decide +kernel
theorem d_A_goThroughNext_131 : decode prog_2_method_7_code 131 = .ok (.ifCond .eq 11, 3) := by decide +kernel
theorem d_A_goThroughNext_142 : decode prog_2_method_7_code 142 = .ok (.return_, 1) := by decide +kernel
theorem d_A_goThroughNext_134 : decode prog_2_method_7_code 134 = .ok (.aload_n 0, 1) := by decide +kernel
theorem d_A_goThroughNext_135 : decode prog_2_method_7_code 135 = .ok (.aload_n 1, 1) := by decide +kernel
theorem d_A_goThroughNext_136 : decode prog_2_method_7_code 136 = .ok (.getfield 119, 3) := by decide +kernel
theorem d_A_goThroughNext_139 : decode prog_2_method_7_code 139 = .ok (.invokevirtual 123, 3) := by decide +kernel
theorem d_A_goThroughNext_117 : decode prog_2_method_7_code 117 = .ok (.aload_n 0, 1) := by decide +kernel
theorem d_A_goThroughNext_118 : decode prog_2_method_7_code 118 = .ok (.dup, 1) := by decide +kernel
theorem d_A_goThroughNext_119 : decode prog_2_method_7_code 119 = .ok (.getfield 38, 3) := by decide +kernel
theorem d_A_goThroughNext_122 : decode prog_2_method_7_code 122 = .ok (.iconst 1, 1) := by decide +kernel
theorem d_A_goThroughNext_123 : decode prog_2_method_7_code 123 = .ok (.iadd, 1) := by decide +kernel
theorem d_A_goThroughNext_124 : decode prog_2_method_7_code 124 = .ok (.putfield 38, 3) := by decide +kernel
theorem d_A_isHopeless_0 : decode prog_2_method_16_code 0 = .ok (.aload_n 0, 1) := by decide +kernel
theorem d_A_isHopeless_1 : decode prog_2_method_16_code 1 = .ok (.getfield 25, 3) := by decide +kernel
theorem d_A_isHopeless_4 : decode prog_2_method_16_code 4 = .ok (.aload_n 0, 1) := by decide +kernel
theorem d_A_isHopeless_5 : decode prog_2_method_16_code 5 = .ok (.lload_n 1, 1) := by decide +kernel
theorem d_A_isHopeless_6 : decode prog_2_method_16_code 6 = .ok (.invokevirtual 64, 3) := by decide +kernel
theorem d_A_isHopeless_9 : decode prog_2_method_16_code 9 = .ok (.iaload, 1) := by decide +kernel
theorem d_A_isHopeless_10 : decode prog_2_method_16_code 10 = .ok (.iconst 1, 1) := by decide +kernel
theorem d_A_isHopeless_11 : decode prog_2_method_16_code 11 = .ok (.isub, 1) := by decide +kernel
theorem d_A_isHopeless_12 : decode prog_2_method_16_code 12 = .ok (.istore_n 3, 1) := by decide +kernel
theorem d_A_isHopeless_13 : decode prog_2_method_16_code 13 = .ok (.iload_n 3, 1) := by decide +kernel
theorem d_A_isHopeless_14 : decode prog_2_method_16_code 14 = .ok (.iconst (-1), 1) := by decide +kernel
theorem d_A_isHopeless_15 : decode prog_2_method_16_code 15 = .ok (.if_icmp .eq 11, 3) := by decide +kernel
theorem d_A_isHopeless_26 : decode prog_2_method_16_code 26 = .ok (.iconst 1, 1) := by decide +kernel
theorem d_A_isHopeless_27 : decode prog_2_method_16_code 27 = .ok (.goto 4, 3) := by decide +kernel
theorem d_A_isHopeless_31 : decode prog_2_method_16_code 31 = .ok (.ireturn, 1) := by decide +kernel
theorem d_A_isHopeless_18 : decode prog_2_method_16_code 18 = .ok (.aload_n 0, 1) := by decide +kernel
theorem d_A_isHopeless_19 : decode prog_2_method_16_code 19 = .ok (.iload_n 3, 1) := by decide +kernel
theorem d_A_isHopeless_20 : decode prog_2_method_16_code 20 = .ok (.invokevirtual 135, 3) := by decide +kernel
theorem d_A_isHopeless_23 : decode prog_2_method_16_code 23 = .ok (.ifCond .ne 7, 3) := by decide +kernel
theorem d_A_isHopeless_30 : decode prog_2_method_16_code 30 = .ok (.iconst 0, 1) := by decide +kernel
theorem d_A_leadsOnlyToItself_0 : decode prog_2_method_18_code 0 = .ok (.iconst 0, 1) := by decide +kernel
theorem d_A_leadsOnlyToItself_1 : decode prog_2_method_18_code 1 = .ok (.istore_n 2, 1) := by decide +kernel
theorem d_A_leadsOnlyToItself_2 : decode prog_2_method_18_code 2 = .ok (.iload_n 2, 1) := by decide +kernel
theorem d_A_leadsOnlyToItself_3 : decode prog_2_method_18_code 3 = .ok (.iconst 3, 1) := by decide +kernel
theorem d_A_leadsOnlyToItself_4 : decode prog_2_method_18_code 4 = .ok (.if_icmp .ge 45, 3) := by decide +kernel
theorem d_A_leadsOnlyToItself_49 : decode prog_2_method_18_code 49 = .ok (.iconst 1, 1) := by decide +kernel
theorem d_A_leadsOnlyToItself_50 : decode prog_2_method_18_code 50 = .ok (.ireturn, 1) := by decide +kernel
theorem d_A_leadsOnlyToItself_7 : decode prog_2_method_18_code 7 = .ok (.iload_n 2, 1) := by decide +kernel
theorem d_A_leadsOnlyToItself_8 : decode prog_2_method_18_code 8 = .ok (.iload_n 1, 1) := by decide +kernel
theorem d_A_leadsOnlyToItself_9 : decode prog_2_method_18_code 9 = .ok (.bipush 64, 2) := by decide +kernel
theorem d_A_leadsOnlyToItself_11 : decode prog_2_method_18_code 11 = .ok (.idiv, 1) := by decide +kernel
theorem d_A_leadsOnlyToItself_12 : decode prog_2_method_18_code 12 = .ok (.if_icmp .ne 12, 3) := by decide +kernel
theorem d_A_leadsOnlyToItself_24 : decode prog_2_method_18_code 24 = .ok (.lconst 0, 1) := by decide +kernel
theorem d_A_leadsOnlyToItself_15 : decode prog_2_method_18_code 15 = .ok (.lconst 1, 1) := by decide +kernel
theorem d_A_leadsOnlyToItself_16 : decode prog_2_method_18_code 16 = .ok (.iload_n 1, 1) := by decide +kernel
theorem d_A_leadsOnlyToItself_17 : decode prog_2_method_18_code 17 = .ok (.bipush 64, 2) := by decide +kernel
theorem d_A_leadsOnlyToItself_19 : decode prog_2_method_18_code 19 = .ok (.irem, 1) := by decide +kernel
theorem d_A_leadsOnlyToItself_20 : decode prog_2_method_18_code 20 = .ok (.lshl, 1) := by decide +kernel
theorem d_A_leadsOnlyToItself_21 : decode prog_2_method_18_code 21 = .ok (.goto 4, 3) := by decide +kernel
theorem d_A_leadsOnlyToItself_25 : decode prog_2_method_18_code 25 = .ok (.lstore_n 3, 1) := by decide +kernel
theorem d_A_leadsOnlyToItself_26 : decode prog_2_method_18_code 26 = .ok (.aload_n 0, 1) := by decide +kernel
theorem d_A_leadsOnlyToItself_27 : decode prog_2_method_18_code 27 = .ok (.getfield 28, 3) := by decide +kernel
theorem d_A_leadsOnlyToItself_30 : decode prog_2_method_18_code 30 = .ok (.iload_n 1, 1) := by decide +kernel
theorem d_A_leadsOnlyToItself_31 : decode prog_2_method_18_code 31 = .ok (.iconst 3, 1) := by decide +kernel
theorem d_A_leadsOnlyToItself_32 : decode prog_2_method_18_code 32 = .ok (.imul, 1) := by decide +kernel
theorem d_A_leadsOnlyToItself_33 : decode prog_2_method_18_code 33 = .ok (.iload_n 2, 1) := by decide +kernel
theorem d_A_leadsOnlyToItself_34 : decode prog_2_method_18_code 34 = .ok (.iadd, 1) := by decide +kernel
theorem d_A_leadsOnlyToItself_35 : decode prog_2_method_18_code 35 = .ok (.laload, 1) := by decide +kernel
theorem d_A_leadsOnlyToItself_36 : decode prog_2_method_18_code 36 = .ok (.lload_n 3, 1) := by decide +kernel
theorem d_A_leadsOnlyToItself_37 : decode prog_2_method_18_code 37 = .ok (.lcmp, 1) := by decide +kernel
theorem d_A_leadsOnlyToItself_38 : decode prog_2_method_18_code 38 = .ok (.ifCond .eq 5, 3) := by decide +kernel
theorem d_A_leadsOnlyToItself_43 : decode prog_2_method_18_code 43 = .ok (.iinc 2 1, 3) := by decide +kernel
theorem d_A_leadsOnlyToItself_46 : decode prog_2_method_18_code 46 = .ok (.goto (-44), 3) := by decide +kernel
theorem d_A_leadsOnlyToItself_41 : decode prog_2_method_18_code 41 = .ok (.iconst 0, 1) := by decide +kernel
theorem d_A_leadsOnlyToItself_42 : decode prog_2_method_18_code 42 = .ok (.ireturn, 1) := by decide +kernel
theorem d_A_countStuck_0 : decode prog_2_method_17_code 0 = .ok (.iconst 0, 1) := by decide +kernel
theorem d_A_countStuck_1 : decode prog_2_method_17_code 1 = .ok (.istore_n 1, 1) := by decide +kernel
theorem d_A_countStuck_2 : decode prog_2_method_17_code 2 = .ok (.iconst 0, 1) := by decide +kernel
theorem d_A_countStuck_3 : decode prog_2_method_17_code 3 = .ok (.istore_n 2, 1) := by decide +kernel
theorem d_A_countStuck_4 : decode prog_2_method_17_code 4 = .ok (.iload_n 2, 1) := by decide +kernel
theorem d_A_countStuck_5 : decode prog_2_method_17_code 5 = .ok (.aload_n 0, 1) := by decide +kernel
theorem d_A_countStuck_6 : decode prog_2_method_17_code 6 = .ok (.getfield 34, 3) := by decide +kernel
theorem d_A_countStuck_9 : decode prog_2_method_17_code 9 = .ok (.if_icmp .ge 32, 3) := by decide +kernel
theorem d_A_countStuck_41 : decode prog_2_method_17_code 41 = .ok (.iload_n 1, 1) := by decide +kernel
theorem d_A_countStuck_42 : decode prog_2_method_17_code 42 = .ok (.ireturn, 1) := by decide +kernel
theorem d_A_countStuck_12 : decode prog_2_method_17_code 12 = .ok (.aload_n 0, 1) := by decide +kernel
theorem d_A_countStuck_13 : decode prog_2_method_17_code 13 = .ok (.getfield 15, 3) := by decide +kernel
theorem d_A_countStuck_16 : decode prog_2_method_17_code 16 = .ok (.iload_n 2, 1) := by decide +kernel
theorem d_A_countStuck_17 : decode prog_2_method_17_code 17 = .ok (.laload, 1) := by decide +kernel
theorem d_A_countStuck_18 : decode prog_2_method_17_code 18 = .ok (.invokestatic 89, 3) := by decide +kernel
theorem d_A_countStuck_21 : decode prog_2_method_17_code 21 = .ok (.ifCond .ne 14, 3) := by decide +kernel
theorem d_A_countStuck_35 : decode prog_2_method_17_code 35 = .ok (.iinc 2 1, 3) := by decide +kernel
theorem d_A_countStuck_38 : decode prog_2_method_17_code 38 = .ok (.goto (-34), 3) := by decide +kernel
theorem d_A_countStuck_24 : decode prog_2_method_17_code 24 = .ok (.aload_n 0, 1) := by decide +kernel
theorem d_A_countStuck_25 : decode prog_2_method_17_code 25 = .ok (.iload_n 2, 1) := by decide +kernel
theorem d_A_countStuck_26 : decode prog_2_method_17_code 26 = .ok (.invokevirtual 156, 3) := by decide +kernel
theorem d_A_countStuck_29 : decode prog_2_method_17_code 29 = .ok (.ifCond .eq 6, 3) := by decide +kernel
theorem d_A_countStuck_32 : decode prog_2_method_17_code 32 = .ok (.iinc 1 1, 3) := by decide +kernel
theorem d_A_idleRule_0 : decode prog_2_method_19_code 0 = .ok (.iconst 0, 1) := by decide +kernel
theorem d_A_idleRule_1 : decode prog_2_method_19_code 1 = .ok (.istore_n 3, 1) := by decide +kernel
theorem d_A_idleRule_2 : decode prog_2_method_19_code 2 = .ok (.iconst 0, 1) := by decide +kernel
theorem d_A_idleRule_3 : decode prog_2_method_19_code 3 = .ok (.istore 4, 2) := by decide +kernel
theorem d_A_idleRule_5 : decode prog_2_method_19_code 5 = .ok (.iload 4, 2) := by decide +kernel
theorem d_A_idleRule_7 : decode prog_2_method_19_code 7 = .ok (.iload_n 2, 1) := by decide +kernel
theorem d_A_idleRule_8 : decode prog_2_method_19_code 8 = .ok (.if_icmp .ge 32, 3) := by decide +kernel
theorem d_A_idleRule_40 : decode prog_2_method_19_code 40 = .ok (.iconst (-1), 1) := by decide +kernel
theorem d_A_idleRule_41 : decode prog_2_method_19_code 41 = .ok (.ireturn, 1) := by decide +kernel
theorem d_A_idleRule_11 : decode prog_2_method_19_code 11 = .ok (.aload_n 0, 1) := by decide +kernel
theorem d_A_idleRule_12 : decode prog_2_method_19_code 12 = .ok (.getfield 45, 3) := by decide +kernel
theorem d_A_idleRule_15 : decode prog_2_method_19_code 15 = .ok (.iload 4, 2) := by decide +kernel
theorem d_A_idleRule_17 : decode prog_2_method_19_code 17 = .ok (.ishr, 1) := by decide +kernel
theorem d_A_idleRule_18 : decode prog_2_method_19_code 18 = .ok (.iconst 1, 1) := by decide +kernel
theorem d_A_idleRule_19 : decode prog_2_method_19_code 19 = .ok (.iand, 1) := by decide +kernel
theorem d_A_idleRule_20 : decode prog_2_method_19_code 20 = .ok (.ifCond .ne 14, 3) := by decide +kernel
theorem d_A_idleRule_34 : decode prog_2_method_19_code 34 = .ok (.iinc 4 1, 3) := by decide +kernel
theorem d_A_idleRule_37 : decode prog_2_method_19_code 37 = .ok (.goto (-32), 3) := by decide +kernel
theorem d_A_idleRule_23 : decode prog_2_method_19_code 23 = .ok (.iload_n 3, 1) := by decide +kernel
theorem d_A_idleRule_24 : decode prog_2_method_19_code 24 = .ok (.iload_n 1, 1) := by decide +kernel
theorem d_A_idleRule_25 : decode prog_2_method_19_code 25 = .ok (.if_icmp .ne 6, 3) := by decide +kernel
theorem d_A_idleRule_31 : decode prog_2_method_19_code 31 = .ok (.iinc 3 1, 3) := by decide +kernel
theorem d_A_idleRule_28 : decode prog_2_method_19_code 28 = .ok (.iload 4, 2) := by decide +kernel
theorem d_A_idleRule_30 : decode prog_2_method_19_code 30 = .ok (.ireturn, 1) := by decide +kernel
theorem d_A_firstOverWith_0 : decode prog_2_method_20_code 0 = .ok (.iconst 0, 1) := by decide +kernel
theorem d_A_firstOverWith_1 : decode prog_2_method_20_code 1 = .ok (.istore_n 2, 1) := by decide +kernel
theorem d_A_firstOverWith_2 : decode prog_2_method_20_code 2 = .ok (.iload_n 2, 1) := by decide +kernel
theorem d_A_firstOverWith_3 : decode prog_2_method_20_code 3 = .ok (.aload_n 0, 1) := by decide +kernel
theorem d_A_firstOverWith_4 : decode prog_2_method_20_code 4 = .ok (.getfield 34, 3) := by decide +kernel
theorem d_A_firstOverWith_7 : decode prog_2_method_20_code 7 = .ok (.if_icmp .ge 24, 3) := by decide +kernel
theorem d_A_firstOverWith_31 : decode prog_2_method_20_code 31 = .ok (.iconst (-1), 1) := by decide +kernel
theorem d_A_firstOverWith_32 : decode prog_2_method_20_code 32 = .ok (.ireturn, 1) := by decide +kernel
theorem d_A_firstOverWith_10 : decode prog_2_method_20_code 10 = .ok (.aload_n 0, 1) := by decide +kernel
theorem d_A_firstOverWith_11 : decode prog_2_method_20_code 11 = .ok (.getfield 15, 3) := by decide +kernel
theorem d_A_firstOverWith_14 : decode prog_2_method_20_code 14 = .ok (.iload_n 2, 1) := by decide +kernel
theorem d_A_firstOverWith_15 : decode prog_2_method_20_code 15 = .ok (.laload, 1) := by decide +kernel
theorem d_A_firstOverWith_16 : decode prog_2_method_20_code 16 = .ok (.invokestatic 146, 3) := by decide +kernel
theorem d_A_firstOverWith_19 : decode prog_2_method_20_code 19 = .ok (.iload_n 1, 1) := by decide +kernel
theorem d_A_firstOverWith_20 : decode prog_2_method_20_code 20 = .ok (.if_icmp .ne 5, 3) := by decide +kernel
theorem d_A_firstOverWith_25 : decode prog_2_method_20_code 25 = .ok (.iinc 2 1, 3) := by decide +kernel
theorem d_A_firstOverWith_28 : decode prog_2_method_20_code 28 = .ok (.goto (-26), 3) := by decide +kernel
theorem d_A_firstOverWith_23 : decode prog_2_method_20_code 23 = .ok (.iload_n 2, 1) := by decide +kernel
theorem d_A_firstOverWith_24 : decode prog_2_method_20_code 24 = .ok (.ireturn, 1) := by decide +kernel
theorem d_A_depthOf_0 : decode prog_2_method_21_code 0 = .ok (.iconst 0, 1) := by decide +kernel
theorem d_A_depthOf_1 : decode prog_2_method_21_code 1 = .ok (.istore_n 2, 1) := by decide +kernel
theorem d_A_depthOf_2 : decode prog_2_method_21_code 2 = .ok (.iload_n 1, 1) := by decide +kernel
theorem d_A_depthOf_3 : decode prog_2_method_21_code 3 = .ok (.istore_n 3, 1) := by decide +kernel
theorem d_A_depthOf_4 : decode prog_2_method_21_code 4 = .ok (.iload_n 3, 1) := by decide +kernel
theorem d_A_depthOf_5 : decode prog_2_method_21_code 5 = .ok (.ifCond .le 23, 3) := by decide +kernel
theorem d_A_depthOf_28 : decode prog_2_method_21_code 28 = .ok (.iload_n 2, 1) := by decide +kernel
theorem d_A_depthOf_29 : decode prog_2_method_21_code 29 = .ok (.ireturn, 1) := by decide +kernel
theorem d_A_depthOf_8 : decode prog_2_method_21_code 8 = .ok (.iload_n 2, 1) := by decide +kernel
theorem d_A_depthOf_9 : decode prog_2_method_21_code 9 = .ok (.sipush 160, 3) := by decide +kernel
theorem d_A_depthOf_12 : decode prog_2_method_21_code 12 = .ok (.if_icmp .ge 16, 3) := by decide +kernel
theorem d_A_depthOf_15 : decode prog_2_method_21_code 15 = .ok (.iinc 2 1, 3) := by decide +kernel
theorem d_A_depthOf_18 : decode prog_2_method_21_code 18 = .ok (.aload_n 0, 1) := by decide +kernel
theorem d_A_depthOf_19 : decode prog_2_method_21_code 19 = .ok (.getfield 19, 3) := by decide +kernel
theorem d_A_depthOf_22 : decode prog_2_method_21_code 22 = .ok (.iload_n 3, 1) := by decide +kernel
theorem d_A_depthOf_23 : decode prog_2_method_21_code 23 = .ok (.iaload, 1) := by decide +kernel
theorem d_A_depthOf_24 : decode prog_2_method_21_code 24 = .ok (.istore_n 3, 1) := by decide +kernel
theorem d_A_depthOf_25 : decode prog_2_method_21_code 25 = .ok (.goto (-21), 3) := by decide +kernel
theorem d_A_codeOnWay_0 : decode prog_2_method_22_code 0 = .ok (.iload_n 1, 1) := by decide +kernel
theorem d_A_codeOnWay_1 : decode prog_2_method_22_code 1 = .ok (.istore_n 3, 1) := by decide +kernel
theorem d_A_codeOnWay_2 : decode prog_2_method_22_code 2 = .ok (.aload_n 0, 1) := by decide +kernel
theorem d_A_codeOnWay_3 : decode prog_2_method_22_code 3 = .ok (.iload_n 1, 1) := by decide +kernel
theorem d_A_codeOnWay_4 : decode prog_2_method_22_code 4 = .ok (.invokevirtual 159, 3) := by decide +kernel
theorem d_A_codeOnWay_7 : decode prog_2_method_22_code 7 = .ok (.iconst 1, 1) := by decide +kernel
theorem d_A_codeOnWay_8 : decode prog_2_method_22_code 8 = .ok (.isub, 1) := by decide +kernel
theorem d_A_codeOnWay_9 : decode prog_2_method_22_code 9 = .ok (.istore 4, 2) := by decide +kernel
theorem d_A_codeOnWay_11 : decode prog_2_method_22_code 11 = .ok (.iload 4, 2) := by decide +kernel
theorem d_A_codeOnWay_13 : decode prog_2_method_22_code 13 = .ok (.iload_n 2, 1) := by decide +kernel
theorem d_A_codeOnWay_14 : decode prog_2_method_22_code 14 = .ok (.if_icmp .le 16, 3) := by decide +kernel
theorem d_A_codeOnWay_30 : decode prog_2_method_22_code 30 = .ok (.aload_n 0, 1) := by decide +kernel
theorem d_A_codeOnWay_31 : decode prog_2_method_22_code 31 = .ok (.getfield 22, 3) := by decide +kernel
theorem d_A_codeOnWay_34 : decode prog_2_method_22_code 34 = .ok (.iload_n 3, 1) := by decide +kernel
theorem d_A_codeOnWay_35 : decode prog_2_method_22_code 35 = .ok (.iaload, 1) := by decide +kernel
theorem d_A_codeOnWay_36 : decode prog_2_method_22_code 36 = .ok (.ireturn, 1) := by decide +kernel
theorem d_A_codeOnWay_17 : decode prog_2_method_22_code 17 = .ok (.aload_n 0, 1) := by decide +kernel
theorem d_A_codeOnWay_18 : decode prog_2_method_22_code 18 = .ok (.getfield 19, 3) := by decide +kernel
theorem d_A_codeOnWay_21 : decode prog_2_method_22_code 21 = .ok (.iload_n 3, 1) := by decide +kernel
theorem d_A_codeOnWay_22 : decode prog_2_method_22_code 22 = .ok (.iaload, 1) := by decide +kernel
theorem d_A_codeOnWay_23 : decode prog_2_method_22_code 23 = .ok (.istore_n 3, 1) := by decide +kernel
theorem d_A_codeOnWay_24 : decode prog_2_method_22_code 24 = .ok (.iinc 4 (-1), 3) := by decide +kernel
theorem d_A_codeOnWay_27 : decode prog_2_method_22_code 27 = .ok (.goto (-16), 3) := by decide +kernel
theorem d_S_startPlay_0 : decode prog_1_method_24_code 0 = .ok (.aload_n 0, 1) := by decide +kernel
theorem d_S_startPlay_1 : decode prog_1_method_24_code 1 = .ok (.getfield 28, 3) := by decide +kernel
theorem d_S_startPlay_4 : decode prog_1_method_24_code 4 = .ok (.iconst 0, 1) := by decide +kernel
theorem d_S_startPlay_5 : decode prog_1_method_24_code 5 = .ok (.aload_n 0, 1) := by decide +kernel
theorem d_S_startPlay_6 : decode prog_1_method_24_code 6 = .ok (.getfield 20, 3) := by decide +kernel
theorem d_S_startPlay_9 : decode prog_1_method_24_code 9 = .ok (.invokevirtual 289, 3) := by decide +kernel
theorem d_S_startPlay_12 : decode prog_1_method_24_code 12 = .ok (.lastore, 1) := by decide +kernel
theorem d_S_startPlay_13 : decode prog_1_method_24_code 13 = .ok (.aload_n 0, 1) := by decide +kernel
theorem d_S_startPlay_14 : decode prog_1_method_24_code 14 = .ok (.iconst 0, 1) := by decide +kernel
theorem d_S_startPlay_15 : decode prog_1_method_24_code 15 = .ok (.putfield 36, 3) := by decide +kernel
theorem d_S_startPlay_18 : decode prog_1_method_24_code 18 = .ok (.aload_n 0, 1) := by decide +kernel
theorem d_S_startPlay_19 : decode prog_1_method_24_code 19 = .ok (.iconst 0, 1) := by decide +kernel
theorem d_S_startPlay_20 : decode prog_1_method_24_code 20 = .ok (.putfield 40, 3) := by decide +kernel
theorem d_S_startPlay_23 : decode prog_1_method_24_code 23 = .ok (.return_, 1) := by decide +kernel
theorem d_S_startAnew_0 : decode prog_1_method_23_code 0 = .ok (.aload_n 0, 1) := by decide +kernel
theorem d_S_startAnew_1 : decode prog_1_method_23_code 1 = .ok (.invokevirtual 172, 3) := by decide +kernel
theorem d_S_startAnew_4 : decode prog_1_method_23_code 4 = .ok (.aload_n 0, 1) := by decide +kernel
theorem d_S_startAnew_5 : decode prog_1_method_23_code 5 = .ok (.getfield 24, 3) := by decide +kernel
theorem d_S_startAnew_8 : decode prog_1_method_23_code 8 = .ok (.invokevirtual 286, 3) := by decide +kernel
theorem d_S_startAnew_11 : decode prog_1_method_23_code 11 = .ok (.return_, 1) := by decide +kernel
theorem d_S_hasAsked_0 : decode prog_1_method_25_code 0 = .ok (.iload_n 1, 1) := by decide +kernel
theorem d_S_hasAsked_1 : decode prog_1_method_25_code 1 = .ok (.tableswitch 95 1 8 #[47, 47, 56, 95, 95, 47, 65, 80], 47) := by decide +kernel
theorem d_S_hasAsked_48 : decode prog_1_method_25_code 48 = .ok (.aload_n 0, 1) := by decide +kernel
theorem d_S_hasAsked_49 : decode prog_1_method_25_code 49 = .ok (.getfield 20, 3) := by decide +kernel
theorem d_S_hasAsked_52 : decode prog_1_method_25_code 52 = .ok (.iload_n 2, 1) := by decide +kernel
theorem d_S_hasAsked_53 : decode prog_1_method_25_code 53 = .ok (.invokevirtual 66, 3) := by decide +kernel
theorem d_S_hasAsked_56 : decode prog_1_method_25_code 56 = .ok (.ireturn, 1) := by decide +kernel
theorem d_S_hasAsked_57 : decode prog_1_method_25_code 57 = .ok (.aload_n 0, 1) := by decide +kernel
theorem d_S_hasAsked_58 : decode prog_1_method_25_code 58 = .ok (.getfield 20, 3) := by decide +kernel
theorem d_S_hasAsked_61 : decode prog_1_method_25_code 61 = .ok (.iload_n 2, 1) := by decide +kernel
theorem d_S_hasAsked_62 : decode prog_1_method_25_code 62 = .ok (.invokevirtual 293, 3) := by decide +kernel
theorem d_S_hasAsked_65 : decode prog_1_method_25_code 65 = .ok (.ireturn, 1) := by decide +kernel
theorem d_S_hasAsked_96 : decode prog_1_method_25_code 96 = .ok (.iconst 1, 1) := by decide +kernel
theorem d_S_hasAsked_97 : decode prog_1_method_25_code 97 = .ok (.ireturn, 1) := by decide +kernel
theorem d_S_hasAsked_66 : decode prog_1_method_25_code 66 = .ok (.iload_n 2, 1) := by decide +kernel
theorem d_S_hasAsked_67 : decode prog_1_method_25_code 67 = .ok (.iconst 0, 1) := by decide +kernel
theorem d_S_hasAsked_68 : decode prog_1_method_25_code 68 = .ok (.aload_n 0, 1) := by decide +kernel
theorem d_S_hasAsked_69 : decode prog_1_method_25_code 69 = .ok (.getfield 20, 3) := by decide +kernel
theorem d_S_hasAsked_72 : decode prog_1_method_25_code 72 = .ok (.getfield 161, 3) := by decide +kernel
theorem d_S_hasAsked_75 : decode prog_1_method_25_code 75 = .ok (.iconst 1, 1) := by decide +kernel
theorem d_S_hasAsked_76 : decode prog_1_method_25_code 76 = .ok (.isub, 1) := by decide +kernel
theorem d_S_hasAsked_77 : decode prog_1_method_25_code 77 = .ok (.invokestatic 72, 3) := by decide +kernel
theorem d_S_hasAsked_80 : decode prog_1_method_25_code 80 = .ok (.ireturn, 1) := by decide +kernel
theorem d_S_hasAsked_81 : decode prog_1_method_25_code 81 = .ok (.iload_n 2, 1) := by decide +kernel
theorem d_S_hasAsked_82 : decode prog_1_method_25_code 82 = .ok (.iconst 0, 1) := by decide +kernel
theorem d_S_hasAsked_83 : decode prog_1_method_25_code 83 = .ok (.aload_n 0, 1) := by decide +kernel
theorem d_S_hasAsked_84 : decode prog_1_method_25_code 84 = .ok (.getfield 20, 3) := by decide +kernel
theorem d_S_hasAsked_87 : decode prog_1_method_25_code 87 = .ok (.getfield 152, 3) := by decide +kernel
theorem d_S_hasAsked_90 : decode prog_1_method_25_code 90 = .ok (.iconst 1, 1) := by decide +kernel
theorem d_S_hasAsked_91 : decode prog_1_method_25_code 91 = .ok (.isub, 1) := by decide +kernel
theorem d_S_hasAsked_92 : decode prog_1_method_25_code 92 = .ok (.invokestatic 72, 3) := by decide +kernel
theorem d_S_hasAsked_95 : decode prog_1_method_25_code 95 = .ok (.ireturn, 1) := by decide +kernel
theorem d_S_spoilingTurn_0 : decode prog_1_method_22_code 0 = .ok (.aload_n 0, 1) := by decide +kernel
theorem d_S_spoilingTurn_1 : decode prog_1_method_22_code 1 = .ok (.getfield 24, 3) := by decide +kernel
theorem d_S_spoilingTurn_4 : decode prog_1_method_22_code 4 = .ok (.aload_n 0, 1) := by decide +kernel
theorem d_S_spoilingTurn_5 : decode prog_1_method_22_code 5 = .ok (.getfield 28, 3) := by decide +kernel
theorem d_S_spoilingTurn_8 : decode prog_1_method_22_code 8 = .ok (.aload_n 0, 1) := by decide +kernel
theorem d_S_spoilingTurn_9 : decode prog_1_method_22_code 9 = .ok (.getfield 36, 3) := by decide +kernel
theorem d_S_spoilingTurn_12 : decode prog_1_method_22_code 12 = .ok (.laload, 1) := by decide +kernel
theorem d_S_spoilingTurn_13 : decode prog_1_method_22_code 13 = .ok (.invokevirtual 274, 3) := by decide +kernel
theorem d_S_spoilingTurn_16 : decode prog_1_method_22_code 16 = .ok (.ifCond .ne 5, 3) := by decide +kernel
theorem d_S_spoilingTurn_21 : decode prog_1_method_22_code 21 = .ok (.aload_n 0, 1) := by decide +kernel
theorem d_S_spoilingTurn_22 : decode prog_1_method_22_code 22 = .ok (.getfield 36, 3) := by decide +kernel
theorem d_S_spoilingTurn_25 : decode prog_1_method_22_code 25 = .ok (.iconst 1, 1) := by decide +kernel
theorem d_S_spoilingTurn_26 : decode prog_1_method_22_code 26 = .ok (.isub, 1) := by decide +kernel
theorem d_S_spoilingTurn_27 : decode prog_1_method_22_code 27 = .ok (.istore_n 1, 1) := by decide +kernel
theorem d_S_spoilingTurn_19 : decode prog_1_method_22_code 19 = .ok (.iconst (-1), 1) := by decide +kernel
theorem d_S_spoilingTurn_20 : decode prog_1_method_22_code 20 = .ok (.ireturn, 1) := by decide +kernel
theorem d_S_spoilingTurn_28 : decode prog_1_method_22_code 28 = .ok (.iload_n 1, 1) := by decide +kernel
theorem d_S_spoilingTurn_29 : decode prog_1_method_22_code 29 = .ok (.ifCond .lt 27, 3) := by decide +kernel
theorem d_S_spoilingTurn_56 : decode prog_1_method_22_code 56 = .ok (.iconst (-1), 1) := by decide +kernel
theorem d_S_spoilingTurn_57 : decode prog_1_method_22_code 57 = .ok (.ireturn, 1) := by decide +kernel
theorem d_S_spoilingTurn_32 : decode prog_1_method_22_code 32 = .ok (.aload_n 0, 1) := by decide +kernel
theorem d_S_spoilingTurn_33 : decode prog_1_method_22_code 33 = .ok (.getfield 24, 3) := by decide +kernel
theorem d_S_spoilingTurn_36 : decode prog_1_method_22_code 36 = .ok (.aload_n 0, 1) := by decide +kernel
theorem d_S_spoilingTurn_37 : decode prog_1_method_22_code 37 = .ok (.getfield 28, 3) := by decide +kernel
theorem d_S_spoilingTurn_40 : decode prog_1_method_22_code 40 = .ok (.iload_n 1, 1) := by decide +kernel
theorem d_S_spoilingTurn_41 : decode prog_1_method_22_code 41 = .ok (.laload, 1) := by decide +kernel
theorem d_S_spoilingTurn_42 : decode prog_1_method_22_code 42 = .ok (.invokevirtual 274, 3) := by decide +kernel
theorem d_S_spoilingTurn_45 : decode prog_1_method_22_code 45 = .ok (.ifCond .ne 5, 3) := by decide +kernel
theorem d_S_spoilingTurn_50 : decode prog_1_method_22_code 50 = .ok (.iinc 1 (-1), 3) := by decide +kernel
theorem d_S_spoilingTurn_53 : decode prog_1_method_22_code 53 = .ok (.goto (-25), 3) := by decide +kernel
theorem d_S_spoilingTurn_48 : decode prog_1_method_22_code 48 = .ok (.iload_n 1, 1) := by decide +kernel
theorem d_S_spoilingTurn_49 : decode prog_1_method_22_code 49 = .ok (.ireturn, 1) := by decide +kernel
theorem d_S_isThingKind_0 : decode prog_1_method_26_code 0 = .ok (.iload_n 0, 1) := by decide +kernel
theorem d_S_isThingKind_1 : decode prog_1_method_26_code 1 = .ok (.iconst 4, 1) := by decide +kernel
theorem d_S_isThingKind_2 : decode prog_1_method_26_code 2 = .ok (.iand, 1) := by decide +kernel
theorem d_S_isThingKind_3 : decode prog_1_method_26_code 3 = .ok (.ifCond .eq 7, 3) := by decide +kernel
theorem d_S_isThingKind_10 : decode prog_1_method_26_code 10 = .ok (.iconst 0, 1) := by decide +kernel
theorem d_S_isThingKind_6 : decode prog_1_method_26_code 6 = .ok (.iconst 1, 1) := by decide +kernel
theorem d_S_isThingKind_7 : decode prog_1_method_26_code 7 = .ok (.goto 4, 3) := by decide +kernel
theorem d_S_isThingKind_11 : decode prog_1_method_26_code 11 = .ok (.istore_n 1, 1) := by decide +kernel
theorem d_S_isThingKind_12 : decode prog_1_method_26_code 12 = .ok (.iload_n 0, 1) := by decide +kernel
theorem d_S_isThingKind_13 : decode prog_1_method_26_code 13 = .ok (.iconst 0, 1) := by decide +kernel
theorem d_S_isThingKind_14 : decode prog_1_method_26_code 14 = .ok (.bipush 7, 2) := by decide +kernel
theorem d_S_isThingKind_16 : decode prog_1_method_26_code 16 = .ok (.invokestatic 72, 3) := by decide +kernel
theorem d_S_isThingKind_19 : decode prog_1_method_26_code 19 = .ok (.ifCond .eq 17, 3) := by decide +kernel
theorem d_S_isThingKind_36 : decode prog_1_method_26_code 36 = .ok (.iconst 0, 1) := by decide +kernel
theorem d_S_isThingKind_37 : decode prog_1_method_26_code 37 = .ok (.ireturn, 1) := by decide +kernel
theorem d_S_isThingKind_22 : decode prog_1_method_26_code 22 = .ok (.iload_n 1, 1) := by decide +kernel
theorem d_S_isThingKind_23 : decode prog_1_method_26_code 23 = .ok (.ifCond .eq 9, 3) := by decide +kernel
theorem d_S_isThingKind_32 : decode prog_1_method_26_code 32 = .ok (.iconst 1, 1) := by decide +kernel
theorem d_S_isThingKind_33 : decode prog_1_method_26_code 33 = .ok (.goto 4, 3) := by decide +kernel
theorem d_S_isThingKind_26 : decode prog_1_method_26_code 26 = .ok (.iload_n 0, 1) := by decide +kernel
theorem d_S_isThingKind_27 : decode prog_1_method_26_code 27 = .ok (.iconst 2, 1) := by decide +kernel
theorem d_S_isThingKind_28 : decode prog_1_method_26_code 28 = .ok (.iand, 1) := by decide +kernel
theorem d_S_isThingKind_29 : decode prog_1_method_26_code 29 = .ok (.ifCond .eq 7, 3) := by decide +kernel
theorem d_S_isConditionLevel_0 : decode prog_1_method_27_code 0 = .ok (.iload_n 0, 1) := by decide +kernel
theorem d_S_isConditionLevel_1 : decode prog_1_method_27_code 1 = .ok (.tableswitch 42 2 4 #[27, 34, 34], 27) := by decide +kernel
theorem d_S_isConditionLevel_28 : decode prog_1_method_27_code 28 = .ok (.iload_n 1, 1) := by decide +kernel
theorem d_S_isConditionLevel_29 : decode prog_1_method_27_code 29 = .ok (.iconst 0, 1) := by decide +kernel
theorem d_S_isConditionLevel_30 : decode prog_1_method_27_code 30 = .ok (.iconst 1, 1) := by decide +kernel
theorem d_S_isConditionLevel_31 : decode prog_1_method_27_code 31 = .ok (.invokestatic 72, 3) := by decide +kernel
theorem d_S_isConditionLevel_34 : decode prog_1_method_27_code 34 = .ok (.ireturn, 1) := by decide +kernel
theorem d_S_isConditionLevel_35 : decode prog_1_method_27_code 35 = .ok (.iload_n 1, 1) := by decide +kernel
theorem d_S_isConditionLevel_36 : decode prog_1_method_27_code 36 = .ok (.iconst 0, 1) := by decide +kernel
theorem d_S_isConditionLevel_37 : decode prog_1_method_27_code 37 = .ok (.bipush 7, 2) := by decide +kernel
theorem d_S_isConditionLevel_39 : decode prog_1_method_27_code 39 = .ok (.invokestatic 72, 3) := by decide +kernel
theorem d_S_isConditionLevel_42 : decode prog_1_method_27_code 42 = .ok (.ireturn, 1) := by decide +kernel
theorem d_S_isConditionLevel_43 : decode prog_1_method_27_code 43 = .ok (.iconst 1, 1) := by decide +kernel
theorem d_S_isConditionLevel_44 : decode prog_1_method_27_code 44 = .ok (.ireturn, 1) := by decide +kernel
theorem d_S_isEffectLevel_0 : decode prog_1_method_28_code 0 = .ok (.iload_n 0, 1) := by decide +kernel
theorem d_S_isEffectLevel_1 : decode prog_1_method_28_code 1 = .ok (.lookupswitch 43 #[(2, 27), (3, 34)], 27) := by decide +kernel
theorem d_S_isEffectLevel_28 : decode prog_1_method_28_code 28 = .ok (.iload_n 1, 1) := by decide +kernel
theorem d_S_isEffectLevel_29 : decode prog_1_method_28_code 29 = .ok (.iconst 0, 1) := by decide +kernel
theorem d_S_isEffectLevel_30 : decode prog_1_method_28_code 30 = .ok (.iconst 1, 1) := by decide +kernel
theorem d_S_isEffectLevel_31 : decode prog_1_method_28_code 31 = .ok (.invokestatic 72, 3) := by decide +kernel
theorem d_S_isEffectLevel_34 : decode prog_1_method_28_code 34 = .ok (.ireturn, 1) := by decide +kernel
theorem d_S_isEffectLevel_35 : decode prog_1_method_28_code 35 = .ok (.iload_n 1, 1) := by decide +kernel
theorem d_S_isEffectLevel_36 : decode prog_1_method_28_code 36 = .ok (.bipush (-7), 2) := by decide +kernel
theorem d_S_isEffectLevel_38 : decode prog_1_method_28_code 38 = .ok (.bipush 7, 2) := by decide +kernel
theorem d_S_isEffectLevel_40 : decode prog_1_method_28_code 40 = .ok (.invokestatic 72, 3) := by decide +kernel
theorem d_S_isEffectLevel_43 : decode prog_1_method_28_code 43 = .ok (.ireturn, 1) := by decide +kernel
theorem d_S_isEffectLevel_44 : decode prog_1_method_28_code 44 = .ok (.iconst 1, 1) := by decide +kernel
theorem d_S_isEffectLevel_45 : decode prog_1_method_28_code 45 = .ok (.ireturn, 1) := by decide +kernel
theorem d_S_clear_0 : decode prog_1_method_2_code 0 = .ok (.aload_n 0, 1) := by decide +kernel
theorem d_S_clear_1 : decode prog_1_method_2_code 1 = .ok (.getfield 20, 3) := by decide +kernel
theorem d_S_clear_4 : decode prog_1_method_2_code 4 = .ok (.invokevirtual 43, 3) := by decide +kernel
theorem d_S_clear_7 : decode prog_1_method_2_code 7 = .ok (.aload_n 0, 1) := by decide +kernel
theorem d_S_clear_8 : decode prog_1_method_2_code 8 = .ok (.invokevirtual 48, 3) := by decide +kernel
theorem d_S_clear_11 : decode prog_1_method_2_code 11 = .ok (.return_, 1) := by decide +kernel
theorem d_S_said_0 : decode prog_1_method_15_code 0 = .ok (.iload_n 1, 1) := by decide +kernel
theorem d_S_said_1 : decode prog_1_method_15_code 1 = .ok (.iconst 0, 1) := by decide +kernel
theorem d_S_said_2 : decode prog_1_method_15_code 2 = .ok (.aload_n 0, 1) := by decide +kernel
theorem d_S_said_3 : decode prog_1_method_15_code 3 = .ok (.getfield 40, 3) := by decide +kernel
theorem d_S_said_6 : decode prog_1_method_15_code 6 = .ok (.iconst 1, 1) := by decide +kernel
theorem d_S_said_7 : decode prog_1_method_15_code 7 = .ok (.isub, 1) := by decide +kernel
theorem d_S_said_8 : decode prog_1_method_15_code 8 = .ok (.invokestatic 72, 3) := by decide +kernel
theorem d_S_said_11 : decode prog_1_method_15_code 11 = .ok (.ifCond .eq 12, 3) := by decide +kernel
theorem d_S_said_23 : decode prog_1_method_15_code 23 = .ok (.iconst (-1), 1) := by decide +kernel
theorem d_S_said_24 : decode prog_1_method_15_code 24 = .ok (.ireturn, 1) := by decide +kernel
theorem d_S_said_14 : decode prog_1_method_15_code 14 = .ok (.aload_n 0, 1) := by decide +kernel
theorem d_S_said_15 : decode prog_1_method_15_code 15 = .ok (.getfield 32, 3) := by decide +kernel
theorem d_S_said_18 : decode prog_1_method_15_code 18 = .ok (.iload_n 1, 1) := by decide +kernel
theorem d_S_said_19 : decode prog_1_method_15_code 19 = .ok (.iaload, 1) := by decide +kernel
theorem d_S_said_20 : decode prog_1_method_15_code 20 = .ok (.goto 4, 3) := by decide +kernel
theorem d_S_undo_0 : decode prog_1_method_16_code 0 = .ok (.aload_n 0, 1) := by decide +kernel
theorem d_S_undo_1 : decode prog_1_method_16_code 1 = .ok (.iconst 0, 1) := by decide +kernel
theorem d_S_undo_2 : decode prog_1_method_16_code 2 = .ok (.putfield 40, 3) := by decide +kernel
theorem d_S_undo_5 : decode prog_1_method_16_code 5 = .ok (.aload_n 0, 1) := by decide +kernel
theorem d_S_undo_6 : decode prog_1_method_16_code 6 = .ok (.getfield 36, 3) := by decide +kernel
theorem d_S_undo_9 : decode prog_1_method_16_code 9 = .ok (.ifCond .ne 5, 3) := by decide +kernel
theorem d_S_undo_14 : decode prog_1_method_16_code 14 = .ok (.aload_n 0, 1) := by decide +kernel
theorem d_S_undo_15 : decode prog_1_method_16_code 15 = .ok (.dup, 1) := by decide +kernel
theorem d_S_undo_16 : decode prog_1_method_16_code 16 = .ok (.getfield 36, 3) := by decide +kernel
theorem d_S_undo_19 : decode prog_1_method_16_code 19 = .ok (.iconst 1, 1) := by decide +kernel
theorem d_S_undo_20 : decode prog_1_method_16_code 20 = .ok (.isub, 1) := by decide +kernel
theorem d_S_undo_21 : decode prog_1_method_16_code 21 = .ok (.putfield 36, 3) := by decide +kernel
theorem d_S_undo_24 : decode prog_1_method_16_code 24 = .ok (.iconst 1, 1) := by decide +kernel
theorem d_S_undo_25 : decode prog_1_method_16_code 25 = .ok (.ireturn, 1) := by decide +kernel
theorem d_S_undo_12 : decode prog_1_method_16_code 12 = .ok (.iconst 0, 1) := by decide +kernel
theorem d_S_undo_13 : decode prog_1_method_16_code 13 = .ok (.ireturn, 1) := by decide +kernel
end
section
def J_W_becomeEmpty (n : Nat)  (h : sHp) : Option sHp :=
  some (pI (pI (pI (pI (pI (pI (pI h 2 12 0) 2 13 0) 2 14 0) 2 15 0) 3 7 0) 2 16 0) 2 17 0)
set_option maxRecDepth 20000 in
set_option maxHeartbeats 4000000 in
theorem R_W_becomeEmpty (n : Nat)  (h : sHp) : sM Zc sOv y_W_becomeEmpty prog_8_method_2_code 1 none rm_W_becomeEmpty [.ref 2] h (J_W_becomeEmpty n  h) := by
  refine sM_of (own := "StoryStates$World") rfl (by decide) (Nat.le_of_ble_eq_true rfl) (fun M V O => ?_)
  unfold J_W_becomeEmpty
  refine r_lv (lv' := [(0, .ref 2)]) [0] rfl ?_
  refine r_aload_n (pc := 0) O d_W_becomeEmpty_0 0 rfl ?_
  refine r_iconst (pc := 1) O d_W_becomeEmpty_1 ic_0 ?_
  refine r_putI (pc := 2) O pf_c_W_53_2 d_W_becomeEmpty_2 ?_
  refine r_aload_n (pc := 5) O d_W_becomeEmpty_5 0 rfl ?_
  refine r_iconst (pc := 6) O d_W_becomeEmpty_6 ic_0 ?_
  refine r_putI (pc := 7) O pf_c_W_57_2 d_W_becomeEmpty_7 ?_
  refine r_aload_n (pc := 10) O d_W_becomeEmpty_10 0 rfl ?_
  refine r_iconst (pc := 11) O d_W_becomeEmpty_11 ic_0 ?_
  refine r_putI (pc := 12) O pf_c_W_60_2 d_W_becomeEmpty_12 ?_
  refine r_aload_n (pc := 15) O d_W_becomeEmpty_15 0 rfl ?_
  refine r_iconst (pc := 16) O d_W_becomeEmpty_16 ic_0 ?_
  refine r_putI (pc := 17) O pf_c_W_63_2 d_W_becomeEmpty_17 ?_
  refine r_aload_n (pc := 20) O d_W_becomeEmpty_20 0 rfl ?_
  refine r_getR (pc := 21) O gf_c_W_37_2 d_W_becomeEmpty_21 ?_
  refine r_iconst (pc := 24) O d_W_becomeEmpty_24 ic_0 ?_
  refine r_putI (pc := 25) O pf_c_W_66_3 d_W_becomeEmpty_25 ?_
  refine r_aload_n (pc := 28) O d_W_becomeEmpty_28 0 rfl ?_
  refine r_iconst (pc := 29) O d_W_becomeEmpty_29 ic_0 ?_
  refine r_putI (pc := 30) O pf_c_W_69_2 d_W_becomeEmpty_30 ?_
  refine r_aload_n (pc := 33) O d_W_becomeEmpty_33 0 rfl ?_
  refine r_iconst (pc := 34) O d_W_becomeEmpty_34 ic_0 ?_
  refine r_putI (pc := 35) O pf_c_W_72_2 d_W_becomeEmpty_35 ?_
  exact r_vret (pc := 38) O rfl d_W_becomeEmpty_38
def J_S_isFrom (n : Nat) (p0 : Int32) (p1 : Int32) (p2 : Int32) (h : sHp) : Option Int32 :=
  if p0 < p1 then (some 0) else (if p2 < p0 then (some 0) else (some 1))
set_option maxRecDepth 20000 in
set_option maxHeartbeats 4000000 in
theorem R_S_isFrom (n : Nat) (p0 : Int32) (p1 : Int32) (p2 : Int32) (h : sHp) : sM Zc (sPi h) y_S_isFrom prog_1_method_29_code 3 (some .boolean) rm_S_isFrom [.int p0, .int p1, .int p2] h (J_S_isFrom n p0 p1 p2 h) := by
  refine sM_of (own := "StoryStates") rfl (by decide) (Nat.le_of_ble_eq_true rfl) (fun M V O => ?_)
  unfold J_S_isFrom
  refine r_lv (lv' := [(0, .int p0), (1, .int p1), (2, .int p2)]) [0, 1, 2] rfl ?_
  refine r_iload_n (pc := 0) O d_S_isFrom_0 0 rfl ?_
  refine r_iload_n (pc := 1) O d_S_isFrom_1 1 rfl ?_
  refine r_icmp_lt (tgt := 14) (pc := 2) O d_S_isFrom_2 (by decide) (fun q2 => ?_) (fun q2 => ?_)
  · refine r_iconst (pc := 14) O d_S_isFrom_14 ic_0 ?_
    exact r_zret (pc := 15) O rfl d_S_isFrom_15 nb_0
  · refine r_iload_n (pc := 5) O d_S_isFrom_5 0 rfl ?_
    refine r_iload_n (pc := 6) O d_S_isFrom_6 2 rfl ?_
    refine r_icmp_gt (tgt := 14) (pc := 7) O d_S_isFrom_7 (by decide) (fun q7 => ?_) (fun q7 => ?_)
    · refine r_iconst (pc := 14) O d_S_isFrom_14 ic_0 ?_
      exact r_zret (pc := 15) O rfl d_S_isFrom_15 nb_0
    · refine r_iconst (pc := 10) O d_S_isFrom_10 ic_1 ?_
      refine r_goto (pc := 11) O d_S_isFrom_11 (tgt := 15) (by decide) ?_
      exact r_zret (pc := 15) O rfl d_S_isFrom_15 nb_1
def J_W_hasRoom (n : Nat) (p1 : Int32) (h : sHp) : Option Int32 :=
  (J_S_isFrom n p1 0 ((h.1 2 12) - 1) h).bind fun v8 =>
  sGd (jB v8) (some v8)
set_option maxRecDepth 20000 in
set_option maxHeartbeats 4000000 in
theorem R_W_hasRoom (n : Nat) (p1 : Int32) (h : sHp) : sM Zc (sPi h) y_W_hasRoom prog_8_method_3_code 2 (some .boolean) rm_W_hasRoom [.ref 2, .int p1] h (J_W_hasRoom n p1 h) := by
  refine sM_of (own := "StoryStates$World") rfl (by decide) (Nat.le_of_ble_eq_true rfl) (fun M V O => ?_)
  unfold J_W_hasRoom
  refine r_lv (lv' := [(0, .ref 2), (1, .int p1)]) [0, 1] rfl ?_
  refine r_iload_n (pc := 0) O d_W_hasRoom_0 1 rfl ?_
  refine r_iconst (pc := 1) O d_W_hasRoom_1 ic_0 ?_
  refine r_aload_n (pc := 2) O d_W_hasRoom_2 0 rfl ?_
  refine r_getI (x := (h.1 2 12)) (pc := 3) O gf_c_W_53_2 d_W_hasRoom_3 rfl ?_
  refine r_iconst (pc := 6) O d_W_hasRoom_6 ic_1 ?_
  refine r_isub (pc := 7) O d_W_hasRoom_7 ?_
  refine r_callSip (pc := 8) O [.int p1, .int 0, .int ((h.1 2 12) - 1)] (R_S_isFrom n p1 0 ((h.1 2 12) - 1) h) cw_W_hasRoom_8 wm_312 rfl (Nat.le_of_ble_eq_true rfl) d_W_hasRoom_8 rfl (fun v8 => ?_)
  exact r_zretg (pc := 11) O rfl d_W_hasRoom_11
def J_W_hasThing (n : Nat) (p1 : Int32) (h : sHp) : Option Int32 :=
  (J_S_isFrom n p1 0 ((h.1 2 13) - 1) h).bind fun v8 =>
  sGd (jB v8) (some v8)
set_option maxRecDepth 20000 in
set_option maxHeartbeats 4000000 in
theorem R_W_hasThing (n : Nat) (p1 : Int32) (h : sHp) : sM Zc (sPi h) y_W_hasThing prog_8_method_4_code 2 (some .boolean) rm_W_hasThing [.ref 2, .int p1] h (J_W_hasThing n p1 h) := by
  refine sM_of (own := "StoryStates$World") rfl (by decide) (Nat.le_of_ble_eq_true rfl) (fun M V O => ?_)
  unfold J_W_hasThing
  refine r_lv (lv' := [(0, .ref 2), (1, .int p1)]) [0, 1] rfl ?_
  refine r_iload_n (pc := 0) O d_W_hasThing_0 1 rfl ?_
  refine r_iconst (pc := 1) O d_W_hasThing_1 ic_0 ?_
  refine r_aload_n (pc := 2) O d_W_hasThing_2 0 rfl ?_
  refine r_getI (x := (h.1 2 13)) (pc := 3) O gf_c_W_57_2 d_W_hasThing_3 rfl ?_
  refine r_iconst (pc := 6) O d_W_hasThing_6 ic_1 ?_
  refine r_isub (pc := 7) O d_W_hasThing_7 ?_
  refine r_callSip (pc := 8) O [.int p1, .int 0, .int ((h.1 2 13) - 1)] (R_S_isFrom n p1 0 ((h.1 2 13) - 1) h) cw_W_hasThing_8 wm_312 rfl (Nat.le_of_ble_eq_true rfl) d_W_hasThing_8 rfl (fun v8 => ?_)
  exact r_zretg (pc := 11) O rfl d_W_hasThing_11
def J_W_hasNumber (n : Nat) (p1 : Int32) (h : sHp) : Option Int32 :=
  (J_S_isFrom n p1 0 ((h.1 2 14) - 1) h).bind fun v8 =>
  sGd (jB v8) (some v8)
set_option maxRecDepth 20000 in
set_option maxHeartbeats 4000000 in
theorem R_W_hasNumber (n : Nat) (p1 : Int32) (h : sHp) : sM Zc (sPi h) y_W_hasNumber prog_8_method_5_code 2 (some .boolean) rm_W_hasNumber [.ref 2, .int p1] h (J_W_hasNumber n p1 h) := by
  refine sM_of (own := "StoryStates$World") rfl (by decide) (Nat.le_of_ble_eq_true rfl) (fun M V O => ?_)
  unfold J_W_hasNumber
  refine r_lv (lv' := [(0, .ref 2), (1, .int p1)]) [0, 1] rfl ?_
  refine r_iload_n (pc := 0) O d_W_hasNumber_0 1 rfl ?_
  refine r_iconst (pc := 1) O d_W_hasNumber_1 ic_0 ?_
  refine r_aload_n (pc := 2) O d_W_hasNumber_2 0 rfl ?_
  refine r_getI (x := (h.1 2 14)) (pc := 3) O gf_c_W_60_2 d_W_hasNumber_3 rfl ?_
  refine r_iconst (pc := 6) O d_W_hasNumber_6 ic_1 ?_
  refine r_isub (pc := 7) O d_W_hasNumber_7 ?_
  refine r_callSip (pc := 8) O [.int p1, .int 0, .int ((h.1 2 14) - 1)] (R_S_isFrom n p1 0 ((h.1 2 14) - 1) h) cw_W_hasNumber_8 wm_312 rfl (Nat.le_of_ble_eq_true rfl) d_W_hasNumber_8 rfl (fun v8 => ?_)
  exact r_zretg (pc := 11) O rfl d_W_hasNumber_11
def J_W_hasEnding (n : Nat) (p1 : Int32) (h : sHp) : Option Int32 :=
  (J_S_isFrom n p1 0 ((h.1 2 15) - 1) h).bind fun v8 =>
  sGd (jB v8) (some v8)
set_option maxRecDepth 20000 in
set_option maxHeartbeats 4000000 in
theorem R_W_hasEnding (n : Nat) (p1 : Int32) (h : sHp) : sM Zc (sPi h) y_W_hasEnding prog_8_method_6_code 2 (some .boolean) rm_W_hasEnding [.ref 2, .int p1] h (J_W_hasEnding n p1 h) := by
  refine sM_of (own := "StoryStates$World") rfl (by decide) (Nat.le_of_ble_eq_true rfl) (fun M V O => ?_)
  unfold J_W_hasEnding
  refine r_lv (lv' := [(0, .ref 2), (1, .int p1)]) [0, 1] rfl ?_
  refine r_iload_n (pc := 0) O d_W_hasEnding_0 1 rfl ?_
  refine r_iconst (pc := 1) O d_W_hasEnding_1 ic_0 ?_
  refine r_aload_n (pc := 2) O d_W_hasEnding_2 0 rfl ?_
  refine r_getI (x := (h.1 2 15)) (pc := 3) O gf_c_W_63_2 d_W_hasEnding_3 rfl ?_
  refine r_iconst (pc := 6) O d_W_hasEnding_6 ic_1 ?_
  refine r_isub (pc := 7) O d_W_hasEnding_7 ?_
  refine r_callSip (pc := 8) O [.int p1, .int 0, .int ((h.1 2 15) - 1)] (R_S_isFrom n p1 0 ((h.1 2 15) - 1) h) cw_W_hasEnding_8 wm_312 rfl (Nat.le_of_ble_eq_true rfl) d_W_hasEnding_8 rfl (fun v8 => ?_)
  exact r_zretg (pc := 11) O rfl d_W_hasEnding_11
def J_W_hasRule (n : Nat) (p1 : Int32) (h : sHp) : Option Int32 :=
  (J_S_isFrom n p1 0 ((h.1 3 7) - 1) h).bind fun v11 =>
  sGd (jB v11) (some v11)
set_option maxRecDepth 20000 in
set_option maxHeartbeats 4000000 in
theorem R_W_hasRule (n : Nat) (p1 : Int32) (h : sHp) : sM Zc (sPi h) y_W_hasRule prog_8_method_7_code 2 (some .boolean) rm_W_hasRule [.ref 2, .int p1] h (J_W_hasRule n p1 h) := by
  refine sM_of (own := "StoryStates$World") rfl (by decide) (Nat.le_of_ble_eq_true rfl) (fun M V O => ?_)
  unfold J_W_hasRule
  refine r_lv (lv' := [(0, .ref 2), (1, .int p1)]) [0, 1] rfl ?_
  refine r_iload_n (pc := 0) O d_W_hasRule_0 1 rfl ?_
  refine r_iconst (pc := 1) O d_W_hasRule_1 ic_0 ?_
  refine r_aload_n (pc := 2) O d_W_hasRule_2 0 rfl ?_
  refine r_getR (pc := 3) O gf_c_W_37_2 d_W_hasRule_3 ?_
  refine r_getI (x := (h.1 3 7)) (pc := 6) O gf_c_W_66_3 d_W_hasRule_6 rfl ?_
  refine r_iconst (pc := 9) O d_W_hasRule_9 ic_1 ?_
  refine r_isub (pc := 10) O d_W_hasRule_10 ?_
  refine r_callSip (pc := 11) O [.int p1, .int 0, .int ((h.1 3 7) - 1)] (R_S_isFrom n p1 0 ((h.1 3 7) - 1) h) cw_W_hasRule_11 wm_312 rfl (Nat.le_of_ble_eq_true rfl) d_W_hasRule_11 rfl (fun v11 => ?_)
  exact r_zretg (pc := 14) O rfl d_W_hasRule_14
def J_W_hasPlace (n : Nat) (p1 : Int32) (h : sHp) : Option Int32 :=
  (J_W_hasRoom n p1 h).bind fun v2 =>
  if v2 = 0 then ((J_S_isFrom n p1 6 ((7 + (h.1 2 13)) - 1) h).bind fun v20 =>
  if v20 = 0 then (some 0) else (some 1)) else (some 1)
set_option maxRecDepth 20000 in
set_option maxHeartbeats 4000000 in
theorem R_W_hasPlace (n : Nat) (p1 : Int32) (h : sHp) : sM Zc (sPi h) y_W_hasPlace prog_8_method_8_code 2 (some .boolean) rm_W_hasPlace [.ref 2, .int p1] h (J_W_hasPlace n p1 h) := by
  refine sM_of (own := "StoryStates$World") rfl (by decide) (Nat.le_of_ble_eq_true rfl) (fun M V O => ?_)
  unfold J_W_hasPlace
  refine r_lv (lv' := [(0, .ref 2), (1, .int p1)]) [0, 1] rfl ?_
  refine r_aload_n (pc := 0) O d_W_hasPlace_0 0 rfl ?_
  refine r_iload_n (pc := 1) O d_W_hasPlace_1 1 rfl ?_
  refine r_callVip (pc := 2) O [.int p1] rfl rfl (R_W_hasRoom n p1 h) cw_W_hasPlace_2 wm_410 wm_411 rfl (Nat.le_of_ble_eq_true rfl) d_W_hasPlace_2 rfl (fun v2 => ?_)
  refine r_if_ne (tgt := 26) (pc := 5) O d_W_hasPlace_5 (by decide) (fun q5 => ?_) (fun q5 => ?_)
  · refine r_iconst (pc := 26) O d_W_hasPlace_26 ic_1 ?_
    refine r_goto (pc := 27) O d_W_hasPlace_27 (tgt := 31) (by decide) ?_
    exact r_zret (pc := 31) O rfl d_W_hasPlace_31 nb_1
  · refine r_iload_n (pc := 8) O d_W_hasPlace_8 1 rfl ?_
    refine r_bipush (pc := 9) O d_W_hasPlace_9 bc_6 ?_
    refine r_bipush (pc := 11) O d_W_hasPlace_11 bc_7 ?_
    refine r_aload_n (pc := 13) O d_W_hasPlace_13 0 rfl ?_
    refine r_getI (x := (h.1 2 13)) (pc := 14) O gf_c_W_57_2 d_W_hasPlace_14 rfl ?_
    refine r_iadd (pc := 17) O d_W_hasPlace_17 ?_
    refine r_iconst (pc := 18) O d_W_hasPlace_18 ic_1 ?_
    refine r_isub (pc := 19) O d_W_hasPlace_19 ?_
    refine r_callSip (pc := 20) O [.int p1, .int 6, .int ((7 + (h.1 2 13)) - 1)] (R_S_isFrom n p1 6 ((7 + (h.1 2 13)) - 1) h) cw_W_hasPlace_20 wm_312 rfl (Nat.le_of_ble_eq_true rfl) d_W_hasPlace_20 rfl (fun v20 => ?_)
    refine r_if_eq (tgt := 30) (pc := 23) O d_W_hasPlace_23 (by decide) (fun q23 => ?_) (fun q23 => ?_)
    · refine r_iconst (pc := 30) O d_W_hasPlace_30 ic_0 ?_
      exact r_zret (pc := 31) O rfl d_W_hasPlace_31 nb_0
    · refine r_iconst (pc := 26) O d_W_hasPlace_26 ic_1 ?_
      refine r_goto (pc := 27) O d_W_hasPlace_27 (tgt := 31) (by decide) ?_
      exact r_zret (pc := 31) O rfl d_W_hasPlace_31 nb_1
def J_W_hasSubject (n : Nat) (p1 : Int32) (p2 : Int32) (h : sHp) : Option Int32 :=
  if p1 = 0 then ((J_W_hasRoom n p2 h).bind fun v30 =>
  sGd (jB v30) (some v30)) else (if p1 = 1 then ((J_W_hasThing n p2 h).bind fun v36 =>
  sGd (jB v36) (some v36)) else (if p1 = 2 then ((J_W_hasThing n p2 h).bind fun v36 =>
  sGd (jB v36) (some v36)) else ((J_W_hasNumber n p2 h).bind fun v42 =>
  sGd (jB v42) (some v42))))
set_option maxRecDepth 20000 in
set_option maxHeartbeats 4000000 in
theorem R_W_hasSubject (n : Nat) (p1 : Int32) (p2 : Int32) (h : sHp) : sM Zc (sPi h) y_W_hasSubject prog_8_method_9_code 3 (some .boolean) rm_W_hasSubject [.ref 2, .int p1, .int p2] h (J_W_hasSubject n p1 p2 h) := by
  refine sM_of (own := "StoryStates$World") rfl (by decide) (Nat.le_of_ble_eq_true rfl) (fun M V O => ?_)
  unfold J_W_hasSubject
  refine r_lv (lv' := [(0, .ref 2), (1, .int p1), (2, .int p2)]) [0, 1, 2] rfl ?_
  refine r_iload_n (pc := 0) O d_W_hasSubject_0 1 rfl ?_
  refine r_ite (fun q1_0 => ?_) (fun q1_0 => ?_)
  · refine r_tin (tgt := 28) (pc := 1) O d_W_hasSubject_1 (by rw [q1_0]; decide) (by rw [q1_0]; decide) (by rw [q1_0]; rfl) (by decide) ?_
    refine r_aload_n (pc := 28) O d_W_hasSubject_28 0 rfl ?_
    refine r_iload_n (pc := 29) O d_W_hasSubject_29 2 rfl ?_
    refine r_callVip (pc := 30) O [.int p2] rfl rfl (R_W_hasRoom n p2 h) cw_W_hasSubject_30 wm_410 wm_411 rfl (Nat.le_of_ble_eq_true rfl) d_W_hasSubject_30 rfl (fun v30 => ?_)
    exact r_zretg (pc := 33) O rfl d_W_hasSubject_33
  · refine r_ite (fun q1_1 => ?_) (fun q1_1 => ?_)
    · refine r_tin (tgt := 34) (pc := 1) O d_W_hasSubject_1 (by rw [q1_1]; decide) (by rw [q1_1]; decide) (by rw [q1_1]; rfl) (by decide) ?_
      refine r_aload_n (pc := 34) O d_W_hasSubject_34 0 rfl ?_
      refine r_iload_n (pc := 35) O d_W_hasSubject_35 2 rfl ?_
      refine r_callVip (pc := 36) O [.int p2] rfl rfl (R_W_hasThing n p2 h) cw_W_hasSubject_36 wm_415 wm_416 rfl (Nat.le_of_ble_eq_true rfl) d_W_hasSubject_36 rfl (fun v36 => ?_)
      exact r_zretg (pc := 39) O rfl d_W_hasSubject_39
    · refine r_ite (fun q1_2 => ?_) (fun q1_2 => ?_)
      · refine r_tin (tgt := 34) (pc := 1) O d_W_hasSubject_1 (by rw [q1_2]; decide) (by rw [q1_2]; decide) (by rw [q1_2]; rfl) (by decide) ?_
        refine r_aload_n (pc := 34) O d_W_hasSubject_34 0 rfl ?_
        refine r_iload_n (pc := 35) O d_W_hasSubject_35 2 rfl ?_
        refine r_callVip (pc := 36) O [.int p2] rfl rfl (R_W_hasThing n p2 h) cw_W_hasSubject_36 wm_415 wm_416 rfl (Nat.le_of_ble_eq_true rfl) d_W_hasSubject_36 rfl (fun v36 => ?_)
        exact r_zretg (pc := 39) O rfl d_W_hasSubject_39
      · refine r_tout (tgt := 40) (pc := 1) O d_W_hasSubject_1 (by have z0 := lv_neT (a := 0) q1_0 (by decide); have z1 := lv_neT (a := 1) q1_1 (by decide); have z2 := lv_neT (a := 2) q1_2 (by decide); omega) (by decide) ?_
        refine r_aload_n (pc := 40) O d_W_hasSubject_40 0 rfl ?_
        refine r_iload_n (pc := 41) O d_W_hasSubject_41 2 rfl ?_
        refine r_callVip (pc := 42) O [.int p2] rfl rfl (R_W_hasNumber n p2 h) cw_W_hasSubject_42 wm_524 wm_525 rfl (Nat.le_of_ble_eq_true rfl) d_W_hasSubject_42 rfl (fun v42 => ?_)
        exact r_zretg (pc := 45) O rfl d_W_hasSubject_45
def K_W_hasCommand_142 (n : Nat) (p1 : Int32) (p2 : Int32) (p3 : Int32) (h : sHp) : Option Int32 :=
  if p3 = (-1) then (some 1) else ((J_W_hasThing n p3 h).bind fun v149 =>
  if v149 = 0 then (some 0) else (some 1))
def J_W_hasCommand (n : Nat) (p1 : Int32) (p2 : Int32) (p3 : Int32) (h : sHp) : Option Int32 :=
  if p1 = 0 then ((J_S_isFrom n p2 0 3 h).bind fun v55 =>
  if v55 = 0 then (some 0) else (if p3 = (-1) then (some 1) else (some 0))) else (if p1 = 1 then ((J_W_hasThing n p2 h).bind fun v74 =>
  if v74 = 0 then (some 0) else (if p3 = (-1) then (some 1) else (some 0))) else (if p1 = 2 then ((J_W_hasThing n p2 h).bind fun v74 =>
  if v74 = 0 then (some 0) else (if p3 = (-1) then (some 1) else (some 0))) else (if p1 = 3 then ((J_W_hasThing n p2 h).bind fun v74 =>
  if v74 = 0 then (some 0) else (if p3 = (-1) then (some 1) else (some 0))) else (if p1 = 4 then ((J_W_hasThing n p2 h).bind fun v74 =>
  if v74 = 0 then (some 0) else (if p3 = (-1) then (some 1) else (some 0))) else (if p1 = 5 then ((J_W_hasThing n p2 h).bind fun v93 =>
  if v93 = 0 then (some 0) else ((J_W_hasThing n p3 h).bind fun v101 =>
  if v101 = 0 then (some 0) else (some 1))) else (if p1 = 6 then (if p2 = (-1) then (if p3 = (-1) then (some 1) else (some 0)) else (some 0)) else (if p1 = 7 then (if p2 = (-1) then (K_W_hasCommand_142 n p1 p2 p3 h) else ((J_W_hasThing n p2 h).bind fun v136 =>
  if v136 = 0 then (some 0) else (K_W_hasCommand_142 n p1 p2 p3 h))) else (if p1 = 8 then (if p2 = (-1) then (K_W_hasCommand_142 n p1 p2 p3 h) else ((J_W_hasThing n p2 h).bind fun v136 =>
  if v136 = 0 then (some 0) else (K_W_hasCommand_142 n p1 p2 p3 h))) else (some 0)))))))))
set_option maxRecDepth 20000 in
set_option maxHeartbeats 4000000 in
theorem R_W_hasCommand (n : Nat) (p1 : Int32) (p2 : Int32) (p3 : Int32) (h : sHp) : sM Zc (sPi h) y_W_hasCommand prog_8_method_10_code 4 (some .boolean) rm_W_hasCommand [.ref 2, .int p1, .int p2, .int p3] h (J_W_hasCommand n p1 p2 p3 h) := by
  refine sM_of (own := "StoryStates$World") rfl (by decide) (Nat.le_of_ble_eq_true rfl) (fun M V O => ?_)
  unfold J_W_hasCommand
  refine r_lv (lv' := [(0, .ref 2), (1, .int p1), (2, .int p2), (3, .int p3)]) [0, 1, 2, 3] rfl ?_
  have hK142 : sS Zc M V (sEb (sPi h)) 142 [(0, .ref 2), (3, .int p3)] [] h (K_W_hasCommand_142 n p1 p2 p3 h ) := by
    skip
    unfold K_W_hasCommand_142
    refine r_iload_n (pc := 142) O d_W_hasCommand_142 1 rfl ?_
    refine r_iconst (pc := 143) O d_W_hasCommand_143 ic_m1 ?_
    refine r_icmp_eq (tgt := 155) (pc := 144) O d_W_hasCommand_144 (by decide) (fun q144 => ?_) (fun q144 => ?_)
    · refine r_iconst (pc := 155) O d_W_hasCommand_155 ic_1 ?_
      refine r_goto (pc := 156) O d_W_hasCommand_156 (tgt := 160) (by decide) ?_
      exact r_zret (pc := 160) O rfl d_W_hasCommand_160 nb_1
    · refine r_aload_n (pc := 147) O d_W_hasCommand_147 0 rfl ?_
      refine r_iload_n (pc := 148) O d_W_hasCommand_148 1 rfl ?_
      refine r_callVip (pc := 149) O [.int p3] rfl rfl (R_W_hasThing n p3 h) cw_W_hasCommand_149 wm_415 wm_416 rfl (Nat.le_of_ble_eq_true rfl) d_W_hasCommand_149 rfl (fun v149 => ?_)
      refine r_if_eq (tgt := 159) (pc := 152) O d_W_hasCommand_152 (by decide) (fun q152 => ?_) (fun q152 => ?_)
      · refine r_iconst (pc := 159) O d_W_hasCommand_159 ic_0 ?_
        exact r_zret (pc := 160) O rfl d_W_hasCommand_160 nb_0
      · refine r_iconst (pc := 155) O d_W_hasCommand_155 ic_1 ?_
        refine r_goto (pc := 156) O d_W_hasCommand_156 (tgt := 160) (by decide) ?_
        exact r_zret (pc := 160) O rfl d_W_hasCommand_160 nb_1
  refine r_iload_n (pc := 0) O d_W_hasCommand_0 1 rfl ?_
  refine r_ite (fun q1_0 => ?_) (fun q1_0 => ?_)
  · refine r_tin (tgt := 52) (pc := 1) O d_W_hasCommand_1 (by rw [q1_0]; decide) (by rw [q1_0]; decide) (by rw [q1_0]; rfl) (by decide) ?_
    refine r_iload_n (pc := 52) O d_W_hasCommand_52 2 rfl ?_
    refine r_iconst (pc := 53) O d_W_hasCommand_53 ic_0 ?_
    refine r_iconst (pc := 54) O d_W_hasCommand_54 ic_3 ?_
    refine r_callSip (pc := 55) O [.int p2, .int 0, .int 3] (R_S_isFrom n p2 0 3 h) cw_W_hasCommand_55 wm_312 rfl (Nat.le_of_ble_eq_true rfl) d_W_hasCommand_55 rfl (fun v55 => ?_)
    refine r_if_eq (tgt := 70) (pc := 58) O d_W_hasCommand_58 (by decide) (fun q58 => ?_) (fun q58 => ?_)
    · refine r_iconst (pc := 70) O d_W_hasCommand_70 ic_0 ?_
      exact r_zret (pc := 71) O rfl d_W_hasCommand_71 nb_0
    · refine r_iload_n (pc := 61) O d_W_hasCommand_61 3 rfl ?_
      refine r_iconst (pc := 62) O d_W_hasCommand_62 ic_m1 ?_
      refine r_icmp_ne (tgt := 70) (pc := 63) O d_W_hasCommand_63 (by decide) (fun q63 => ?_) (fun q63 => ?_)
      · refine r_iconst (pc := 70) O d_W_hasCommand_70 ic_0 ?_
        exact r_zret (pc := 71) O rfl d_W_hasCommand_71 nb_0
      · refine r_iconst (pc := 66) O d_W_hasCommand_66 ic_1 ?_
        refine r_goto (pc := 67) O d_W_hasCommand_67 (tgt := 71) (by decide) ?_
        exact r_zret (pc := 71) O rfl d_W_hasCommand_71 nb_1
  · refine r_ite (fun q1_1 => ?_) (fun q1_1 => ?_)
    · refine r_tin (tgt := 72) (pc := 1) O d_W_hasCommand_1 (by rw [q1_1]; decide) (by rw [q1_1]; decide) (by rw [q1_1]; rfl) (by decide) ?_
      refine r_aload_n (pc := 72) O d_W_hasCommand_72 0 rfl ?_
      refine r_iload_n (pc := 73) O d_W_hasCommand_73 2 rfl ?_
      refine r_callVip (pc := 74) O [.int p2] rfl rfl (R_W_hasThing n p2 h) cw_W_hasCommand_74 wm_415 wm_416 rfl (Nat.le_of_ble_eq_true rfl) d_W_hasCommand_74 rfl (fun v74 => ?_)
      refine r_if_eq (tgt := 89) (pc := 77) O d_W_hasCommand_77 (by decide) (fun q77 => ?_) (fun q77 => ?_)
      · refine r_iconst (pc := 89) O d_W_hasCommand_89 ic_0 ?_
        exact r_zret (pc := 90) O rfl d_W_hasCommand_90 nb_0
      · refine r_iload_n (pc := 80) O d_W_hasCommand_80 3 rfl ?_
        refine r_iconst (pc := 81) O d_W_hasCommand_81 ic_m1 ?_
        refine r_icmp_ne (tgt := 89) (pc := 82) O d_W_hasCommand_82 (by decide) (fun q82 => ?_) (fun q82 => ?_)
        · refine r_iconst (pc := 89) O d_W_hasCommand_89 ic_0 ?_
          exact r_zret (pc := 90) O rfl d_W_hasCommand_90 nb_0
        · refine r_iconst (pc := 85) O d_W_hasCommand_85 ic_1 ?_
          refine r_goto (pc := 86) O d_W_hasCommand_86 (tgt := 90) (by decide) ?_
          exact r_zret (pc := 90) O rfl d_W_hasCommand_90 nb_1
    · refine r_ite (fun q1_2 => ?_) (fun q1_2 => ?_)
      · refine r_tin (tgt := 72) (pc := 1) O d_W_hasCommand_1 (by rw [q1_2]; decide) (by rw [q1_2]; decide) (by rw [q1_2]; rfl) (by decide) ?_
        refine r_aload_n (pc := 72) O d_W_hasCommand_72 0 rfl ?_
        refine r_iload_n (pc := 73) O d_W_hasCommand_73 2 rfl ?_
        refine r_callVip (pc := 74) O [.int p2] rfl rfl (R_W_hasThing n p2 h) cw_W_hasCommand_74 wm_415 wm_416 rfl (Nat.le_of_ble_eq_true rfl) d_W_hasCommand_74 rfl (fun v74 => ?_)
        refine r_if_eq (tgt := 89) (pc := 77) O d_W_hasCommand_77 (by decide) (fun q77 => ?_) (fun q77 => ?_)
        · refine r_iconst (pc := 89) O d_W_hasCommand_89 ic_0 ?_
          exact r_zret (pc := 90) O rfl d_W_hasCommand_90 nb_0
        · refine r_iload_n (pc := 80) O d_W_hasCommand_80 3 rfl ?_
          refine r_iconst (pc := 81) O d_W_hasCommand_81 ic_m1 ?_
          refine r_icmp_ne (tgt := 89) (pc := 82) O d_W_hasCommand_82 (by decide) (fun q82 => ?_) (fun q82 => ?_)
          · refine r_iconst (pc := 89) O d_W_hasCommand_89 ic_0 ?_
            exact r_zret (pc := 90) O rfl d_W_hasCommand_90 nb_0
          · refine r_iconst (pc := 85) O d_W_hasCommand_85 ic_1 ?_
            refine r_goto (pc := 86) O d_W_hasCommand_86 (tgt := 90) (by decide) ?_
            exact r_zret (pc := 90) O rfl d_W_hasCommand_90 nb_1
      · refine r_ite (fun q1_3 => ?_) (fun q1_3 => ?_)
        · refine r_tin (tgt := 72) (pc := 1) O d_W_hasCommand_1 (by rw [q1_3]; decide) (by rw [q1_3]; decide) (by rw [q1_3]; rfl) (by decide) ?_
          refine r_aload_n (pc := 72) O d_W_hasCommand_72 0 rfl ?_
          refine r_iload_n (pc := 73) O d_W_hasCommand_73 2 rfl ?_
          refine r_callVip (pc := 74) O [.int p2] rfl rfl (R_W_hasThing n p2 h) cw_W_hasCommand_74 wm_415 wm_416 rfl (Nat.le_of_ble_eq_true rfl) d_W_hasCommand_74 rfl (fun v74 => ?_)
          refine r_if_eq (tgt := 89) (pc := 77) O d_W_hasCommand_77 (by decide) (fun q77 => ?_) (fun q77 => ?_)
          · refine r_iconst (pc := 89) O d_W_hasCommand_89 ic_0 ?_
            exact r_zret (pc := 90) O rfl d_W_hasCommand_90 nb_0
          · refine r_iload_n (pc := 80) O d_W_hasCommand_80 3 rfl ?_
            refine r_iconst (pc := 81) O d_W_hasCommand_81 ic_m1 ?_
            refine r_icmp_ne (tgt := 89) (pc := 82) O d_W_hasCommand_82 (by decide) (fun q82 => ?_) (fun q82 => ?_)
            · refine r_iconst (pc := 89) O d_W_hasCommand_89 ic_0 ?_
              exact r_zret (pc := 90) O rfl d_W_hasCommand_90 nb_0
            · refine r_iconst (pc := 85) O d_W_hasCommand_85 ic_1 ?_
              refine r_goto (pc := 86) O d_W_hasCommand_86 (tgt := 90) (by decide) ?_
              exact r_zret (pc := 90) O rfl d_W_hasCommand_90 nb_1
        · refine r_ite (fun q1_4 => ?_) (fun q1_4 => ?_)
          · refine r_tin (tgt := 72) (pc := 1) O d_W_hasCommand_1 (by rw [q1_4]; decide) (by rw [q1_4]; decide) (by rw [q1_4]; rfl) (by decide) ?_
            refine r_aload_n (pc := 72) O d_W_hasCommand_72 0 rfl ?_
            refine r_iload_n (pc := 73) O d_W_hasCommand_73 2 rfl ?_
            refine r_callVip (pc := 74) O [.int p2] rfl rfl (R_W_hasThing n p2 h) cw_W_hasCommand_74 wm_415 wm_416 rfl (Nat.le_of_ble_eq_true rfl) d_W_hasCommand_74 rfl (fun v74 => ?_)
            refine r_if_eq (tgt := 89) (pc := 77) O d_W_hasCommand_77 (by decide) (fun q77 => ?_) (fun q77 => ?_)
            · refine r_iconst (pc := 89) O d_W_hasCommand_89 ic_0 ?_
              exact r_zret (pc := 90) O rfl d_W_hasCommand_90 nb_0
            · refine r_iload_n (pc := 80) O d_W_hasCommand_80 3 rfl ?_
              refine r_iconst (pc := 81) O d_W_hasCommand_81 ic_m1 ?_
              refine r_icmp_ne (tgt := 89) (pc := 82) O d_W_hasCommand_82 (by decide) (fun q82 => ?_) (fun q82 => ?_)
              · refine r_iconst (pc := 89) O d_W_hasCommand_89 ic_0 ?_
                exact r_zret (pc := 90) O rfl d_W_hasCommand_90 nb_0
              · refine r_iconst (pc := 85) O d_W_hasCommand_85 ic_1 ?_
                refine r_goto (pc := 86) O d_W_hasCommand_86 (tgt := 90) (by decide) ?_
                exact r_zret (pc := 90) O rfl d_W_hasCommand_90 nb_1
          · refine r_ite (fun q1_5 => ?_) (fun q1_5 => ?_)
            · refine r_tin (tgt := 91) (pc := 1) O d_W_hasCommand_1 (by rw [q1_5]; decide) (by rw [q1_5]; decide) (by rw [q1_5]; rfl) (by decide) ?_
              refine r_aload_n (pc := 91) O d_W_hasCommand_91 0 rfl ?_
              refine r_iload_n (pc := 92) O d_W_hasCommand_92 2 rfl ?_
              refine r_callVip (pc := 93) O [.int p2] rfl rfl (R_W_hasThing n p2 h) cw_W_hasCommand_93 wm_415 wm_416 rfl (Nat.le_of_ble_eq_true rfl) d_W_hasCommand_93 rfl (fun v93 => ?_)
              refine r_if_eq (tgt := 111) (pc := 96) O d_W_hasCommand_96 (by decide) (fun q96 => ?_) (fun q96 => ?_)
              · refine r_iconst (pc := 111) O d_W_hasCommand_111 ic_0 ?_
                exact r_zret (pc := 112) O rfl d_W_hasCommand_112 nb_0
              · refine r_aload_n (pc := 99) O d_W_hasCommand_99 0 rfl ?_
                refine r_iload_n (pc := 100) O d_W_hasCommand_100 3 rfl ?_
                refine r_callVip (pc := 101) O [.int p3] rfl rfl (R_W_hasThing n p3 h) cw_W_hasCommand_101 wm_415 wm_416 rfl (Nat.le_of_ble_eq_true rfl) d_W_hasCommand_101 rfl (fun v101 => ?_)
                refine r_if_eq (tgt := 111) (pc := 104) O d_W_hasCommand_104 (by decide) (fun q104 => ?_) (fun q104 => ?_)
                · refine r_iconst (pc := 111) O d_W_hasCommand_111 ic_0 ?_
                  exact r_zret (pc := 112) O rfl d_W_hasCommand_112 nb_0
                · refine r_iconst (pc := 107) O d_W_hasCommand_107 ic_1 ?_
                  refine r_goto (pc := 108) O d_W_hasCommand_108 (tgt := 112) (by decide) ?_
                  exact r_zret (pc := 112) O rfl d_W_hasCommand_112 nb_1
            · refine r_ite (fun q1_6 => ?_) (fun q1_6 => ?_)
              · refine r_tin (tgt := 113) (pc := 1) O d_W_hasCommand_1 (by rw [q1_6]; decide) (by rw [q1_6]; decide) (by rw [q1_6]; rfl) (by decide) ?_
                refine r_iload_n (pc := 113) O d_W_hasCommand_113 2 rfl ?_
                refine r_iconst (pc := 114) O d_W_hasCommand_114 ic_m1 ?_
                refine r_icmp_ne (tgt := 127) (pc := 115) O d_W_hasCommand_115 (by decide) (fun q115 => ?_) (fun q115 => ?_)
                · refine r_iconst (pc := 127) O d_W_hasCommand_127 ic_0 ?_
                  exact r_zret (pc := 128) O rfl d_W_hasCommand_128 nb_0
                · refine r_iload_n (pc := 118) O d_W_hasCommand_118 3 rfl ?_
                  refine r_iconst (pc := 119) O d_W_hasCommand_119 ic_m1 ?_
                  refine r_icmp_ne (tgt := 127) (pc := 120) O d_W_hasCommand_120 (by decide) (fun q120 => ?_) (fun q120 => ?_)
                  · refine r_iconst (pc := 127) O d_W_hasCommand_127 ic_0 ?_
                    exact r_zret (pc := 128) O rfl d_W_hasCommand_128 nb_0
                  · refine r_iconst (pc := 123) O d_W_hasCommand_123 ic_1 ?_
                    refine r_goto (pc := 124) O d_W_hasCommand_124 (tgt := 128) (by decide) ?_
                    exact r_zret (pc := 128) O rfl d_W_hasCommand_128 nb_1
              · refine r_ite (fun q1_7 => ?_) (fun q1_7 => ?_)
                · refine r_tin (tgt := 129) (pc := 1) O d_W_hasCommand_1 (by rw [q1_7]; decide) (by rw [q1_7]; decide) (by rw [q1_7]; rfl) (by decide) ?_
                  refine r_iload_n (pc := 129) O d_W_hasCommand_129 2 rfl ?_
                  refine r_iconst (pc := 130) O d_W_hasCommand_130 ic_m1 ?_
                  refine r_icmp_eq (tgt := 142) (pc := 131) O d_W_hasCommand_131 (by decide) (fun q131 => ?_) (fun q131 => ?_)
                  · exact r_lv [0, 3] rfl (hK142 )
                  · refine r_aload_n (pc := 134) O d_W_hasCommand_134 0 rfl ?_
                    refine r_iload_n (pc := 135) O d_W_hasCommand_135 2 rfl ?_
                    refine r_callVip (pc := 136) O [.int p2] rfl rfl (R_W_hasThing n p2 h) cw_W_hasCommand_136 wm_415 wm_416 rfl (Nat.le_of_ble_eq_true rfl) d_W_hasCommand_136 rfl (fun v136 => ?_)
                    refine r_if_eq (tgt := 159) (pc := 139) O d_W_hasCommand_139 (by decide) (fun q139 => ?_) (fun q139 => ?_)
                    · refine r_iconst (pc := 159) O d_W_hasCommand_159 ic_0 ?_
                      exact r_zret (pc := 160) O rfl d_W_hasCommand_160 nb_0
                    · exact r_lv [0, 3] rfl (hK142 )
                · refine r_ite (fun q1_8 => ?_) (fun q1_8 => ?_)
                  · refine r_tin (tgt := 129) (pc := 1) O d_W_hasCommand_1 (by rw [q1_8]; decide) (by rw [q1_8]; decide) (by rw [q1_8]; rfl) (by decide) ?_
                    refine r_iload_n (pc := 129) O d_W_hasCommand_129 2 rfl ?_
                    refine r_iconst (pc := 130) O d_W_hasCommand_130 ic_m1 ?_
                    refine r_icmp_eq (tgt := 142) (pc := 131) O d_W_hasCommand_131 (by decide) (fun q131 => ?_) (fun q131 => ?_)
                    · exact r_lv [0, 3] rfl (hK142 )
                    · refine r_aload_n (pc := 134) O d_W_hasCommand_134 0 rfl ?_
                      refine r_iload_n (pc := 135) O d_W_hasCommand_135 2 rfl ?_
                      refine r_callVip (pc := 136) O [.int p2] rfl rfl (R_W_hasThing n p2 h) cw_W_hasCommand_136 wm_415 wm_416 rfl (Nat.le_of_ble_eq_true rfl) d_W_hasCommand_136 rfl (fun v136 => ?_)
                      refine r_if_eq (tgt := 159) (pc := 139) O d_W_hasCommand_139 (by decide) (fun q139 => ?_) (fun q139 => ?_)
                      · refine r_iconst (pc := 159) O d_W_hasCommand_159 ic_0 ?_
                        exact r_zret (pc := 160) O rfl d_W_hasCommand_160 nb_0
                      · exact r_lv [0, 3] rfl (hK142 )
                  · refine r_tout (tgt := 161) (pc := 1) O d_W_hasCommand_1 (by have z0 := lv_neT (a := 0) q1_0 (by decide); have z1 := lv_neT (a := 1) q1_1 (by decide); have z2 := lv_neT (a := 2) q1_2 (by decide); have z3 := lv_neT (a := 3) q1_3 (by decide); have z4 := lv_neT (a := 4) q1_4 (by decide); have z5 := lv_neT (a := 5) q1_5 (by decide); have z6 := lv_neT (a := 6) q1_6 (by decide); have z7 := lv_neT (a := 7) q1_7 (by decide); have z8 := lv_neT (a := 8) q1_8 (by decide); omega) (by decide) ?_
                    refine r_iconst (pc := 161) O d_W_hasCommand_161 ic_0 ?_
                    exact r_zret (pc := 162) O rfl d_W_hasCommand_162 nb_0
def F_W_isWalker_2 (n : Nat) (p1 : Int32) (h : sHp) (rec2 : Int32 → Option Int32) (q : Int32) : Option Int32 :=
  if (h.1 2 16) ≤ q then (some 0) else (sGd (sIn q 2) (if (h.1 17 (ix q)) = p1 then (some 1) else (rec2 (q + 1))))
def J_W_isWalker (n : Nat) (p1 : Int32) (h : sHp) : Option Int32 :=
  sFx (F_W_isWalker_2 n p1 h ) n 0
set_option maxRecDepth 20000 in
set_option maxHeartbeats 4000000 in
theorem R_W_isWalker (n : Nat) (p1 : Int32) (h : sHp) : sM Zc (sPi h) y_W_isWalker prog_8_method_11_code 3 (some .boolean) rm_W_isWalker [.ref 2, .int p1] h (J_W_isWalker n p1 h) := by
  refine sM_of (own := "StoryStates$World") rfl (by decide) (Nat.le_of_ble_eq_true rfl) (fun M V O => ?_)
  unfold J_W_isWalker
  refine r_lv (lv' := [(0, .ref 2), (1, .int p1)]) [0, 1] rfl ?_
  have hL2 : ∀ (q : Int32), sS Zc M V (sEb (sPi h)) 2 [(0, .ref 2), (1, .int p1), (2, .int q)] [] h (sFx (F_W_isWalker_2 n p1 h ) n q) := by
    skip
    refine r_fx (fun q => [(0, .ref 2), (1, .int p1), (2, .int q)]) (fun q => h) (F_W_isWalker_2 n p1 h ) (fun rec2 hrec2 q => ?_) n
    skip
    show sS Zc M V (sEb (sPi h)) 2 [(0, .ref 2), (1, .int p1), (2, .int q)] [] h _
    unfold F_W_isWalker_2
    try dsimp only
    refine r_iload_n (pc := 2) O d_W_isWalker_2 2 rfl ?_
    refine r_aload_n (pc := 3) O d_W_isWalker_3 0 rfl ?_
    refine r_getI (x := (h.1 2 16)) (pc := 4) O gf_c_W_69_2 d_W_isWalker_4 rfl ?_
    refine r_icmp_ge (tgt := 28) (pc := 7) O d_W_isWalker_7 (by decide) (fun q7 => ?_) (fun q7 => ?_)
    · refine r_iconst (pc := 28) O d_W_isWalker_28 ic_0 ?_
      exact r_zret (pc := 29) O rfl d_W_isWalker_29 nb_0
    · refine r_aload_n (pc := 10) O d_W_isWalker_10 0 rfl ?_
      refine r_getR (pc := 11) O gf_c_W_41_2 d_W_isWalker_11 ?_
      refine r_iload_n (pc := 14) O d_W_isWalker_14 2 rfl ?_
      refine r_iald (x := (h.1 17 (ix q))) (pc := 15) O rfl d_W_isWalker_15 rfl ?_
      refine r_iload_n (pc := 16) O d_W_isWalker_16 1 rfl ?_
      refine r_icmp_ne (tgt := 22) (pc := 17) O d_W_isWalker_17 (by decide) (fun q17 => ?_) (fun q17 => ?_)
      · refine r_iinc (lv' := [(2, .int (q + 1)), (0, .ref 2), (1, .int p1)]) (pc := 22) O d_W_isWalker_22 2 rfl (congrArg (HAdd.hAdd _) ic_1) (by decide) rfl ?_
        refine r_goto (pc := 25) O d_W_isWalker_25 (tgt := 2) (by decide) ?_
        exact r_lv [1, 2, 0] rfl (hrec2 (q + 1))
      · refine r_iconst (pc := 20) O d_W_isWalker_20 ic_1 ?_
        exact r_zret (pc := 21) O rfl d_W_isWalker_21 nb_1
  refine r_iconst (pc := 0) O d_W_isWalker_0 ic_0 ?_
  refine r_istore_n (lv' := [(2, .int 0), (0, .ref 2), (1, .int p1)]) (pc := 1) O d_W_isWalker_1 rfl (by decide) rfl ?_
  exact r_lv [1, 2, 0] rfl (hL2 0)
def J_W_setExit (n : Nat) (p1 : Int32) (p2 : Int32) (p3 : Int32) (p4 : Int32) (h : sHp) : Option sHp :=
  sGd (sIn ((p1 * 4) + p2) 24) (sGd (sIn ((p1 * 4) + p2) 24) (some (pI (pI h 10 (ix ((p1 * 4) + p2)) p3) 11 (ix ((p1 * 4) + p2)) p4)))
set_option maxRecDepth 20000 in
set_option maxHeartbeats 4000000 in
theorem R_W_setExit (n : Nat) (p1 : Int32) (p2 : Int32) (p3 : Int32) (p4 : Int32) (h : sHp) : sM Zc sOv y_W_setExit prog_8_method_13_code 5 none rm_W_setExit [.ref 2, .int p1, .int p2, .int p3, .int p4] h (J_W_setExit n p1 p2 p3 p4 h) := by
  refine sM_of (own := "StoryStates$World") rfl (by decide) (Nat.le_of_ble_eq_true rfl) (fun M V O => ?_)
  unfold J_W_setExit
  refine r_lv (lv' := [(0, .ref 2), (1, .int p1), (2, .int p2), (3, .int p3), (4, .int p4)]) [0, 1, 2, 3, 4] rfl ?_
  refine r_aload_n (pc := 0) O d_W_setExit_0 0 rfl ?_
  refine r_getR (pc := 1) O gf_c_W_9_2 d_W_setExit_1 ?_
  refine r_iload_n (pc := 4) O d_W_setExit_4 1 rfl ?_
  refine r_iconst (pc := 5) O d_W_setExit_5 ic_4 ?_
  refine r_imul (pc := 6) O d_W_setExit_6 ?_
  refine r_iload_n (pc := 7) O d_W_setExit_7 2 rfl ?_
  refine r_iadd (pc := 8) O d_W_setExit_8 ?_
  refine r_iload_n (pc := 9) O d_W_setExit_9 3 rfl ?_
  refine r_iast (pc := 10) O rfl d_W_setExit_10 ?_
  refine r_aload_n (pc := 11) O d_W_setExit_11 0 rfl ?_
  refine r_getR (pc := 12) O gf_c_W_15_2 d_W_setExit_12 ?_
  refine r_iload_n (pc := 15) O d_W_setExit_15 1 rfl ?_
  refine r_iconst (pc := 16) O d_W_setExit_16 ic_4 ?_
  refine r_imul (pc := 17) O d_W_setExit_17 ?_
  refine r_iload_n (pc := 18) O d_W_setExit_18 2 rfl ?_
  refine r_iadd (pc := 19) O d_W_setExit_19 ?_
  refine r_iload (pc := 20) O d_W_setExit_20 4 rfl ?_
  refine r_iast (pc := 22) O rfl d_W_setExit_22 ?_
  exact r_vret (pc := 23) O rfl d_W_setExit_23
def F_W_addRoom_2 (n : Nat) (rec2 : Int32 × sHp → Option (Int32 × sHp)) (q : Int32 × sHp) : Option (Int32 × sHp) :=
  if 4 ≤ q.1 then (some ((q.2.1 2 12), (pI q.2 2 12 ((q.2.1 2 12) + 1)))) else ((J_W_setExit n (q.2.1 2 12) q.1 (-1) (-1) q.2).bind fun v15 =>
  rec2 ((q.1 + 1), v15))
def J_W_addRoom (n : Nat)  (h : sHp) : Option (Int32 × sHp) :=
  sFx (F_W_addRoom_2 n ) n (0, h)
set_option maxRecDepth 20000 in
set_option maxHeartbeats 4000000 in
theorem R_W_addRoom (n : Nat)  (h : sHp) : sM Zc sOi y_W_addRoom prog_8_method_12_code 2 (some .int) rm_W_addRoom [.ref 2] h (J_W_addRoom n  h) := by
  refine sM_of (own := "StoryStates$World") rfl (by decide) (Nat.le_of_ble_eq_true rfl) (fun M V O => ?_)
  unfold J_W_addRoom
  refine r_lv (lv' := [(0, .ref 2)]) [0] rfl ?_
  have hL2 : ∀ (q : Int32 × sHp), sS Zc M V (sEb sOi) 2 [(0, .ref 2), (1, .int q.1)] [] q.2 (sFx (F_W_addRoom_2 n ) n q) := by
    skip
    refine r_fx (fun q => [(0, .ref 2), (1, .int q.1)]) (fun q => q.2) (F_W_addRoom_2 n ) (fun rec2 hrec2 q => ?_) n
    obtain ⟨qv0, qv1⟩ := q
    show sS Zc M V (sEb sOi) 2 [(0, .ref 2), (1, .int qv0)] [] qv1 _
    unfold F_W_addRoom_2
    try dsimp only
    refine r_iload_n (pc := 2) O d_W_addRoom_2 1 rfl ?_
    refine r_iconst (pc := 3) O d_W_addRoom_3 ic_4 ?_
    refine r_icmp_ge (tgt := 24) (pc := 4) O d_W_addRoom_4 (by decide) (fun q4 => ?_) (fun q4 => ?_)
    · refine r_aload_n (pc := 24) O d_W_addRoom_24 0 rfl ?_
      refine r_dup (pc := 25) O d_W_addRoom_25 rfl ?_
      refine r_getI (x := (qv1.1 2 12)) (pc := 26) O gf_c_W_53_2 d_W_addRoom_26 rfl ?_
      refine r_dup_x1 (pc := 29) O d_W_addRoom_29 rfl rfl ?_
      refine r_iconst (pc := 30) O d_W_addRoom_30 ic_1 ?_
      refine r_iadd (pc := 31) O d_W_addRoom_31 ?_
      refine r_putI (pc := 32) O pf_c_W_53_2 d_W_addRoom_32 ?_
      exact r_iret (pc := 35) O rfl d_W_addRoom_35
    · refine r_aload_n (pc := 7) O d_W_addRoom_7 0 rfl ?_
      refine r_aload_n (pc := 8) O d_W_addRoom_8 0 rfl ?_
      refine r_getI (x := (qv1.1 2 12)) (pc := 9) O gf_c_W_53_2 d_W_addRoom_9 rfl ?_
      refine r_iload_n (pc := 12) O d_W_addRoom_12 1 rfl ?_
      refine r_iconst (pc := 13) O d_W_addRoom_13 ic_m1 ?_
      refine r_iconst (pc := 14) O d_W_addRoom_14 ic_m1 ?_
      refine r_callVv (pc := 15) O [.int (qv1.1 2 12), .int qv0, .int (-1), .int (-1)] rfl rfl (R_W_setExit n (qv1.1 2 12) qv0 (-1) (-1) qv1) cw_W_addRoom_15 wm_397 wm_398 rfl (Nat.le_of_ble_eq_true rfl) d_W_addRoom_15 rfl (fun v15 => ?_)
      refine r_iinc (lv' := [(1, .int (qv0 + 1)), (0, .ref 2)]) (pc := 18) O d_W_addRoom_18 1 rfl (congrArg (HAdd.hAdd _) ic_1) (by decide) rfl ?_
      refine r_goto (pc := 21) O d_W_addRoom_21 (tgt := 2) (by decide) ?_
      exact r_lv [1, 0] rfl (hrec2 ((qv0 + 1), v15))
  refine r_iconst (pc := 0) O d_W_addRoom_0 ic_0 ?_
  refine r_istore_n (lv' := [(1, .int 0), (0, .ref 2)]) (pc := 1) O d_W_addRoom_1 rfl (by decide) rfl ?_
  exact r_lv [1, 0] rfl (hL2 (0, h))
def J_W_addThing (n : Nat) (p1 : Int32) (p2 : Int32) (h : sHp) : Option (Int32 × sHp) :=
  sGd (sIn (h.1 2 13) 6) (sGd (sIn (h.1 2 13) 6) (some ((h.1 2 13), (pI (pI (pI h 12 (ix (h.1 2 13)) p1) 13 (ix (h.1 2 13)) p2) 2 13 ((h.1 2 13) + 1)))))
set_option maxRecDepth 20000 in
set_option maxHeartbeats 4000000 in
theorem R_W_addThing (n : Nat) (p1 : Int32) (p2 : Int32) (h : sHp) : sM Zc sOi y_W_addThing prog_8_method_14_code 3 (some .int) rm_W_addThing [.ref 2, .int p1, .int p2] h (J_W_addThing n p1 p2 h) := by
  refine sM_of (own := "StoryStates$World") rfl (by decide) (Nat.le_of_ble_eq_true rfl) (fun M V O => ?_)
  unfold J_W_addThing
  refine r_lv (lv' := [(0, .ref 2), (1, .int p1), (2, .int p2)]) [0, 1, 2] rfl ?_
  refine r_aload_n (pc := 0) O d_W_addThing_0 0 rfl ?_
  refine r_getR (pc := 1) O gf_c_W_18_2 d_W_addThing_1 ?_
  refine r_aload_n (pc := 4) O d_W_addThing_4 0 rfl ?_
  refine r_getI (x := (h.1 2 13)) (pc := 5) O gf_c_W_57_2 d_W_addThing_5 rfl ?_
  refine r_iload_n (pc := 8) O d_W_addThing_8 1 rfl ?_
  refine r_iast (pc := 9) O rfl d_W_addThing_9 ?_
  refine r_aload_n (pc := 10) O d_W_addThing_10 0 rfl ?_
  refine r_getR (pc := 11) O gf_c_W_21_2 d_W_addThing_11 ?_
  refine r_aload_n (pc := 14) O d_W_addThing_14 0 rfl ?_
  refine r_getI (x := (h.1 2 13)) (pc := 15) O gf_c_W_57_2 d_W_addThing_15 rfl ?_
  refine r_iload_n (pc := 18) O d_W_addThing_18 2 rfl ?_
  refine r_iast (pc := 19) O rfl d_W_addThing_19 ?_
  refine r_aload_n (pc := 20) O d_W_addThing_20 0 rfl ?_
  refine r_dup (pc := 21) O d_W_addThing_21 rfl ?_
  refine r_getI (x := (h.1 2 13)) (pc := 22) O gf_c_W_57_2 d_W_addThing_22 rfl ?_
  refine r_dup_x1 (pc := 25) O d_W_addThing_25 rfl rfl ?_
  refine r_iconst (pc := 26) O d_W_addThing_26 ic_1 ?_
  refine r_iadd (pc := 27) O d_W_addThing_27 ?_
  refine r_putI (pc := 28) O pf_c_W_57_2 d_W_addThing_28 ?_
  exact r_iret (pc := 31) O rfl d_W_addThing_31
def J_W_addNumber (n : Nat) (p1 : Int32) (p2 : Int32) (h : sHp) : Option (Int32 × sHp) :=
  sGd (sIn (h.1 2 14) 3) (sGd (sIn (h.1 2 14) 3) (some ((h.1 2 14), (pI (pI (pI h 14 (ix (h.1 2 14)) p1) 15 (ix (h.1 2 14)) p2) 2 14 ((h.1 2 14) + 1)))))
set_option maxRecDepth 20000 in
set_option maxHeartbeats 4000000 in
theorem R_W_addNumber (n : Nat) (p1 : Int32) (p2 : Int32) (h : sHp) : sM Zc sOi y_W_addNumber prog_8_method_15_code 3 (some .int) rm_W_addNumber [.ref 2, .int p1, .int p2] h (J_W_addNumber n p1 p2 h) := by
  refine sM_of (own := "StoryStates$World") rfl (by decide) (Nat.le_of_ble_eq_true rfl) (fun M V O => ?_)
  unfold J_W_addNumber
  refine r_lv (lv' := [(0, .ref 2), (1, .int p1), (2, .int p2)]) [0, 1, 2] rfl ?_
  refine r_aload_n (pc := 0) O d_W_addNumber_0 0 rfl ?_
  refine r_getR (pc := 1) O gf_c_W_24_2 d_W_addNumber_1 ?_
  refine r_aload_n (pc := 4) O d_W_addNumber_4 0 rfl ?_
  refine r_getI (x := (h.1 2 14)) (pc := 5) O gf_c_W_60_2 d_W_addNumber_5 rfl ?_
  refine r_iload_n (pc := 8) O d_W_addNumber_8 1 rfl ?_
  refine r_iast (pc := 9) O rfl d_W_addNumber_9 ?_
  refine r_aload_n (pc := 10) O d_W_addNumber_10 0 rfl ?_
  refine r_getR (pc := 11) O gf_c_W_27_2 d_W_addNumber_11 ?_
  refine r_aload_n (pc := 14) O d_W_addNumber_14 0 rfl ?_
  refine r_getI (x := (h.1 2 14)) (pc := 15) O gf_c_W_60_2 d_W_addNumber_15 rfl ?_
  refine r_iload_n (pc := 18) O d_W_addNumber_18 2 rfl ?_
  refine r_iast (pc := 19) O rfl d_W_addNumber_19 ?_
  refine r_aload_n (pc := 20) O d_W_addNumber_20 0 rfl ?_
  refine r_dup (pc := 21) O d_W_addNumber_21 rfl ?_
  refine r_getI (x := (h.1 2 14)) (pc := 22) O gf_c_W_60_2 d_W_addNumber_22 rfl ?_
  refine r_dup_x1 (pc := 25) O d_W_addNumber_25 rfl rfl ?_
  refine r_iconst (pc := 26) O d_W_addNumber_26 ic_1 ?_
  refine r_iadd (pc := 27) O d_W_addNumber_27 ?_
  refine r_putI (pc := 28) O pf_c_W_60_2 d_W_addNumber_28 ?_
  exact r_iret (pc := 31) O rfl d_W_addNumber_31
def J_W_addEnding (n : Nat) (p1 : Int32) (h : sHp) : Option (Int32 × sHp) :=
  sGd (sIn (h.1 2 15) 4) (some ((h.1 2 15), (pI (pI h 16 (ix (h.1 2 15)) (vp_nar .boolean p1)) 2 15 ((h.1 2 15) + 1))))
set_option maxRecDepth 20000 in
set_option maxHeartbeats 4000000 in
theorem R_W_addEnding (n : Nat) (p1 : Int32) (h : sHp) : sM Zc sOi y_W_addEnding prog_8_method_16_code 2 (some .int) rm_W_addEnding [.ref 2, .int p1] h (J_W_addEnding n p1 h) := by
  refine sM_of (own := "StoryStates$World") rfl (by decide) (Nat.le_of_ble_eq_true rfl) (fun M V O => ?_)
  unfold J_W_addEnding
  refine r_lv (lv' := [(0, .ref 2), (1, .int p1)]) [0, 1] rfl ?_
  refine r_aload_n (pc := 0) O d_W_addEnding_0 0 rfl ?_
  refine r_getR (pc := 1) O gf_c_W_30_2 d_W_addEnding_1 ?_
  refine r_aload_n (pc := 4) O d_W_addEnding_4 0 rfl ?_
  refine r_getI (x := (h.1 2 15)) (pc := 5) O gf_c_W_63_2 d_W_addEnding_5 rfl ?_
  refine r_iload_n (pc := 8) O d_W_addEnding_8 1 rfl ?_
  refine r_zast (pc := 9) O rfl d_W_addEnding_9 rfl ?_
  refine r_aload_n (pc := 10) O d_W_addEnding_10 0 rfl ?_
  refine r_dup (pc := 11) O d_W_addEnding_11 rfl ?_
  refine r_getI (x := (h.1 2 15)) (pc := 12) O gf_c_W_63_2 d_W_addEnding_12 rfl ?_
  refine r_dup_x1 (pc := 15) O d_W_addEnding_15 rfl rfl ?_
  refine r_iconst (pc := 16) O d_W_addEnding_16 ic_1 ?_
  refine r_iadd (pc := 17) O d_W_addEnding_17 ?_
  refine r_putI (pc := 18) O pf_c_W_63_2 d_W_addEnding_18 ?_
  exact r_iret (pc := 21) O rfl d_W_addEnding_21
def J_W_addWalker (n : Nat) (p1 : Int32) (p2 : Int32) (p3 : Int32) (p4 : Int32) (h : sHp) : Option sHp :=
  sGd (sIn (h.1 2 16) 2) (sGd (sIn ((h.1 2 16) * 3) 6) (sGd (sIn (((h.1 2 16) * 3) + 1) 6) (sGd (sIn (((h.1 2 16) * 3) + 2) 6) (sGd (sIn p1 6) (some (pI (pI (pI (pI (pI (pI h 17 (ix (h.1 2 16)) p1) 18 (ix ((h.1 2 16) * 3)) p2) 18 (ix (((h.1 2 16) * 3) + 1)) p3) 18 (ix (((h.1 2 16) * 3) + 2)) p4) 12 (ix p1) p2) 2 16 ((h.1 2 16) + 1)))))))
set_option maxRecDepth 20000 in
set_option maxHeartbeats 4000000 in
theorem R_W_addWalker (n : Nat) (p1 : Int32) (p2 : Int32) (p3 : Int32) (p4 : Int32) (h : sHp) : sM Zc sOv y_W_addWalker prog_8_method_17_code 5 none rm_W_addWalker [.ref 2, .int p1, .int p2, .int p3, .int p4] h (J_W_addWalker n p1 p2 p3 p4 h) := by
  refine sM_of (own := "StoryStates$World") rfl (by decide) (Nat.le_of_ble_eq_true rfl) (fun M V O => ?_)
  unfold J_W_addWalker
  refine r_lv (lv' := [(0, .ref 2), (1, .int p1), (2, .int p2), (3, .int p3), (4, .int p4)]) [0, 1, 2, 3, 4] rfl ?_
  refine r_aload_n (pc := 0) O d_W_addWalker_0 0 rfl ?_
  refine r_getR (pc := 1) O gf_c_W_41_2 d_W_addWalker_1 ?_
  refine r_aload_n (pc := 4) O d_W_addWalker_4 0 rfl ?_
  refine r_getI (x := (h.1 2 16)) (pc := 5) O gf_c_W_69_2 d_W_addWalker_5 rfl ?_
  refine r_iload_n (pc := 8) O d_W_addWalker_8 1 rfl ?_
  refine r_iast (pc := 9) O rfl d_W_addWalker_9 ?_
  refine r_aload_n (pc := 10) O d_W_addWalker_10 0 rfl ?_
  refine r_getR (pc := 11) O gf_c_W_44_2 d_W_addWalker_11 ?_
  refine r_aload_n (pc := 14) O d_W_addWalker_14 0 rfl ?_
  refine r_getI (x := (h.1 2 16)) (pc := 15) O gf_c_W_69_2 d_W_addWalker_15 rfl ?_
  refine r_iconst (pc := 18) O d_W_addWalker_18 ic_3 ?_
  refine r_imul (pc := 19) O d_W_addWalker_19 ?_
  refine r_iload_n (pc := 20) O d_W_addWalker_20 2 rfl ?_
  refine r_iast (pc := 21) O rfl d_W_addWalker_21 ?_
  refine r_aload_n (pc := 22) O d_W_addWalker_22 0 rfl ?_
  refine r_getR (pc := 23) O gf_c_W_44_2 d_W_addWalker_23 ?_
  refine r_aload_n (pc := 26) O d_W_addWalker_26 0 rfl ?_
  refine r_getI (x := (h.1 2 16)) (pc := 27) O gf_c_W_69_2 d_W_addWalker_27 rfl ?_
  refine r_iconst (pc := 30) O d_W_addWalker_30 ic_3 ?_
  refine r_imul (pc := 31) O d_W_addWalker_31 ?_
  refine r_iconst (pc := 32) O d_W_addWalker_32 ic_1 ?_
  refine r_iadd (pc := 33) O d_W_addWalker_33 ?_
  refine r_iload_n (pc := 34) O d_W_addWalker_34 3 rfl ?_
  refine r_iast (pc := 35) O rfl d_W_addWalker_35 ?_
  refine r_aload_n (pc := 36) O d_W_addWalker_36 0 rfl ?_
  refine r_getR (pc := 37) O gf_c_W_44_2 d_W_addWalker_37 ?_
  refine r_aload_n (pc := 40) O d_W_addWalker_40 0 rfl ?_
  refine r_getI (x := (h.1 2 16)) (pc := 41) O gf_c_W_69_2 d_W_addWalker_41 rfl ?_
  refine r_iconst (pc := 44) O d_W_addWalker_44 ic_3 ?_
  refine r_imul (pc := 45) O d_W_addWalker_45 ?_
  refine r_iconst (pc := 46) O d_W_addWalker_46 ic_2 ?_
  refine r_iadd (pc := 47) O d_W_addWalker_47 ?_
  refine r_iload (pc := 48) O d_W_addWalker_48 4 rfl ?_
  refine r_iast (pc := 50) O rfl d_W_addWalker_50 ?_
  refine r_aload_n (pc := 51) O d_W_addWalker_51 0 rfl ?_
  refine r_getR (pc := 52) O gf_c_W_18_2 d_W_addWalker_52 ?_
  refine r_iload_n (pc := 55) O d_W_addWalker_55 1 rfl ?_
  refine r_iload_n (pc := 56) O d_W_addWalker_56 2 rfl ?_
  refine r_iast (pc := 57) O rfl d_W_addWalker_57 ?_
  refine r_aload_n (pc := 58) O d_W_addWalker_58 0 rfl ?_
  refine r_dup (pc := 59) O d_W_addWalker_59 rfl ?_
  refine r_getI (x := (h.1 2 16)) (pc := 60) O gf_c_W_69_2 d_W_addWalker_60 rfl ?_
  refine r_iconst (pc := 63) O d_W_addWalker_63 ic_1 ?_
  refine r_iadd (pc := 64) O d_W_addWalker_64 ?_
  refine r_putI (pc := 65) O pf_c_W_69_2 d_W_addWalker_65 ?_
  exact r_vret (pc := 68) O rfl d_W_addWalker_68
def J_W_addTimer (n : Nat) (p1 : Int32) (p2 : Int32) (h : sHp) : Option sHp :=
  sGd (sIn (h.1 2 17) 2) (sGd (sIn (h.1 2 17) 2) (sGd (sIn p1 12) (some (pI (pI (pI (pI h 19 (ix (h.1 2 17)) p1) 20 (ix (h.1 2 17)) p2) 25 (ix p1) 1) 2 17 ((h.1 2 17) + 1)))))
set_option maxRecDepth 20000 in
set_option maxHeartbeats 4000000 in
theorem R_W_addTimer (n : Nat) (p1 : Int32) (p2 : Int32) (h : sHp) : sM Zc sOv y_W_addTimer prog_8_method_18_code 3 none rm_W_addTimer [.ref 2, .int p1, .int p2] h (J_W_addTimer n p1 p2 h) := by
  refine sM_of (own := "StoryStates$World") rfl (by decide) (Nat.le_of_ble_eq_true rfl) (fun M V O => ?_)
  unfold J_W_addTimer
  refine r_lv (lv' := [(0, .ref 2), (1, .int p1), (2, .int p2)]) [0, 1, 2] rfl ?_
  refine r_aload_n (pc := 0) O d_W_addTimer_0 0 rfl ?_
  refine r_getR (pc := 1) O gf_c_W_47_2 d_W_addTimer_1 ?_
  refine r_aload_n (pc := 4) O d_W_addTimer_4 0 rfl ?_
  refine r_getI (x := (h.1 2 17)) (pc := 5) O gf_c_W_72_2 d_W_addTimer_5 rfl ?_
  refine r_iload_n (pc := 8) O d_W_addTimer_8 1 rfl ?_
  refine r_iast (pc := 9) O rfl d_W_addTimer_9 ?_
  refine r_aload_n (pc := 10) O d_W_addTimer_10 0 rfl ?_
  refine r_getR (pc := 11) O gf_c_W_50_2 d_W_addTimer_11 ?_
  refine r_aload_n (pc := 14) O d_W_addTimer_14 0 rfl ?_
  refine r_getI (x := (h.1 2 17)) (pc := 15) O gf_c_W_72_2 d_W_addTimer_15 rfl ?_
  refine r_iload_n (pc := 18) O d_W_addTimer_18 2 rfl ?_
  refine r_iast (pc := 19) O rfl d_W_addTimer_19 ?_
  refine r_aload_n (pc := 20) O d_W_addTimer_20 0 rfl ?_
  refine r_getR (pc := 21) O gf_c_W_37_2 d_W_addTimer_21 ?_
  refine r_getR (pc := 24) O gf_c_W_93_3 d_W_addTimer_24 ?_
  refine r_iload_n (pc := 27) O d_W_addTimer_27 1 rfl ?_
  refine r_iconst (pc := 28) O d_W_addTimer_28 ic_1 ?_
  refine r_zast (pc := 29) O rfl d_W_addTimer_29 nz_1 ?_
  refine r_aload_n (pc := 30) O d_W_addTimer_30 0 rfl ?_
  refine r_dup (pc := 31) O d_W_addTimer_31 rfl ?_
  refine r_getI (x := (h.1 2 17)) (pc := 32) O gf_c_W_72_2 d_W_addTimer_32 rfl ?_
  refine r_iconst (pc := 35) O d_W_addTimer_35 ic_1 ?_
  refine r_iadd (pc := 36) O d_W_addTimer_36 ?_
  refine r_putI (pc := 37) O pf_c_W_72_2 d_W_addTimer_37 ?_
  exact r_vret (pc := 40) O rfl d_W_addTimer_40
def J_B_write (n : Nat) (p0 : Int64) (p2 : Int32) (p3 : Int32) (p4 : Int32) (h : sHp) : Option Int64 :=
  some ((p0 &&& ((jLshl (Int32.toInt64 p3) p2) ^^^ (-1))) ||| (jLshl (Int32.toInt64 (p4 &&& p3)) p2))
set_option maxRecDepth 20000 in
set_option maxHeartbeats 4000000 in
theorem R_B_write (n : Nat) (p0 : Int64) (p2 : Int32) (p3 : Int32) (p4 : Int32) (h : sHp) : sM Zc (sPl h) y_B_write prog_3_method_19_code 5 (some .long) rm_B_write [.long p0, .int p2, .int p3, .int p4] h (J_B_write n p0 p2 p3 p4 h) := by
  refine sM_of (own := "StoryStates$Bits") rfl (by decide) (Nat.le_of_ble_eq_true rfl) (fun M V O => ?_)
  unfold J_B_write
  refine r_lv (lv' := [(0, .long p0), (2, .int p2), (3, .int p3), (4, .int p4)]) [0, 1, 2, 3] rfl ?_
  refine r_lload_n (pc := 0) O d_B_write_0 0 rfl ?_
  refine r_iload_n (pc := 1) O d_B_write_1 2 rfl ?_
  refine r_i2l (pc := 2) O d_B_write_2 ?_
  refine r_iload_n (pc := 3) O d_B_write_3 1 rfl ?_
  refine r_lshl (pc := 4) O d_B_write_4 ?_
  refine r_ldc2 (pc := 5) O d_B_write_5 wm_293 ?_
  refine r_lxor (pc := 8) O d_B_write_8 ?_
  refine r_land (pc := 9) O d_B_write_9 ?_
  refine r_iload (pc := 10) O d_B_write_10 3 rfl ?_
  refine r_iload_n (pc := 12) O d_B_write_12 2 rfl ?_
  refine r_iand (pc := 13) O d_B_write_13 ?_
  refine r_i2l (pc := 14) O d_B_write_14 ?_
  refine r_iload_n (pc := 15) O d_B_write_15 1 rfl ?_
  refine r_lshl (pc := 16) O d_B_write_16 ?_
  refine r_lor (pc := 17) O d_B_write_17 ?_
  exact r_lret (pc := 18) O rfl d_B_write_18
def J_B_withPlace (n : Nat) (p0 : Int64) (p2 : Int32) (p3 : Int32) (h : sHp) : Option Int64 :=
  (J_B_write n p0 (3 + (4 * p2)) 15 p3 h).bind fun v9 =>
  some v9
set_option maxRecDepth 20000 in
set_option maxHeartbeats 4000000 in
theorem R_B_withPlace (n : Nat) (p0 : Int64) (p2 : Int32) (p3 : Int32) (h : sHp) : sM Zc (sPl h) y_B_withPlace prog_3_method_5_code 4 (some .long) rm_B_withPlace [.long p0, .int p2, .int p3] h (J_B_withPlace n p0 p2 p3 h) := by
  refine sM_of (own := "StoryStates$Bits") rfl (by decide) (Nat.le_of_ble_eq_true rfl) (fun M V O => ?_)
  unfold J_B_withPlace
  refine r_lv (lv' := [(0, .long p0), (2, .int p2), (3, .int p3)]) [0, 1, 2] rfl ?_
  refine r_lload_n (pc := 0) O d_B_withPlace_0 0 rfl ?_
  refine r_iconst (pc := 1) O d_B_withPlace_1 ic_3 ?_
  refine r_iconst (pc := 2) O d_B_withPlace_2 ic_4 ?_
  refine r_iload_n (pc := 3) O d_B_withPlace_3 1 rfl ?_
  refine r_imul (pc := 4) O d_B_withPlace_4 ?_
  refine r_iadd (pc := 5) O d_B_withPlace_5 ?_
  refine r_bipush (pc := 6) O d_B_withPlace_6 bc_15 ?_
  refine r_iload_n (pc := 8) O d_B_withPlace_8 2 rfl ?_
  refine r_callSlp (pc := 9) O [.long p0, .int (3 + (4 * p2)), .int 15, .int p3] (R_B_write n p0 (3 + (4 * p2)) 15 p3 h) cw_B_withPlace_9 wm_291 rfl (Nat.le_of_ble_eq_true rfl) d_B_withPlace_9 rfl (fun v9 => ?_)
  exact r_lret (pc := 12) O rfl d_B_withPlace_12
def J_B_withOpen (n : Nat) (p0 : Int64) (p2 : Int32) (p3 : Int32) (h : sHp) : Option Int64 :=
  (J_B_write n p0 (27 + p2) 1 p3 h).bind fun v7 =>
  some v7
set_option maxRecDepth 20000 in
set_option maxHeartbeats 4000000 in
theorem R_B_withOpen (n : Nat) (p0 : Int64) (p2 : Int32) (p3 : Int32) (h : sHp) : sM Zc (sPl h) y_B_withOpen prog_3_method_7_code 4 (some .long) rm_B_withOpen [.long p0, .int p2, .int p3] h (J_B_withOpen n p0 p2 p3 h) := by
  refine sM_of (own := "StoryStates$Bits") rfl (by decide) (Nat.le_of_ble_eq_true rfl) (fun M V O => ?_)
  unfold J_B_withOpen
  refine r_lv (lv' := [(0, .long p0), (2, .int p2), (3, .int p3)]) [0, 1, 2] rfl ?_
  refine r_lload_n (pc := 0) O d_B_withOpen_0 0 rfl ?_
  refine r_bipush (pc := 1) O d_B_withOpen_1 bc_27 ?_
  refine r_iload_n (pc := 3) O d_B_withOpen_3 1 rfl ?_
  refine r_iadd (pc := 4) O d_B_withOpen_4 ?_
  refine r_iconst (pc := 5) O d_B_withOpen_5 ic_1 ?_
  refine r_iload_n (pc := 6) O d_B_withOpen_6 2 rfl ?_
  refine r_callSlp (pc := 7) O [.long p0, .int (27 + p2), .int 1, .int p3] (R_B_write n p0 (27 + p2) 1 p3 h) cw_B_withOpen_7 wm_291 rfl (Nat.le_of_ble_eq_true rfl) d_B_withOpen_7 rfl (fun v7 => ?_)
  exact r_lret (pc := 10) O rfl d_B_withOpen_10
def J_B_withAmount (n : Nat) (p0 : Int64) (p2 : Int32) (p3 : Int32) (h : sHp) : Option Int64 :=
  (J_B_write n p0 (33 + (3 * p2)) 7 p3 h).bind fun v10 =>
  some v10
set_option maxRecDepth 20000 in
set_option maxHeartbeats 4000000 in
theorem R_B_withAmount (n : Nat) (p0 : Int64) (p2 : Int32) (p3 : Int32) (h : sHp) : sM Zc (sPl h) y_B_withAmount prog_3_method_9_code 4 (some .long) rm_B_withAmount [.long p0, .int p2, .int p3] h (J_B_withAmount n p0 p2 p3 h) := by
  refine sM_of (own := "StoryStates$Bits") rfl (by decide) (Nat.le_of_ble_eq_true rfl) (fun M V O => ?_)
  unfold J_B_withAmount
  refine r_lv (lv' := [(0, .long p0), (2, .int p2), (3, .int p3)]) [0, 1, 2] rfl ?_
  refine r_lload_n (pc := 0) O d_B_withAmount_0 0 rfl ?_
  refine r_bipush (pc := 1) O d_B_withAmount_1 bc_33 ?_
  refine r_iconst (pc := 3) O d_B_withAmount_3 ic_3 ?_
  refine r_iload_n (pc := 4) O d_B_withAmount_4 1 rfl ?_
  refine r_imul (pc := 5) O d_B_withAmount_5 ?_
  refine r_iadd (pc := 6) O d_B_withAmount_6 ?_
  refine r_bipush (pc := 7) O d_B_withAmount_7 bc_7 ?_
  refine r_iload_n (pc := 9) O d_B_withAmount_9 2 rfl ?_
  refine r_callSlp (pc := 10) O [.long p0, .int (33 + (3 * p2)), .int 7, .int p3] (R_B_write n p0 (33 + (3 * p2)) 7 p3 h) cw_B_withAmount_10 wm_291 rfl (Nat.le_of_ble_eq_true rfl) d_B_withAmount_10 rfl (fun v10 => ?_)
  exact r_lret (pc := 13) O rfl d_B_withAmount_13
def J_B_withCount (n : Nat) (p0 : Int64) (p2 : Int32) (p3 : Int32) (h : sHp) : Option Int64 :=
  (J_B_write n p0 (46 + (4 * p2)) 15 p3 h).bind fun v10 =>
  some v10
set_option maxRecDepth 20000 in
set_option maxHeartbeats 4000000 in
theorem R_B_withCount (n : Nat) (p0 : Int64) (p2 : Int32) (p3 : Int32) (h : sHp) : sM Zc (sPl h) y_B_withCount prog_3_method_13_code 4 (some .long) rm_B_withCount [.long p0, .int p2, .int p3] h (J_B_withCount n p0 p2 p3 h) := by
  refine sM_of (own := "StoryStates$Bits") rfl (by decide) (Nat.le_of_ble_eq_true rfl) (fun M V O => ?_)
  unfold J_B_withCount
  refine r_lv (lv' := [(0, .long p0), (2, .int p2), (3, .int p3)]) [0, 1, 2] rfl ?_
  refine r_lload_n (pc := 0) O d_B_withCount_0 0 rfl ?_
  refine r_bipush (pc := 1) O d_B_withCount_1 bc_46 ?_
  refine r_iconst (pc := 3) O d_B_withCount_3 ic_4 ?_
  refine r_iload_n (pc := 4) O d_B_withCount_4 1 rfl ?_
  refine r_imul (pc := 5) O d_B_withCount_5 ?_
  refine r_iadd (pc := 6) O d_B_withCount_6 ?_
  refine r_bipush (pc := 7) O d_B_withCount_7 bc_15 ?_
  refine r_iload_n (pc := 9) O d_B_withCount_9 2 rfl ?_
  refine r_callSlp (pc := 10) O [.long p0, .int (46 + (4 * p2)), .int 15, .int p3] (R_B_write n p0 (46 + (4 * p2)) 15 p3 h) cw_B_withCount_10 wm_291 rfl (Nat.le_of_ble_eq_true rfl) d_B_withCount_10 rfl (fun v10 => ?_)
  exact r_lret (pc := 13) O rfl d_B_withCount_13
def F_W_firstState_82 (n : Nat) (h : sHp) (rec82 : Int64 × Int32 → Option Int64) (q : Int64 × Int32) : Option Int64 :=
  if (h.1 2 17) ≤ q.2 then (some q.1) else (sGd (sIn q.2 2) ((J_B_withCount n q.1 q.2 (h.1 20 (ix q.2)) h).bind fun v98 =>
  rec82 (v98, (q.2 + 1))))
def F_W_firstState_54 (n : Nat) (h : sHp) (rec54 : Int64 × Int32 → Option Int64) (q : Int64 × Int32) : Option Int64 :=
  if (h.1 2 14) ≤ q.2 then (sFx (F_W_firstState_82 n h ) n (q.1, 0)) else (sGd (sIn q.2 3) ((J_B_withAmount n q.1 q.2 (h.1 14 (ix q.2)) h).bind fun v70 =>
  rec54 (v70, (q.2 + 1))))
def F_W_firstState_4 (n : Nat) (h : sHp) (rec4 : Int64 × Int32 → Option Int64) (q : Int64 × Int32) : Option Int64 :=
  if (h.1 2 13) ≤ q.2 then (sFx (F_W_firstState_54 n h ) n (q.1, 0)) else (sGd (sIn q.2 6) ((J_B_withPlace n q.1 q.2 (h.1 12 (ix q.2)) h).bind fun v20 =>
  sGd (sIn q.2 6) (if ((h.1 13 (ix q.2)) &&& 4) = 0 then ((J_B_withOpen n v20 q.2 0 h).bind fun v42 =>
  rec4 (v42, (q.2 + 1))) else ((J_B_withOpen n v20 q.2 1 h).bind fun v42 =>
  rec4 (v42, (q.2 + 1))))))
def J_W_firstState (n : Nat)  (h : sHp) : Option Int64 :=
  sFx (F_W_firstState_4 n h ) n (0, 0)
set_option maxRecDepth 20000 in
set_option maxHeartbeats 4000000 in
theorem R_W_firstState (n : Nat)  (h : sHp) : sM Zc (sPl h) y_W_firstState prog_8_method_19_code 4 (some .long) rm_W_firstState [.ref 2] h (J_W_firstState n  h) := by
  refine sM_of (own := "StoryStates$World") rfl (by decide) (Nat.le_of_ble_eq_true rfl) (fun M V O => ?_)
  unfold J_W_firstState
  refine r_lv (lv' := [(0, .ref 2)]) [0] rfl ?_
  have hL82 : ∀ (q : Int64 × Int32), sS Zc M V (sEb (sPl h)) 82 [(0, .ref 2), (1, .long q.1), (3, .int q.2)] [] h (sFx (F_W_firstState_82 n h ) n q) := by
    skip
    refine r_fx (fun q => [(0, .ref 2), (1, .long q.1), (3, .int q.2)]) (fun q => h) (F_W_firstState_82 n h ) (fun rec82 hrec82 q => ?_) n
    obtain ⟨qv0, qv1⟩ := q
    show sS Zc M V (sEb (sPl h)) 82 [(0, .ref 2), (1, .long qv0), (3, .int qv1)] [] h _
    unfold F_W_firstState_82
    try dsimp only
    refine r_iload_n (pc := 82) O d_W_firstState_82 2 rfl ?_
    refine r_aload_n (pc := 83) O d_W_firstState_83 0 rfl ?_
    refine r_getI (x := (h.1 2 17)) (pc := 84) O gf_c_W_72_2 d_W_firstState_84 rfl ?_
    refine r_icmp_ge (tgt := 108) (pc := 87) O d_W_firstState_87 (by decide) (fun q87 => ?_) (fun q87 => ?_)
    · refine r_lload_n (pc := 108) O d_W_firstState_108 1 rfl ?_
      exact r_lret (pc := 109) O rfl d_W_firstState_109
    · refine r_lload_n (pc := 90) O d_W_firstState_90 1 rfl ?_
      refine r_iload_n (pc := 91) O d_W_firstState_91 2 rfl ?_
      refine r_aload_n (pc := 92) O d_W_firstState_92 0 rfl ?_
      refine r_getR (pc := 93) O gf_c_W_50_2 d_W_firstState_93 ?_
      refine r_iload_n (pc := 96) O d_W_firstState_96 2 rfl ?_
      refine r_iald (x := (h.1 20 (ix qv1))) (pc := 97) O rfl d_W_firstState_97 rfl ?_
      refine r_callSlp (pc := 98) O [.long qv0, .int qv1, .int (h.1 20 (ix qv1))] (R_B_withCount n qv0 qv1 (h.1 20 (ix qv1)) h) cw_W_firstState_98 wm_301 rfl (Nat.le_of_ble_eq_true rfl) d_W_firstState_98 rfl (fun v98 => ?_)
      refine r_lstore_n (lv' := [(1, .long v98), (0, .ref 2), (3, .int qv1)]) (pc := 101) O d_W_firstState_101 rfl (by decide) rfl ?_
      refine r_iinc (lv' := [(3, .int (qv1 + 1)), (1, .long v98), (0, .ref 2)]) (pc := 102) O d_W_firstState_102 2 rfl (congrArg (HAdd.hAdd _) ic_1) (by decide) rfl ?_
      refine r_goto (pc := 105) O d_W_firstState_105 (tgt := 82) (by decide) ?_
      exact r_lv [2, 1, 0] rfl (hrec82 (v98, (qv1 + 1)))
  have hL54 : ∀ (q : Int64 × Int32), sS Zc M V (sEb (sPl h)) 54 [(0, .ref 2), (1, .long q.1), (3, .int q.2)] [] h (sFx (F_W_firstState_54 n h ) n q) := by
    skip
    refine r_fx (fun q => [(0, .ref 2), (1, .long q.1), (3, .int q.2)]) (fun q => h) (F_W_firstState_54 n h ) (fun rec54 hrec54 q => ?_) n
    obtain ⟨qv0, qv1⟩ := q
    show sS Zc M V (sEb (sPl h)) 54 [(0, .ref 2), (1, .long qv0), (3, .int qv1)] [] h _
    unfold F_W_firstState_54
    try dsimp only
    refine r_iload_n (pc := 54) O d_W_firstState_54 2 rfl ?_
    refine r_aload_n (pc := 55) O d_W_firstState_55 0 rfl ?_
    refine r_getI (x := (h.1 2 14)) (pc := 56) O gf_c_W_60_2 d_W_firstState_56 rfl ?_
    refine r_icmp_ge (tgt := 80) (pc := 59) O d_W_firstState_59 (by decide) (fun q59 => ?_) (fun q59 => ?_)
    · refine r_iconst (pc := 80) O d_W_firstState_80 ic_0 ?_
      refine r_istore_n (lv' := [(3, .int 0), (0, .ref 2), (1, .long qv0)]) (pc := 81) O d_W_firstState_81 rfl (by decide) rfl ?_
      exact r_lv [1, 2, 0] rfl (hL82 (qv0, 0))
    · refine r_lload_n (pc := 62) O d_W_firstState_62 1 rfl ?_
      refine r_iload_n (pc := 63) O d_W_firstState_63 2 rfl ?_
      refine r_aload_n (pc := 64) O d_W_firstState_64 0 rfl ?_
      refine r_getR (pc := 65) O gf_c_W_24_2 d_W_firstState_65 ?_
      refine r_iload_n (pc := 68) O d_W_firstState_68 2 rfl ?_
      refine r_iald (x := (h.1 14 (ix qv1))) (pc := 69) O rfl d_W_firstState_69 rfl ?_
      refine r_callSlp (pc := 70) O [.long qv0, .int qv1, .int (h.1 14 (ix qv1))] (R_B_withAmount n qv0 qv1 (h.1 14 (ix qv1)) h) cw_W_firstState_70 wm_298 rfl (Nat.le_of_ble_eq_true rfl) d_W_firstState_70 rfl (fun v70 => ?_)
      refine r_lstore_n (lv' := [(1, .long v70), (0, .ref 2), (3, .int qv1)]) (pc := 73) O d_W_firstState_73 rfl (by decide) rfl ?_
      refine r_iinc (lv' := [(3, .int (qv1 + 1)), (1, .long v70), (0, .ref 2)]) (pc := 74) O d_W_firstState_74 2 rfl (congrArg (HAdd.hAdd _) ic_1) (by decide) rfl ?_
      refine r_goto (pc := 77) O d_W_firstState_77 (tgt := 54) (by decide) ?_
      exact r_lv [2, 1, 0] rfl (hrec54 (v70, (qv1 + 1)))
  have hL4 : ∀ (q : Int64 × Int32), sS Zc M V (sEb (sPl h)) 4 [(0, .ref 2), (1, .long q.1), (3, .int q.2)] [] h (sFx (F_W_firstState_4 n h ) n q) := by
    skip
    refine r_fx (fun q => [(0, .ref 2), (1, .long q.1), (3, .int q.2)]) (fun q => h) (F_W_firstState_4 n h ) (fun rec4 hrec4 q => ?_) n
    obtain ⟨qv0, qv1⟩ := q
    show sS Zc M V (sEb (sPl h)) 4 [(0, .ref 2), (1, .long qv0), (3, .int qv1)] [] h _
    unfold F_W_firstState_4
    try dsimp only
    refine r_iload_n (pc := 4) O d_W_firstState_4 2 rfl ?_
    refine r_aload_n (pc := 5) O d_W_firstState_5 0 rfl ?_
    refine r_getI (x := (h.1 2 13)) (pc := 6) O gf_c_W_57_2 d_W_firstState_6 rfl ?_
    refine r_icmp_ge (tgt := 52) (pc := 9) O d_W_firstState_9 (by decide) (fun q9 => ?_) (fun q9 => ?_)
    · refine r_iconst (pc := 52) O d_W_firstState_52 ic_0 ?_
      refine r_istore_n (lv' := [(3, .int 0), (0, .ref 2), (1, .long qv0)]) (pc := 53) O d_W_firstState_53 rfl (by decide) rfl ?_
      exact r_lv [1, 2, 0] rfl (hL54 (qv0, 0))
    · refine r_lload_n (pc := 12) O d_W_firstState_12 1 rfl ?_
      refine r_iload_n (pc := 13) O d_W_firstState_13 2 rfl ?_
      refine r_aload_n (pc := 14) O d_W_firstState_14 0 rfl ?_
      refine r_getR (pc := 15) O gf_c_W_18_2 d_W_firstState_15 ?_
      refine r_iload_n (pc := 18) O d_W_firstState_18 2 rfl ?_
      refine r_iald (x := (h.1 12 (ix qv1))) (pc := 19) O rfl d_W_firstState_19 rfl ?_
      refine r_callSlp (pc := 20) O [.long qv0, .int qv1, .int (h.1 12 (ix qv1))] (R_B_withPlace n qv0 qv1 (h.1 12 (ix qv1)) h) cw_W_firstState_20 wm_288 rfl (Nat.le_of_ble_eq_true rfl) d_W_firstState_20 rfl (fun v20 => ?_)
      refine r_lstore_n (lv' := [(1, .long v20), (0, .ref 2), (3, .int qv1)]) (pc := 23) O d_W_firstState_23 rfl (by decide) rfl ?_
      refine r_lload_n (pc := 24) O d_W_firstState_24 0 rfl ?_
      refine r_iload_n (pc := 25) O d_W_firstState_25 2 rfl ?_
      refine r_aload_n (pc := 26) O d_W_firstState_26 1 rfl ?_
      refine r_getR (pc := 27) O gf_c_W_21_2 d_W_firstState_27 ?_
      refine r_iload_n (pc := 30) O d_W_firstState_30 2 rfl ?_
      refine r_iald (x := (h.1 13 (ix qv1))) (pc := 31) O rfl d_W_firstState_31 rfl ?_
      refine r_iconst (pc := 32) O d_W_firstState_32 ic_4 ?_
      refine r_iand (pc := 33) O d_W_firstState_33 ?_
      refine r_if_eq (tgt := 41) (pc := 34) O d_W_firstState_34 (by decide) (fun q34 => ?_) (fun q34 => ?_)
      · refine r_iconst (pc := 41) O d_W_firstState_41 ic_0 ?_
        refine r_callSlp (pc := 42) O [.long v20, .int qv1, .int 0] (R_B_withOpen n v20 qv1 0 h) cw_W_firstState_42 wm_295 rfl (Nat.le_of_ble_eq_true rfl) d_W_firstState_42 rfl (fun v42 => ?_)
        refine r_lstore_n (lv' := [(1, .long v42), (0, .ref 2), (3, .int qv1)]) (pc := 45) O d_W_firstState_45 rfl (by decide) rfl ?_
        refine r_iinc (lv' := [(3, .int (qv1 + 1)), (1, .long v42), (0, .ref 2)]) (pc := 46) O d_W_firstState_46 2 rfl (congrArg (HAdd.hAdd _) ic_1) (by decide) rfl ?_
        refine r_goto (pc := 49) O d_W_firstState_49 (tgt := 4) (by decide) ?_
        exact r_lv [2, 1, 0] rfl (hrec4 (v42, (qv1 + 1)))
      · refine r_iconst (pc := 37) O d_W_firstState_37 ic_1 ?_
        refine r_goto (pc := 38) O d_W_firstState_38 (tgt := 42) (by decide) ?_
        refine r_callSlp (pc := 42) O [.long v20, .int qv1, .int 1] (R_B_withOpen n v20 qv1 1 h) cw_W_firstState_42 wm_295 rfl (Nat.le_of_ble_eq_true rfl) d_W_firstState_42 rfl (fun v42 => ?_)
        refine r_lstore_n (lv' := [(1, .long v42), (0, .ref 2), (3, .int qv1)]) (pc := 45) O d_W_firstState_45 rfl (by decide) rfl ?_
        refine r_iinc (lv' := [(3, .int (qv1 + 1)), (1, .long v42), (0, .ref 2)]) (pc := 46) O d_W_firstState_46 2 rfl (congrArg (HAdd.hAdd _) ic_1) (by decide) rfl ?_
        refine r_goto (pc := 49) O d_W_firstState_49 (tgt := 4) (by decide) ?_
        exact r_lv [2, 1, 0] rfl (hrec4 (v42, (qv1 + 1)))
  refine r_lconst (pc := 0) O d_W_firstState_0 lc_0 ?_
  refine r_lstore_n (lv' := [(1, .long 0), (0, .ref 2)]) (pc := 1) O d_W_firstState_1 rfl (by decide) rfl ?_
  refine r_iconst (pc := 2) O d_W_firstState_2 ic_0 ?_
  refine r_istore_n (lv' := [(3, .int 0), (1, .long 0), (0, .ref 2)]) (pc := 3) O d_W_firstState_3 rfl (by decide) rfl ?_
  exact r_lv [2, 1, 0] rfl (hL4 (0, 0))
def J_R_append (n : Nat) (p1 : Int32) (p2 : Int32) (p3 : Int32) (p4 : Int32) (h : sHp) : Option (Int32 × sHp) :=
  sGd (sIn (h.1 3 7) 12) (sGd (sIn (h.1 3 7) 12) (sGd (sIn (h.1 3 7) 12) (sGd (sIn (h.1 3 7) 12) (sGd (sIn (h.1 3 7) 12) (sGd (sIn (h.1 3 7) 12) (sGd (sIn (h.1 3 7) 12) (some ((h.1 3 7), (pI (pI (pI (pI (pI (pI (pI (pI h 21 (ix (h.1 3 7)) p1) 22 (ix (h.1 3 7)) p2) 23 (ix (h.1 3 7)) p3) 24 (ix (h.1 3 7)) p4) 25 (ix (h.1 3 7)) 0) 26 (ix (h.1 3 7)) 0) 30 (ix (h.1 3 7)) 0) 3 7 ((h.1 3 7) + 1))))))))))
set_option maxRecDepth 20000 in
set_option maxHeartbeats 4000000 in
theorem R_R_append (n : Nat) (p1 : Int32) (p2 : Int32) (p3 : Int32) (p4 : Int32) (h : sHp) : sM Zc sOi y_R_append prog_7_method_2_code 5 (some .int) rm_R_append [.ref 3, .int p1, .int p2, .int p3, .int p4] h (J_R_append n p1 p2 p3 p4 h) := by
  refine sM_of (own := "StoryStates$Rules") rfl (by decide) (Nat.le_of_ble_eq_true rfl) (fun M V O => ?_)
  unfold J_R_append
  refine r_lv (lv' := [(0, .ref 3), (1, .int p1), (2, .int p2), (3, .int p3), (4, .int p4)]) [0, 1, 2, 3, 4] rfl ?_
  refine r_aload_n (pc := 0) O d_R_append_0 0 rfl ?_
  refine r_getR (pc := 1) O gf_c_R_9_3 d_R_append_1 ?_
  refine r_aload_n (pc := 4) O d_R_append_4 0 rfl ?_
  refine r_getI (x := (h.1 3 7)) (pc := 5) O gf_c_R_38_3 d_R_append_5 rfl ?_
  refine r_iload_n (pc := 8) O d_R_append_8 1 rfl ?_
  refine r_iast (pc := 9) O rfl d_R_append_9 ?_
  refine r_aload_n (pc := 10) O d_R_append_10 0 rfl ?_
  refine r_getR (pc := 11) O gf_c_R_15_3 d_R_append_11 ?_
  refine r_aload_n (pc := 14) O d_R_append_14 0 rfl ?_
  refine r_getI (x := (h.1 3 7)) (pc := 15) O gf_c_R_38_3 d_R_append_15 rfl ?_
  refine r_iload_n (pc := 18) O d_R_append_18 2 rfl ?_
  refine r_iast (pc := 19) O rfl d_R_append_19 ?_
  refine r_aload_n (pc := 20) O d_R_append_20 0 rfl ?_
  refine r_getR (pc := 21) O gf_c_R_18_3 d_R_append_21 ?_
  refine r_aload_n (pc := 24) O d_R_append_24 0 rfl ?_
  refine r_getI (x := (h.1 3 7)) (pc := 25) O gf_c_R_38_3 d_R_append_25 rfl ?_
  refine r_iload_n (pc := 28) O d_R_append_28 3 rfl ?_
  refine r_iast (pc := 29) O rfl d_R_append_29 ?_
  refine r_aload_n (pc := 30) O d_R_append_30 0 rfl ?_
  refine r_getR (pc := 31) O gf_c_R_21_3 d_R_append_31 ?_
  refine r_aload_n (pc := 34) O d_R_append_34 0 rfl ?_
  refine r_getI (x := (h.1 3 7)) (pc := 35) O gf_c_R_38_3 d_R_append_35 rfl ?_
  refine r_iload (pc := 38) O d_R_append_38 4 rfl ?_
  refine r_iast (pc := 40) O rfl d_R_append_40 ?_
  refine r_aload_n (pc := 41) O d_R_append_41 0 rfl ?_
  refine r_getR (pc := 42) O gf_c_R_24_3 d_R_append_42 ?_
  refine r_aload_n (pc := 45) O d_R_append_45 0 rfl ?_
  refine r_getI (x := (h.1 3 7)) (pc := 46) O gf_c_R_38_3 d_R_append_46 rfl ?_
  refine r_iconst (pc := 49) O d_R_append_49 ic_0 ?_
  refine r_zast (pc := 50) O rfl d_R_append_50 nz_0 ?_
  refine r_aload_n (pc := 51) O d_R_append_51 0 rfl ?_
  refine r_getR (pc := 52) O gf_c_R_31_3 d_R_append_52 ?_
  refine r_getR (pc := 55) O gf_c_R_42_4 d_R_append_55 ?_
  refine r_aload_n (pc := 58) O d_R_append_58 0 rfl ?_
  refine r_getI (x := (h.1 3 7)) (pc := 59) O gf_c_R_38_3 d_R_append_59 rfl ?_
  refine r_iconst (pc := 62) O d_R_append_62 ic_0 ?_
  refine r_iast (pc := 63) O rfl d_R_append_63 ?_
  refine r_aload_n (pc := 64) O d_R_append_64 0 rfl ?_
  refine r_getR (pc := 65) O gf_c_R_35_3 d_R_append_65 ?_
  refine r_getR (pc := 68) O gf_c_R_42_5 d_R_append_68 ?_
  refine r_aload_n (pc := 71) O d_R_append_71 0 rfl ?_
  refine r_getI (x := (h.1 3 7)) (pc := 72) O gf_c_R_38_3 d_R_append_72 rfl ?_
  refine r_iconst (pc := 75) O d_R_append_75 ic_0 ?_
  refine r_iast (pc := 76) O rfl d_R_append_76 ?_
  refine r_aload_n (pc := 77) O d_R_append_77 0 rfl ?_
  refine r_dup (pc := 78) O d_R_append_78 rfl ?_
  refine r_getI (x := (h.1 3 7)) (pc := 79) O gf_c_R_38_3 d_R_append_79 rfl ?_
  refine r_dup_x1 (pc := 82) O d_R_append_82 rfl rfl ?_
  refine r_iconst (pc := 83) O d_R_append_83 ic_1 ?_
  refine r_iadd (pc := 84) O d_R_append_84 ?_
  refine r_putI (pc := 85) O pf_c_R_38_3 d_R_append_85 ?_
  exact r_iret (pc := 88) O rfl d_R_append_88
end
section
def J_C_hasSpace (n : Nat) (p1 : Int32) (h : sHp) : Option Int32 :=
  sGd (sIn p1 12) (if 3 ≤ (h.1 26 (ix p1)) then (some 0) else (some 1))
set_option maxRecDepth 20000 in
set_option maxHeartbeats 4000000 in
theorem R_C_hasSpace (n : Nat) (p1 : Int32) (h : sHp) : sM Zc (sPi h) y_C_hasSpace prog_4_method_2_code 2 (some .boolean) rm_C_hasSpace [.ref 4, .int p1] h (J_C_hasSpace n p1 h) := by
  refine sM_of (own := "StoryStates$Clauses") rfl (by decide) (Nat.le_of_ble_eq_true rfl) (fun M V O => ?_)
  unfold J_C_hasSpace
  refine r_lv (lv' := [(0, .ref 4), (1, .int p1)]) [0, 1] rfl ?_
  refine r_aload_n (pc := 0) O d_C_hasSpace_0 0 rfl ?_
  refine r_getR (pc := 1) O gf_c_C_9_4 d_C_hasSpace_1 ?_
  refine r_iload_n (pc := 4) O d_C_hasSpace_4 1 rfl ?_
  refine r_iald (x := (h.1 26 (ix p1))) (pc := 5) O rfl d_C_hasSpace_5 rfl ?_
  refine r_iconst (pc := 6) O d_C_hasSpace_6 ic_3 ?_
  refine r_icmp_ge (tgt := 14) (pc := 7) O d_C_hasSpace_7 (by decide) (fun q7 => ?_) (fun q7 => ?_)
  · refine r_iconst (pc := 14) O d_C_hasSpace_14 ic_0 ?_
    exact r_zret (pc := 15) O rfl d_C_hasSpace_15 nb_0
  · refine r_iconst (pc := 10) O d_C_hasSpace_10 ic_1 ?_
    refine r_goto (pc := 11) O d_C_hasSpace_11 (tgt := 15) (by decide) ?_
    exact r_zret (pc := 15) O rfl d_C_hasSpace_15 nb_1
def J_C_hasSpace_1 (n : Nat) (p1 : Int32) (h : sHp) : Option Int32 :=
  sGd (sIn p1 12) (if 3 ≤ (h.1 30 (ix p1)) then (some 0) else (some 1))
set_option maxRecDepth 20000 in
set_option maxHeartbeats 4000000 in
theorem R_C_hasSpace_1 (n : Nat) (p1 : Int32) (h : sHp) : sM Zc (sPi h) y_C_hasSpace prog_4_method_2_code 2 (some .boolean) rm_C_hasSpace_1 [.ref 5, .int p1] h (J_C_hasSpace_1 n p1 h) := by
  refine sM_of (own := "StoryStates$Clauses") rfl (by decide) (Nat.le_of_ble_eq_true rfl) (fun M V O => ?_)
  unfold J_C_hasSpace_1
  refine r_lv (lv' := [(0, .ref 5), (1, .int p1)]) [0, 1] rfl ?_
  refine r_aload_n (pc := 0) O d_C_hasSpace_0 0 rfl ?_
  refine r_getR (pc := 1) O gf_c_C_9_5 d_C_hasSpace_1 ?_
  refine r_iload_n (pc := 4) O d_C_hasSpace_4 1 rfl ?_
  refine r_iald (x := (h.1 30 (ix p1))) (pc := 5) O rfl d_C_hasSpace_5 rfl ?_
  refine r_iconst (pc := 6) O d_C_hasSpace_6 ic_3 ?_
  refine r_icmp_ge (tgt := 14) (pc := 7) O d_C_hasSpace_7 (by decide) (fun q7 => ?_) (fun q7 => ?_)
  · refine r_iconst (pc := 14) O d_C_hasSpace_14 ic_0 ?_
    exact r_zret (pc := 15) O rfl d_C_hasSpace_15 nb_0
  · refine r_iconst (pc := 10) O d_C_hasSpace_10 ic_1 ?_
    refine r_goto (pc := 11) O d_C_hasSpace_11 (tgt := 15) (by decide) ?_
    exact r_zret (pc := 15) O rfl d_C_hasSpace_15 nb_1
def J_C_endOf (n : Nat) (p1 : Int32) (h : sHp) : Option Int32 :=
  sGd (sIn p1 12) (some ((p1 * 3) + (h.1 26 (ix p1))))
set_option maxRecDepth 20000 in
set_option maxHeartbeats 4000000 in
theorem R_C_endOf (n : Nat) (p1 : Int32) (h : sHp) : sM Zc (sPi h) y_C_endOf prog_4_method_4_code 2 (some .int) rm_C_endOf [.ref 4, .int p1] h (J_C_endOf n p1 h) := by
  refine sM_of (own := "StoryStates$Clauses") rfl (by decide) (Nat.le_of_ble_eq_true rfl) (fun M V O => ?_)
  unfold J_C_endOf
  refine r_lv (lv' := [(0, .ref 4), (1, .int p1)]) [0, 1] rfl ?_
  refine r_iload_n (pc := 0) O d_C_endOf_0 1 rfl ?_
  refine r_iconst (pc := 1) O d_C_endOf_1 ic_3 ?_
  refine r_imul (pc := 2) O d_C_endOf_2 ?_
  refine r_aload_n (pc := 3) O d_C_endOf_3 0 rfl ?_
  refine r_getR (pc := 4) O gf_c_C_9_4 d_C_endOf_4 ?_
  refine r_iload_n (pc := 7) O d_C_endOf_7 1 rfl ?_
  refine r_iald (x := (h.1 26 (ix p1))) (pc := 8) O rfl d_C_endOf_8 rfl ?_
  refine r_iadd (pc := 9) O d_C_endOf_9 ?_
  exact r_iret (pc := 10) O rfl d_C_endOf_10
def J_C_append (n : Nat) (p1 : Int32) (p2 : Int32) (p3 : Int32) (p4 : Int32) (h : sHp) : Option sHp :=
  (J_C_endOf n p1 h).bind fun v2 =>
  sGd (sIn v2 36) (sGd (sIn v2 36) (sGd (sIn v2 36) (sGd (sIn p1 12) (sGd (sIn p1 12) (some (pI (pI (pI (pI h 27 (ix v2) p2) 28 (ix v2) p3) 29 (ix v2) p4) 26 (ix p1) ((h.1 26 (ix p1)) + 1)))))))
set_option maxRecDepth 20000 in
set_option maxHeartbeats 4000000 in
theorem R_C_append (n : Nat) (p1 : Int32) (p2 : Int32) (p3 : Int32) (p4 : Int32) (h : sHp) : sM Zc sOv y_C_append prog_4_method_5_code 6 none rm_C_append [.ref 4, .int p1, .int p2, .int p3, .int p4] h (J_C_append n p1 p2 p3 p4 h) := by
  refine sM_of (own := "StoryStates$Clauses") rfl (by decide) (Nat.le_of_ble_eq_true rfl) (fun M V O => ?_)
  unfold J_C_append
  refine r_lv (lv' := [(0, .ref 4), (1, .int p1), (2, .int p2), (3, .int p3), (4, .int p4)]) [0, 1, 2, 3, 4] rfl ?_
  refine r_aload_n (pc := 0) O d_C_append_0 0 rfl ?_
  refine r_iload_n (pc := 1) O d_C_append_1 1 rfl ?_
  refine r_callVip (pc := 2) O [.int p1] rfl rfl (R_C_endOf n p1 h) cw_C_append_2 wm_539 wm_540 rfl (Nat.le_of_ble_eq_true rfl) d_C_append_2 rfl (fun v2 => ?_)
  refine r_istore (lv' := [(5, .int v2), (0, .ref 4), (1, .int p1), (2, .int p2), (3, .int p3), (4, .int p4)]) (pc := 5) O d_C_append_5 (by decide) rfl ?_
  refine r_aload_n (pc := 7) O d_C_append_7 1 rfl ?_
  refine r_getR (pc := 8) O gf_c_C_15_4 d_C_append_8 ?_
  refine r_iload (pc := 11) O d_C_append_11 0 rfl ?_
  refine r_iload_n (pc := 13) O d_C_append_13 3 rfl ?_
  refine r_iast (pc := 14) O rfl d_C_append_14 ?_
  refine r_aload_n (pc := 15) O d_C_append_15 1 rfl ?_
  refine r_getR (pc := 16) O gf_c_C_18_4 d_C_append_16 ?_
  refine r_iload (pc := 19) O d_C_append_19 0 rfl ?_
  refine r_iload_n (pc := 21) O d_C_append_21 4 rfl ?_
  refine r_iast (pc := 22) O rfl d_C_append_22 ?_
  refine r_aload_n (pc := 23) O d_C_append_23 1 rfl ?_
  refine r_getR (pc := 24) O gf_c_C_21_4 d_C_append_24 ?_
  refine r_iload (pc := 27) O d_C_append_27 0 rfl ?_
  refine r_iload (pc := 29) O d_C_append_29 5 rfl ?_
  refine r_iast (pc := 31) O rfl d_C_append_31 ?_
  refine r_aload_n (pc := 32) O d_C_append_32 1 rfl ?_
  refine r_getR (pc := 33) O gf_c_C_9_4 d_C_append_33 ?_
  refine r_iload_n (pc := 36) O d_C_append_36 2 rfl ?_
  refine r_dup2_11 (pc := 37) O d_C_append_37 rfl rfl ?_
  refine r_iald (x := (h.1 26 (ix p1))) (pc := 38) O rfl d_C_append_38 rfl ?_
  refine r_iconst (pc := 39) O d_C_append_39 ic_1 ?_
  refine r_iadd (pc := 40) O d_C_append_40 ?_
  refine r_iast (pc := 41) O rfl d_C_append_41 ?_
  exact r_vret (pc := 42) O rfl d_C_append_42
def J_C_endOf_1 (n : Nat) (p1 : Int32) (h : sHp) : Option Int32 :=
  sGd (sIn p1 12) (some ((p1 * 3) + (h.1 30 (ix p1))))
set_option maxRecDepth 20000 in
set_option maxHeartbeats 4000000 in
theorem R_C_endOf_1 (n : Nat) (p1 : Int32) (h : sHp) : sM Zc (sPi h) y_C_endOf prog_4_method_4_code 2 (some .int) rm_C_endOf_1 [.ref 5, .int p1] h (J_C_endOf_1 n p1 h) := by
  refine sM_of (own := "StoryStates$Clauses") rfl (by decide) (Nat.le_of_ble_eq_true rfl) (fun M V O => ?_)
  unfold J_C_endOf_1
  refine r_lv (lv' := [(0, .ref 5), (1, .int p1)]) [0, 1] rfl ?_
  refine r_iload_n (pc := 0) O d_C_endOf_0 1 rfl ?_
  refine r_iconst (pc := 1) O d_C_endOf_1 ic_3 ?_
  refine r_imul (pc := 2) O d_C_endOf_2 ?_
  refine r_aload_n (pc := 3) O d_C_endOf_3 0 rfl ?_
  refine r_getR (pc := 4) O gf_c_C_9_5 d_C_endOf_4 ?_
  refine r_iload_n (pc := 7) O d_C_endOf_7 1 rfl ?_
  refine r_iald (x := (h.1 30 (ix p1))) (pc := 8) O rfl d_C_endOf_8 rfl ?_
  refine r_iadd (pc := 9) O d_C_endOf_9 ?_
  exact r_iret (pc := 10) O rfl d_C_endOf_10
def J_C_append_1 (n : Nat) (p1 : Int32) (p2 : Int32) (p3 : Int32) (p4 : Int32) (h : sHp) : Option sHp :=
  (J_C_endOf_1 n p1 h).bind fun v2 =>
  sGd (sIn v2 36) (sGd (sIn v2 36) (sGd (sIn v2 36) (sGd (sIn p1 12) (sGd (sIn p1 12) (some (pI (pI (pI (pI h 31 (ix v2) p2) 32 (ix v2) p3) 33 (ix v2) p4) 30 (ix p1) ((h.1 30 (ix p1)) + 1)))))))
set_option maxRecDepth 20000 in
set_option maxHeartbeats 4000000 in
theorem R_C_append_1 (n : Nat) (p1 : Int32) (p2 : Int32) (p3 : Int32) (p4 : Int32) (h : sHp) : sM Zc sOv y_C_append prog_4_method_5_code 6 none rm_C_append_1 [.ref 5, .int p1, .int p2, .int p3, .int p4] h (J_C_append_1 n p1 p2 p3 p4 h) := by
  refine sM_of (own := "StoryStates$Clauses") rfl (by decide) (Nat.le_of_ble_eq_true rfl) (fun M V O => ?_)
  unfold J_C_append_1
  refine r_lv (lv' := [(0, .ref 5), (1, .int p1), (2, .int p2), (3, .int p3), (4, .int p4)]) [0, 1, 2, 3, 4] rfl ?_
  refine r_aload_n (pc := 0) O d_C_append_0 0 rfl ?_
  refine r_iload_n (pc := 1) O d_C_append_1 1 rfl ?_
  refine r_callVip (pc := 2) O [.int p1] rfl rfl (R_C_endOf_1 n p1 h) cw_C_append_1_2 wm_539 wm_540 rfl (Nat.le_of_ble_eq_true rfl) d_C_append_2 rfl (fun v2 => ?_)
  refine r_istore (lv' := [(5, .int v2), (0, .ref 5), (1, .int p1), (2, .int p2), (3, .int p3), (4, .int p4)]) (pc := 5) O d_C_append_5 (by decide) rfl ?_
  refine r_aload_n (pc := 7) O d_C_append_7 1 rfl ?_
  refine r_getR (pc := 8) O gf_c_C_15_5 d_C_append_8 ?_
  refine r_iload (pc := 11) O d_C_append_11 0 rfl ?_
  refine r_iload_n (pc := 13) O d_C_append_13 3 rfl ?_
  refine r_iast (pc := 14) O rfl d_C_append_14 ?_
  refine r_aload_n (pc := 15) O d_C_append_15 1 rfl ?_
  refine r_getR (pc := 16) O gf_c_C_18_5 d_C_append_16 ?_
  refine r_iload (pc := 19) O d_C_append_19 0 rfl ?_
  refine r_iload_n (pc := 21) O d_C_append_21 4 rfl ?_
  refine r_iast (pc := 22) O rfl d_C_append_22 ?_
  refine r_aload_n (pc := 23) O d_C_append_23 1 rfl ?_
  refine r_getR (pc := 24) O gf_c_C_21_5 d_C_append_24 ?_
  refine r_iload (pc := 27) O d_C_append_27 0 rfl ?_
  refine r_iload (pc := 29) O d_C_append_29 5 rfl ?_
  refine r_iast (pc := 31) O rfl d_C_append_31 ?_
  refine r_aload_n (pc := 32) O d_C_append_32 1 rfl ?_
  refine r_getR (pc := 33) O gf_c_C_9_5 d_C_append_33 ?_
  refine r_iload_n (pc := 36) O d_C_append_36 2 rfl ?_
  refine r_dup2_11 (pc := 37) O d_C_append_37 rfl rfl ?_
  refine r_iald (x := (h.1 30 (ix p1))) (pc := 38) O rfl d_C_append_38 rfl ?_
  refine r_iconst (pc := 39) O d_C_append_39 ic_1 ?_
  refine r_iadd (pc := 40) O d_C_append_40 ?_
  refine r_iast (pc := 41) O rfl d_C_append_41 ?_
  exact r_vret (pc := 42) O rfl d_C_append_42
def J_B_placeOf (n : Nat) (p0 : Int64) (p2 : Int32) (h : sHp) : Option Int32 :=
  some ((Int64.toInt32 (jLushr p0 (3 + (4 * p2)))) &&& 15)
set_option maxRecDepth 20000 in
set_option maxHeartbeats 4000000 in
theorem R_B_placeOf (n : Nat) (p0 : Int64) (p2 : Int32) (h : sHp) : sM Zc (sPi h) y_B_placeOf prog_3_method_4_code 3 (some .int) rm_B_placeOf [.long p0, .int p2] h (J_B_placeOf n p0 p2 h) := by
  refine sM_of (own := "StoryStates$Bits") rfl (by decide) (Nat.le_of_ble_eq_true rfl) (fun M V O => ?_)
  unfold J_B_placeOf
  refine r_lv (lv' := [(0, .long p0), (2, .int p2)]) [0, 1] rfl ?_
  refine r_lload_n (pc := 0) O d_B_placeOf_0 0 rfl ?_
  refine r_iconst (pc := 1) O d_B_placeOf_1 ic_3 ?_
  refine r_iconst (pc := 2) O d_B_placeOf_2 ic_4 ?_
  refine r_iload_n (pc := 3) O d_B_placeOf_3 1 rfl ?_
  refine r_imul (pc := 4) O d_B_placeOf_4 ?_
  refine r_iadd (pc := 5) O d_B_placeOf_5 ?_
  refine r_lushr (pc := 6) O d_B_placeOf_6 ?_
  refine r_l2i (pc := 7) O d_B_placeOf_7 ?_
  refine r_bipush (pc := 8) O d_B_placeOf_8 bc_15 ?_
  refine r_iand (pc := 10) O d_B_placeOf_10 ?_
  exact r_iret (pc := 11) O rfl d_B_placeOf_11
def J_B_isOpen (n : Nat) (p0 : Int64) (p2 : Int32) (h : sHp) : Option Int32 :=
  if (lg_cmp ((jLushr p0 (27 + p2)) &&& 1) 0) = 0 then (some 0) else (some 1)
set_option maxRecDepth 20000 in
set_option maxHeartbeats 4000000 in
theorem R_B_isOpen (n : Nat) (p0 : Int64) (p2 : Int32) (h : sHp) : sM Zc (sPi h) y_B_isOpen prog_3_method_6_code 3 (some .boolean) rm_B_isOpen [.long p0, .int p2] h (J_B_isOpen n p0 p2 h) := by
  refine sM_of (own := "StoryStates$Bits") rfl (by decide) (Nat.le_of_ble_eq_true rfl) (fun M V O => ?_)
  unfold J_B_isOpen
  refine r_lv (lv' := [(0, .long p0), (2, .int p2)]) [0, 1] rfl ?_
  refine r_lload_n (pc := 0) O d_B_isOpen_0 0 rfl ?_
  refine r_bipush (pc := 1) O d_B_isOpen_1 bc_27 ?_
  refine r_iload_n (pc := 3) O d_B_isOpen_3 1 rfl ?_
  refine r_iadd (pc := 4) O d_B_isOpen_4 ?_
  refine r_lushr (pc := 5) O d_B_isOpen_5 ?_
  refine r_lconst (pc := 6) O d_B_isOpen_6 lc_1 ?_
  refine r_land (pc := 7) O d_B_isOpen_7 ?_
  refine r_lconst (pc := 8) O d_B_isOpen_8 lc_0 ?_
  refine r_lcmp (pc := 9) O d_B_isOpen_9 ?_
  refine r_if_eq (tgt := 17) (pc := 10) O d_B_isOpen_10 (by decide) (fun q10 => ?_) (fun q10 => ?_)
  · refine r_iconst (pc := 17) O d_B_isOpen_17 ic_0 ?_
    exact r_zret (pc := 18) O rfl d_B_isOpen_18 nb_0
  · refine r_iconst (pc := 13) O d_B_isOpen_13 ic_1 ?_
    refine r_goto (pc := 14) O d_B_isOpen_14 (tgt := 18) (by decide) ?_
    exact r_zret (pc := 18) O rfl d_B_isOpen_18 nb_1
def J_B_roomOf (n : Nat) (p0 : Int64) (h : sHp) : Option Int32 :=
  some ((Int64.toInt32 p0) &&& 7)
set_option maxRecDepth 20000 in
set_option maxHeartbeats 4000000 in
theorem R_B_roomOf (n : Nat) (p0 : Int64) (h : sHp) : sM Zc (sPi h) y_B_roomOf prog_3_method_2_code 2 (some .int) rm_B_roomOf [.long p0] h (J_B_roomOf n p0 h) := by
  refine sM_of (own := "StoryStates$Bits") rfl (by decide) (Nat.le_of_ble_eq_true rfl) (fun M V O => ?_)
  unfold J_B_roomOf
  refine r_lv (lv' := [(0, .long p0)]) [0] rfl ?_
  refine r_lload_n (pc := 0) O d_B_roomOf_0 0 rfl ?_
  refine r_l2i (pc := 1) O d_B_roomOf_1 ?_
  refine r_bipush (pc := 2) O d_B_roomOf_2 bc_7 ?_
  refine r_iand (pc := 4) O d_B_roomOf_4 ?_
  exact r_iret (pc := 5) O rfl d_B_roomOf_5
def K_B_isSeen_50 (n : Nat) (p0 : Int64) (p2 : Int32) (h : sHp) (x3 : Int32) : Option Int32 :=
  if x3 = 6 then (some 1) else ((J_B_roomOf n p0 h).bind fun v58 =>
  if x3 = v58 then (some 1) else (some 0))
def F_B_isSeen_9 (n : Nat) (p0 : Int64) (p2 : Int32) (h : sHp) (rec9 : Int32 × Int32 → Option Int32) (q : Int32 × Int32) : Option Int32 :=
  if 6 ≤ q.2 then (K_B_isSeen_50 n p0 p2 h q.1) else (if q.1 < 7 then (K_B_isSeen_50 n p0 p2 h q.1) else ((J_B_isOpen n p0 (q.1 - 7) h).bind fun v27 =>
  if v27 = 0 then (some 0) else ((J_B_placeOf n p0 (q.1 - 7) h).bind fun v40 =>
  rec9 (v40, (q.2 + 1)))))
def J_B_isSeen (n : Nat) (p0 : Int64) (p2 : Int32) (h : sHp) : Option Int32 :=
  (J_B_placeOf n p0 p2 h).bind fun v2 =>
  sFx (F_B_isSeen_9 n p0 p2 h ) n (v2, 0)
set_option maxRecDepth 20000 in
set_option maxHeartbeats 4000000 in
theorem R_B_isSeen (n : Nat) (p0 : Int64) (p2 : Int32) (h : sHp) : sM Zc (sPi h) y_B_isSeen prog_3_method_17_code 5 (some .boolean) rm_B_isSeen [.long p0, .int p2] h (J_B_isSeen n p0 p2 h) := by
  refine sM_of (own := "StoryStates$Bits") rfl (by decide) (Nat.le_of_ble_eq_true rfl) (fun M V O => ?_)
  unfold J_B_isSeen
  refine r_lv (lv' := [(0, .long p0), (2, .int p2)]) [0, 1] rfl ?_
  have hK50 : ∀ (x3 : Int32), sS Zc M V (sEb (sPi h)) 50 [(0, .long p0), (3, .int x3)] [] h (K_B_isSeen_50 n p0 p2 h x3) := by
    intro x3
    unfold K_B_isSeen_50
    refine r_iload_n (pc := 50) O d_B_isSeen_50 1 rfl ?_
    refine r_bipush (pc := 51) O d_B_isSeen_51 bc_6 ?_
    refine r_icmp_eq (tgt := 64) (pc := 53) O d_B_isSeen_53 (by decide) (fun q53 => ?_) (fun q53 => ?_)
    · refine r_iconst (pc := 64) O d_B_isSeen_64 ic_1 ?_
      refine r_goto (pc := 65) O d_B_isSeen_65 (tgt := 69) (by decide) ?_
      exact r_zret (pc := 69) O rfl d_B_isSeen_69 nb_1
    · refine r_iload_n (pc := 56) O d_B_isSeen_56 1 rfl ?_
      refine r_lload_n (pc := 57) O d_B_isSeen_57 0 rfl ?_
      refine r_callSip (pc := 58) O [.long p0] (R_B_roomOf n p0 h) cw_B_isSeen_58 wm_628 rfl (Nat.le_of_ble_eq_true rfl) d_B_isSeen_58 rfl (fun v58 => ?_)
      refine r_icmp_ne (tgt := 68) (pc := 61) O d_B_isSeen_61 (by decide) (fun q61 => ?_) (fun q61 => ?_)
      · refine r_iconst (pc := 68) O d_B_isSeen_68 ic_0 ?_
        exact r_zret (pc := 69) O rfl d_B_isSeen_69 nb_0
      · refine r_iconst (pc := 64) O d_B_isSeen_64 ic_1 ?_
        refine r_goto (pc := 65) O d_B_isSeen_65 (tgt := 69) (by decide) ?_
        exact r_zret (pc := 69) O rfl d_B_isSeen_69 nb_1
  have hL9 : ∀ (q : Int32 × Int32), sS Zc M V (sEb (sPi h)) 9 [(0, .long p0), (3, .int q.1), (4, .int q.2)] [] h (sFx (F_B_isSeen_9 n p0 p2 h ) n q) := by
    skip
    refine r_fx (fun q => [(0, .long p0), (3, .int q.1), (4, .int q.2)]) (fun q => h) (F_B_isSeen_9 n p0 p2 h ) (fun rec9 hrec9 q => ?_) n
    obtain ⟨qv0, qv1⟩ := q
    show sS Zc M V (sEb (sPi h)) 9 [(0, .long p0), (3, .int qv0), (4, .int qv1)] [] h _
    unfold F_B_isSeen_9
    try dsimp only
    refine r_iload (pc := 9) O d_B_isSeen_9 2 rfl ?_
    refine r_bipush (pc := 11) O d_B_isSeen_11 bc_6 ?_
    refine r_icmp_ge (tgt := 50) (pc := 13) O d_B_isSeen_13 (by decide) (fun q13 => ?_) (fun q13 => ?_)
    · exact r_lv [0, 1] rfl (hK50 qv0)
    · refine r_iload_n (pc := 16) O d_B_isSeen_16 1 rfl ?_
      refine r_bipush (pc := 17) O d_B_isSeen_17 bc_7 ?_
      refine r_icmp_lt (tgt := 50) (pc := 19) O d_B_isSeen_19 (by decide) (fun q19 => ?_) (fun q19 => ?_)
      · exact r_lv [0, 1] rfl (hK50 qv0)
      · refine r_lload_n (pc := 22) O d_B_isSeen_22 0 rfl ?_
        refine r_iload_n (pc := 23) O d_B_isSeen_23 1 rfl ?_
        refine r_bipush (pc := 24) O d_B_isSeen_24 bc_7 ?_
        refine r_isub (pc := 26) O d_B_isSeen_26 ?_
        refine r_callSip (pc := 27) O [.long p0, .int (qv0 - 7)] (R_B_isOpen n p0 (qv0 - 7) h) cw_B_isSeen_27 wm_625 rfl (Nat.le_of_ble_eq_true rfl) d_B_isSeen_27 rfl (fun v27 => ?_)
        refine r_if_ne (tgt := 35) (pc := 30) O d_B_isSeen_30 (by decide) (fun q30 => ?_) (fun q30 => ?_)
        · refine r_lload_n (pc := 35) O d_B_isSeen_35 0 rfl ?_
          refine r_iload_n (pc := 36) O d_B_isSeen_36 1 rfl ?_
          refine r_bipush (pc := 37) O d_B_isSeen_37 bc_7 ?_
          refine r_isub (pc := 39) O d_B_isSeen_39 ?_
          refine r_callSip (pc := 40) O [.long p0, .int (qv0 - 7)] (R_B_placeOf n p0 (qv0 - 7) h) cw_B_isSeen_40 wm_622 rfl (Nat.le_of_ble_eq_true rfl) d_B_isSeen_40 rfl (fun v40 => ?_)
          refine r_istore_n (lv' := [(3, .int v40), (0, .long p0), (4, .int qv1)]) (pc := 43) O d_B_isSeen_43 rfl (by decide) rfl ?_
          refine r_iinc (lv' := [(4, .int (qv1 + 1)), (3, .int v40), (0, .long p0)]) (pc := 44) O d_B_isSeen_44 2 rfl (congrArg (HAdd.hAdd _) ic_1) (by decide) rfl ?_
          refine r_goto (pc := 47) O d_B_isSeen_47 (tgt := 9) (by decide) ?_
          exact r_lv [2, 1, 0] rfl (hrec9 (v40, (qv1 + 1)))
        · refine r_iconst (pc := 33) O d_B_isSeen_33 ic_0 ?_
          exact r_zret (pc := 34) O rfl d_B_isSeen_34 nb_0
  refine r_lload_n (pc := 0) O d_B_isSeen_0 0 rfl ?_
  refine r_iload_n (pc := 1) O d_B_isSeen_1 1 rfl ?_
  refine r_callSip (pc := 2) O [.long p0, .int p2] (R_B_placeOf n p0 p2 h) cw_B_isSeen_2 wm_622 rfl (Nat.le_of_ble_eq_true rfl) d_B_isSeen_2 rfl (fun v2 => ?_)
  refine r_istore_n (lv' := [(3, .int v2), (0, .long p0), (2, .int p2)]) (pc := 5) O d_B_isSeen_5 rfl (by decide) rfl ?_
  refine r_iconst (pc := 6) O d_B_isSeen_6 ic_0 ?_
  refine r_istore (lv' := [(4, .int 0), (3, .int v2), (0, .long p0), (2, .int p2)]) (pc := 7) O d_B_isSeen_7 (by decide) rfl ?_
  exact r_lv [2, 1, 0] rfl (hL9 (v2, 0))
def J_E_isSeenOrNone (n : Nat) (p1 : Int32) (h : sHp) : Option Int32 :=
  if p1 = (-1) then (some 1) else ((J_B_isSeen n (h.2 1 4) p1 h).bind fun v10 =>
  if v10 = 0 then (some 0) else (some 1))
set_option maxRecDepth 20000 in
set_option maxHeartbeats 4000000 in
theorem R_E_isSeenOrNone (n : Nat) (p1 : Int32) (h : sHp) : sM Zc (sPi h) y_E_isSeenOrNone prog_6_method_4_code 2 (some .boolean) rm_E_isSeenOrNone [.ref 1, .int p1] h (J_E_isSeenOrNone n p1 h) := by
  refine sM_of (own := "StoryStates$Engine") rfl (by decide) (Nat.le_of_ble_eq_true rfl) (fun M V O => ?_)
  unfold J_E_isSeenOrNone
  refine r_lv (lv' := [(0, .ref 1), (1, .int p1)]) [0, 1] rfl ?_
  refine r_iload_n (pc := 0) O d_E_isSeenOrNone_0 1 rfl ?_
  refine r_iconst (pc := 1) O d_E_isSeenOrNone_1 ic_m1 ?_
  refine r_icmp_eq (tgt := 16) (pc := 2) O d_E_isSeenOrNone_2 (by decide) (fun q2 => ?_) (fun q2 => ?_)
  · refine r_iconst (pc := 16) O d_E_isSeenOrNone_16 ic_1 ?_
    refine r_goto (pc := 17) O d_E_isSeenOrNone_17 (tgt := 21) (by decide) ?_
    exact r_zret (pc := 21) O rfl d_E_isSeenOrNone_21 nb_1
  · refine r_aload_n (pc := 5) O d_E_isSeenOrNone_5 0 rfl ?_
    refine r_getL (x := (h.2 1 4)) (pc := 6) O gf_c_E_22_1 d_E_isSeenOrNone_6 rfl ?_
    refine r_iload_n (pc := 9) O d_E_isSeenOrNone_9 1 rfl ?_
    refine r_callSip (pc := 10) O [.long (h.2 1 4), .int p1] (R_B_isSeen n (h.2 1 4) p1 h) cw_E_isSeenOrNone_10 wm_619 rfl (Nat.le_of_ble_eq_true rfl) d_E_isSeenOrNone_10 rfl (fun v10 => ?_)
    refine r_if_eq (tgt := 20) (pc := 13) O d_E_isSeenOrNone_13 (by decide) (fun q13 => ?_) (fun q13 => ?_)
    · refine r_iconst (pc := 20) O d_E_isSeenOrNone_20 ic_0 ?_
      exact r_zret (pc := 21) O rfl d_E_isSeenOrNone_21 nb_0
    · refine r_iconst (pc := 16) O d_E_isSeenOrNone_16 ic_1 ?_
      refine r_goto (pc := 17) O d_E_isSeenOrNone_17 (tgt := 21) (by decide) ?_
      exact r_zret (pc := 21) O rfl d_E_isSeenOrNone_21 nb_1
def K_R_answers_53 (n : Nat) (p1 : Int32) (p2 : Int32) (p3 : Int32) (p4 : Int32) (h : sHp) : Option Int32 :=
  sGd (sIn p1 12) (if (h.1 25 (ix p1)) = 0 then (some 1) else (some 0))
def K_R_answers_31 (n : Nat) (p1 : Int32) (p2 : Int32) (p3 : Int32) (p4 : Int32) (h : sHp) : Option Int32 :=
  sGd (sIn p1 12) (if (h.1 23 (ix p1)) = (-2) then (K_R_answers_53 n p1 p2 p3 p4 h) else (sGd (sIn p1 12) (if (h.1 23 (ix p1)) = p4 then (K_R_answers_53 n p1 p2 p3 p4 h) else (some 0))))
def J_R_answers (n : Nat) (p1 : Int32) (p2 : Int32) (p3 : Int32) (p4 : Int32) (h : sHp) : Option Int32 :=
  sGd (sIn p1 12) (if (h.1 21 (ix p1)) = p2 then (sGd (sIn p1 12) (if (h.1 22 (ix p1)) = (-2) then (K_R_answers_31 n p1 p2 p3 p4 h) else (sGd (sIn p1 12) (if (h.1 22 (ix p1)) = p3 then (K_R_answers_31 n p1 p2 p3 p4 h) else (some 0))))) else (some 0))
set_option maxRecDepth 20000 in
set_option maxHeartbeats 4000000 in
theorem R_R_answers (n : Nat) (p1 : Int32) (p2 : Int32) (p3 : Int32) (p4 : Int32) (h : sHp) : sM Zc (sPi h) y_R_answers prog_7_method_3_code 5 (some .boolean) rm_R_answers [.ref 3, .int p1, .int p2, .int p3, .int p4] h (J_R_answers n p1 p2 p3 p4 h) := by
  refine sM_of (own := "StoryStates$Rules") rfl (by decide) (Nat.le_of_ble_eq_true rfl) (fun M V O => ?_)
  unfold J_R_answers
  refine r_lv (lv' := [(0, .ref 3), (1, .int p1), (2, .int p2), (3, .int p3), (4, .int p4)]) [0, 1, 2, 3, 4] rfl ?_
  have hK53 : sS Zc M V (sEb (sPi h)) 53 [(0, .ref 3), (1, .int p1)] [] h (K_R_answers_53 n p1 p2 p3 p4 h ) := by
    skip
    unfold K_R_answers_53
    refine r_aload_n (pc := 53) O d_R_answers_53 0 rfl ?_
    refine r_getR (pc := 54) O gf_c_R_24_3 d_R_answers_54 ?_
    refine r_iload_n (pc := 57) O d_R_answers_57 1 rfl ?_
    refine r_zald (x := (h.1 25 (ix p1))) (pc := 58) O rfl d_R_answers_58 rfl ?_
    refine r_if_ne (tgt := 66) (pc := 59) O d_R_answers_59 (by decide) (fun q59 => ?_) (fun q59 => ?_)
    · refine r_iconst (pc := 66) O d_R_answers_66 ic_0 ?_
      exact r_zret (pc := 67) O rfl d_R_answers_67 nb_0
    · refine r_iconst (pc := 62) O d_R_answers_62 ic_1 ?_
      refine r_goto (pc := 63) O d_R_answers_63 (tgt := 67) (by decide) ?_
      exact r_zret (pc := 67) O rfl d_R_answers_67 nb_1
  have hK31 : sS Zc M V (sEb (sPi h)) 31 [(0, .ref 3), (1, .int p1), (4, .int p4)] [] h (K_R_answers_31 n p1 p2 p3 p4 h ) := by
    skip
    unfold K_R_answers_31
    refine r_aload_n (pc := 31) O d_R_answers_31 0 rfl ?_
    refine r_getR (pc := 32) O gf_c_R_18_3 d_R_answers_32 ?_
    refine r_iload_n (pc := 35) O d_R_answers_35 1 rfl ?_
    refine r_iald (x := (h.1 23 (ix p1))) (pc := 36) O rfl d_R_answers_36 rfl ?_
    refine r_bipush (pc := 37) O d_R_answers_37 bc_m2 ?_
    refine r_icmp_eq (tgt := 53) (pc := 39) O d_R_answers_39 (by decide) (fun q39 => ?_) (fun q39 => ?_)
    · exact r_lv [0, 1] rfl (hK53 )
    · refine r_aload_n (pc := 42) O d_R_answers_42 0 rfl ?_
      refine r_getR (pc := 43) O gf_c_R_18_3 d_R_answers_43 ?_
      refine r_iload_n (pc := 46) O d_R_answers_46 1 rfl ?_
      refine r_iald (x := (h.1 23 (ix p1))) (pc := 47) O rfl d_R_answers_47 rfl ?_
      refine r_iload (pc := 48) O d_R_answers_48 2 rfl ?_
      refine r_icmp_ne (tgt := 66) (pc := 50) O d_R_answers_50 (by decide) (fun q50 => ?_) (fun q50 => ?_)
      · refine r_iconst (pc := 66) O d_R_answers_66 ic_0 ?_
        exact r_zret (pc := 67) O rfl d_R_answers_67 nb_0
      · exact r_lv [0, 1] rfl (hK53 )
  refine r_aload_n (pc := 0) O d_R_answers_0 0 rfl ?_
  refine r_getR (pc := 1) O gf_c_R_9_3 d_R_answers_1 ?_
  refine r_iload_n (pc := 4) O d_R_answers_4 1 rfl ?_
  refine r_iald (x := (h.1 21 (ix p1))) (pc := 5) O rfl d_R_answers_5 rfl ?_
  refine r_iload_n (pc := 6) O d_R_answers_6 2 rfl ?_
  refine r_icmp_ne (tgt := 66) (pc := 7) O d_R_answers_7 (by decide) (fun q7 => ?_) (fun q7 => ?_)
  · refine r_iconst (pc := 66) O d_R_answers_66 ic_0 ?_
    exact r_zret (pc := 67) O rfl d_R_answers_67 nb_0
  · refine r_aload_n (pc := 10) O d_R_answers_10 0 rfl ?_
    refine r_getR (pc := 11) O gf_c_R_15_3 d_R_answers_11 ?_
    refine r_iload_n (pc := 14) O d_R_answers_14 1 rfl ?_
    refine r_iald (x := (h.1 22 (ix p1))) (pc := 15) O rfl d_R_answers_15 rfl ?_
    refine r_bipush (pc := 16) O d_R_answers_16 bc_m2 ?_
    refine r_icmp_eq (tgt := 31) (pc := 18) O d_R_answers_18 (by decide) (fun q18 => ?_) (fun q18 => ?_)
    · exact r_lv [0, 1, 4] rfl (hK31 )
    · refine r_aload_n (pc := 21) O d_R_answers_21 0 rfl ?_
      refine r_getR (pc := 22) O gf_c_R_15_3 d_R_answers_22 ?_
      refine r_iload_n (pc := 25) O d_R_answers_25 1 rfl ?_
      refine r_iald (x := (h.1 22 (ix p1))) (pc := 26) O rfl d_R_answers_26 rfl ?_
      refine r_iload_n (pc := 27) O d_R_answers_27 3 rfl ?_
      refine r_icmp_ne (tgt := 66) (pc := 28) O d_R_answers_28 (by decide) (fun q28 => ?_) (fun q28 => ?_)
      · refine r_iconst (pc := 66) O d_R_answers_66 ic_0 ?_
        exact r_zret (pc := 67) O rfl d_R_answers_67 nb_0
      · exact r_lv [0, 1, 4] rfl (hK31 )
def J_C_startOf (n : Nat) (p1 : Int32) (h : sHp) : Option Int32 :=
  some (p1 * 3)
set_option maxRecDepth 20000 in
set_option maxHeartbeats 4000000 in
theorem R_C_startOf (n : Nat) (p1 : Int32) (h : sHp) : sM Zc (sPi h) y_C_startOf prog_4_method_3_code 2 (some .int) rm_C_startOf [.ref 4, .int p1] h (J_C_startOf n p1 h) := by
  refine sM_of (own := "StoryStates$Clauses") rfl (by decide) (Nat.le_of_ble_eq_true rfl) (fun M V O => ?_)
  unfold J_C_startOf
  refine r_lv (lv' := [(1, .int p1)]) [1] rfl ?_
  refine r_iload_n (pc := 0) O d_C_startOf_0 0 rfl ?_
  refine r_iconst (pc := 1) O d_C_startOf_1 ic_3 ?_
  refine r_imul (pc := 2) O d_C_startOf_2 ?_
  exact r_iret (pc := 3) O rfl d_C_startOf_3
def J_B_amountOf (n : Nat) (p0 : Int64) (p2 : Int32) (h : sHp) : Option Int32 :=
  some ((Int64.toInt32 (jLushr p0 (33 + (3 * p2)))) &&& 7)
set_option maxRecDepth 20000 in
set_option maxHeartbeats 4000000 in
theorem R_B_amountOf (n : Nat) (p0 : Int64) (p2 : Int32) (h : sHp) : sM Zc (sPi h) y_B_amountOf prog_3_method_8_code 3 (some .int) rm_B_amountOf [.long p0, .int p2] h (J_B_amountOf n p0 p2 h) := by
  refine sM_of (own := "StoryStates$Bits") rfl (by decide) (Nat.le_of_ble_eq_true rfl) (fun M V O => ?_)
  unfold J_B_amountOf
  refine r_lv (lv' := [(0, .long p0), (2, .int p2)]) [0, 1] rfl ?_
  refine r_lload_n (pc := 0) O d_B_amountOf_0 0 rfl ?_
  refine r_bipush (pc := 1) O d_B_amountOf_1 bc_33 ?_
  refine r_iconst (pc := 3) O d_B_amountOf_3 ic_3 ?_
  refine r_iload_n (pc := 4) O d_B_amountOf_4 1 rfl ?_
  refine r_imul (pc := 5) O d_B_amountOf_5 ?_
  refine r_iadd (pc := 6) O d_B_amountOf_6 ?_
  refine r_lushr (pc := 7) O d_B_amountOf_7 ?_
  refine r_l2i (pc := 8) O d_B_amountOf_8 ?_
  refine r_bipush (pc := 9) O d_B_amountOf_9 bc_7 ?_
  refine r_iand (pc := 11) O d_B_amountOf_11 ?_
  exact r_iret (pc := 12) O rfl d_B_amountOf_12
def J_E_holds (n : Nat) (p1 : Int32) (p2 : Int32) (p3 : Int32) (h : sHp) : Option Int32 :=
  if p1 = 0 then ((J_B_roomOf n (h.2 1 4) h).bind fun v36 =>
  if v36 = p2 then (some 1) else (some 0)) else (if p1 = 1 then ((J_B_placeOf n (h.2 1 4) p2 h).bind fun v54 =>
  if v54 = p3 then (some 1) else (some 0)) else (if p1 = 2 then ((J_B_isOpen n (h.2 1 4) p2 h).bind fun v72 =>
  if p3 = 1 then (if v72 = 1 then (some 1) else (some 0)) else (if v72 = 0 then (some 1) else (some 0))) else (if p1 = 3 then ((J_B_amountOf n (h.2 1 4) p2 h).bind fun v99 =>
  if v99 < p3 then (some 0) else (some 1)) else ((J_B_amountOf n (h.2 1 4) p2 h).bind fun v117 =>
  if p3 < v117 then (some 0) else (some 1)))))
set_option maxRecDepth 20000 in
set_option maxHeartbeats 4000000 in
theorem R_E_holds (n : Nat) (p1 : Int32) (p2 : Int32) (p3 : Int32) (h : sHp) : sM Zc (sPi h) y_E_holds prog_6_method_6_code 4 (some .boolean) rm_E_holds [.ref 1, .int p1, .int p2, .int p3] h (J_E_holds n p1 p2 p3 h) := by
  refine sM_of (own := "StoryStates$Engine") rfl (by decide) (Nat.le_of_ble_eq_true rfl) (fun M V O => ?_)
  unfold J_E_holds
  refine r_lv (lv' := [(0, .ref 1), (1, .int p1), (2, .int p2), (3, .int p3)]) [0, 1, 2, 3] rfl ?_
  refine r_iload_n (pc := 0) O d_E_holds_0 1 rfl ?_
  refine r_ite (fun q1_0 => ?_) (fun q1_0 => ?_)
  · refine r_tin (tgt := 32) (pc := 1) O d_E_holds_1 (by rw [q1_0]; decide) (by rw [q1_0]; decide) (by rw [q1_0]; rfl) (by decide) ?_
    refine r_aload_n (pc := 32) O d_E_holds_32 0 rfl ?_
    refine r_getL (x := (h.2 1 4)) (pc := 33) O gf_c_E_22_1 d_E_holds_33 rfl ?_
    refine r_callSip (pc := 36) O [.long (h.2 1 4)] (R_B_roomOf n (h.2 1 4) h) cw_E_holds_36 wm_628 rfl (Nat.le_of_ble_eq_true rfl) d_E_holds_36 rfl (fun v36 => ?_)
    refine r_iload_n (pc := 39) O d_E_holds_39 2 rfl ?_
    refine r_icmp_ne (tgt := 47) (pc := 40) O d_E_holds_40 (by decide) (fun q40 => ?_) (fun q40 => ?_)
    · refine r_iconst (pc := 47) O d_E_holds_47 ic_0 ?_
      exact r_zret (pc := 48) O rfl d_E_holds_48 nb_0
    · refine r_iconst (pc := 43) O d_E_holds_43 ic_1 ?_
      refine r_goto (pc := 44) O d_E_holds_44 (tgt := 48) (by decide) ?_
      exact r_zret (pc := 48) O rfl d_E_holds_48 nb_1
  · refine r_ite (fun q1_1 => ?_) (fun q1_1 => ?_)
    · refine r_tin (tgt := 49) (pc := 1) O d_E_holds_1 (by rw [q1_1]; decide) (by rw [q1_1]; decide) (by rw [q1_1]; rfl) (by decide) ?_
      refine r_aload_n (pc := 49) O d_E_holds_49 0 rfl ?_
      refine r_getL (x := (h.2 1 4)) (pc := 50) O gf_c_E_22_1 d_E_holds_50 rfl ?_
      refine r_iload_n (pc := 53) O d_E_holds_53 2 rfl ?_
      refine r_callSip (pc := 54) O [.long (h.2 1 4), .int p2] (R_B_placeOf n (h.2 1 4) p2 h) cw_E_holds_54 wm_622 rfl (Nat.le_of_ble_eq_true rfl) d_E_holds_54 rfl (fun v54 => ?_)
      refine r_iload_n (pc := 57) O d_E_holds_57 3 rfl ?_
      refine r_icmp_ne (tgt := 65) (pc := 58) O d_E_holds_58 (by decide) (fun q58 => ?_) (fun q58 => ?_)
      · refine r_iconst (pc := 65) O d_E_holds_65 ic_0 ?_
        exact r_zret (pc := 66) O rfl d_E_holds_66 nb_0
      · refine r_iconst (pc := 61) O d_E_holds_61 ic_1 ?_
        refine r_goto (pc := 62) O d_E_holds_62 (tgt := 66) (by decide) ?_
        exact r_zret (pc := 66) O rfl d_E_holds_66 nb_1
    · refine r_ite (fun q1_2 => ?_) (fun q1_2 => ?_)
      · refine r_tin (tgt := 67) (pc := 1) O d_E_holds_1 (by rw [q1_2]; decide) (by rw [q1_2]; decide) (by rw [q1_2]; rfl) (by decide) ?_
        refine r_aload_n (pc := 67) O d_E_holds_67 0 rfl ?_
        refine r_getL (x := (h.2 1 4)) (pc := 68) O gf_c_E_22_1 d_E_holds_68 rfl ?_
        refine r_iload_n (pc := 71) O d_E_holds_71 2 rfl ?_
        refine r_callSip (pc := 72) O [.long (h.2 1 4), .int p2] (R_B_isOpen n (h.2 1 4) p2 h) cw_E_holds_72 wm_625 rfl (Nat.le_of_ble_eq_true rfl) d_E_holds_72 rfl (fun v72 => ?_)
        refine r_iload_n (pc := 75) O d_E_holds_75 3 rfl ?_
        refine r_iconst (pc := 76) O d_E_holds_76 ic_1 ?_
        refine r_icmp_ne (tgt := 84) (pc := 77) O d_E_holds_77 (by decide) (fun q77 => ?_) (fun q77 => ?_)
        · refine r_iconst (pc := 84) O d_E_holds_84 ic_0 ?_
          refine r_icmp_ne (tgt := 92) (pc := 85) O d_E_holds_85 (by decide) (fun q85 => ?_) (fun q85 => ?_)
          · refine r_iconst (pc := 92) O d_E_holds_92 ic_0 ?_
            exact r_zret (pc := 93) O rfl d_E_holds_93 nb_0
          · refine r_iconst (pc := 88) O d_E_holds_88 ic_1 ?_
            refine r_goto (pc := 89) O d_E_holds_89 (tgt := 93) (by decide) ?_
            exact r_zret (pc := 93) O rfl d_E_holds_93 nb_1
        · refine r_iconst (pc := 80) O d_E_holds_80 ic_1 ?_
          refine r_goto (pc := 81) O d_E_holds_81 (tgt := 85) (by decide) ?_
          refine r_icmp_ne (tgt := 92) (pc := 85) O d_E_holds_85 (by decide) (fun q85 => ?_) (fun q85 => ?_)
          · refine r_iconst (pc := 92) O d_E_holds_92 ic_0 ?_
            exact r_zret (pc := 93) O rfl d_E_holds_93 nb_0
          · refine r_iconst (pc := 88) O d_E_holds_88 ic_1 ?_
            refine r_goto (pc := 89) O d_E_holds_89 (tgt := 93) (by decide) ?_
            exact r_zret (pc := 93) O rfl d_E_holds_93 nb_1
      · refine r_ite (fun q1_3 => ?_) (fun q1_3 => ?_)
        · refine r_tin (tgt := 94) (pc := 1) O d_E_holds_1 (by rw [q1_3]; decide) (by rw [q1_3]; decide) (by rw [q1_3]; rfl) (by decide) ?_
          refine r_aload_n (pc := 94) O d_E_holds_94 0 rfl ?_
          refine r_getL (x := (h.2 1 4)) (pc := 95) O gf_c_E_22_1 d_E_holds_95 rfl ?_
          refine r_iload_n (pc := 98) O d_E_holds_98 2 rfl ?_
          refine r_callSip (pc := 99) O [.long (h.2 1 4), .int p2] (R_B_amountOf n (h.2 1 4) p2 h) cw_E_holds_99 wm_651 rfl (Nat.le_of_ble_eq_true rfl) d_E_holds_99 rfl (fun v99 => ?_)
          refine r_iload_n (pc := 102) O d_E_holds_102 3 rfl ?_
          refine r_icmp_lt (tgt := 110) (pc := 103) O d_E_holds_103 (by decide) (fun q103 => ?_) (fun q103 => ?_)
          · refine r_iconst (pc := 110) O d_E_holds_110 ic_0 ?_
            exact r_zret (pc := 111) O rfl d_E_holds_111 nb_0
          · refine r_iconst (pc := 106) O d_E_holds_106 ic_1 ?_
            refine r_goto (pc := 107) O d_E_holds_107 (tgt := 111) (by decide) ?_
            exact r_zret (pc := 111) O rfl d_E_holds_111 nb_1
        · refine r_tout (tgt := 112) (pc := 1) O d_E_holds_1 (by have z0 := lv_neT (a := 0) q1_0 (by decide); have z1 := lv_neT (a := 1) q1_1 (by decide); have z2 := lv_neT (a := 2) q1_2 (by decide); have z3 := lv_neT (a := 3) q1_3 (by decide); omega) (by decide) ?_
          refine r_aload_n (pc := 112) O d_E_holds_112 0 rfl ?_
          refine r_getL (x := (h.2 1 4)) (pc := 113) O gf_c_E_22_1 d_E_holds_113 rfl ?_
          refine r_iload_n (pc := 116) O d_E_holds_116 2 rfl ?_
          refine r_callSip (pc := 117) O [.long (h.2 1 4), .int p2] (R_B_amountOf n (h.2 1 4) p2 h) cw_E_holds_117 wm_651 rfl (Nat.le_of_ble_eq_true rfl) d_E_holds_117 rfl (fun v117 => ?_)
          refine r_iload_n (pc := 120) O d_E_holds_120 3 rfl ?_
          refine r_icmp_gt (tgt := 128) (pc := 121) O d_E_holds_121 (by decide) (fun q121 => ?_) (fun q121 => ?_)
          · refine r_iconst (pc := 128) O d_E_holds_128 ic_0 ?_
            exact r_zret (pc := 129) O rfl d_E_holds_129 nb_0
          · refine r_iconst (pc := 124) O d_E_holds_124 ic_1 ?_
            refine r_goto (pc := 125) O d_E_holds_125 (tgt := 129) (by decide) ?_
            exact r_zret (pc := 129) O rfl d_E_holds_129 nb_1
def F_E_conditionsHold_24 (n : Nat) (p1 : Int32) (h : sHp) (x3 : Int32) (rec24 : Int32 → Option Int32) (q : Int32) : Option Int32 :=
  if x3 ≤ q then (some 1) else (sGd (sIn q 36) (sGd (sIn q 36) (sGd (sIn q 36) ((J_E_holds n (h.1 27 (ix q)) (h.1 28 (ix q)) (h.1 29 (ix q)) h).bind fun v52 =>
  if v52 = 0 then (some 0) else (rec24 (q + 1))))))
def J_E_conditionsHold (n : Nat) (p1 : Int32) (h : sHp) : Option Int32 :=
  (J_C_endOf n p1 h).bind fun v13 =>
  (J_C_startOf n p1 h).bind fun v19 =>
  sFx (F_E_conditionsHold_24 n p1 h v13) n v19
set_option maxRecDepth 20000 in
set_option maxHeartbeats 4000000 in
theorem R_E_conditionsHold (n : Nat) (p1 : Int32) (h : sHp) : sM Zc (sPi h) y_E_conditionsHold prog_6_method_5_code 5 (some .boolean) rm_E_conditionsHold [.ref 1, .int p1] h (J_E_conditionsHold n p1 h) := by
  refine sM_of (own := "StoryStates$Engine") rfl (by decide) (Nat.le_of_ble_eq_true rfl) (fun M V O => ?_)
  unfold J_E_conditionsHold
  refine r_lv (lv' := [(0, .ref 1), (1, .int p1)]) [0, 1] rfl ?_
  have hL24 : ∀ (x3 : Int32) (q : Int32), sS Zc M V (sEb (sPi h)) 24 [(0, .ref 1), (2, .ref 4), (3, .int x3), (4, .int q)] [] h (sFx (F_E_conditionsHold_24 n p1 h x3) n q) := by
    intro x3
    refine r_fx (fun q => [(0, .ref 1), (2, .ref 4), (3, .int x3), (4, .int q)]) (fun q => h) (F_E_conditionsHold_24 n p1 h x3) (fun rec24 hrec24 q => ?_) n
    skip
    show sS Zc M V (sEb (sPi h)) 24 [(0, .ref 1), (2, .ref 4), (3, .int x3), (4, .int q)] [] h _
    unfold F_E_conditionsHold_24
    try dsimp only
    refine r_iload (pc := 24) O d_E_conditionsHold_24 3 rfl ?_
    refine r_iload_n (pc := 26) O d_E_conditionsHold_26 2 rfl ?_
    refine r_icmp_ge (tgt := 66) (pc := 27) O d_E_conditionsHold_27 (by decide) (fun q27 => ?_) (fun q27 => ?_)
    · refine r_iconst (pc := 66) O d_E_conditionsHold_66 ic_1 ?_
      exact r_zret (pc := 67) O rfl d_E_conditionsHold_67 nb_1
    · refine r_aload_n (pc := 30) O d_E_conditionsHold_30 0 rfl ?_
      refine r_aload_n (pc := 31) O d_E_conditionsHold_31 1 rfl ?_
      refine r_getR (pc := 32) O gf_c_E_103_4 d_E_conditionsHold_32 ?_
      refine r_iload (pc := 35) O d_E_conditionsHold_35 3 rfl ?_
      refine r_iald (x := (h.1 27 (ix q))) (pc := 37) O rfl d_E_conditionsHold_37 rfl ?_
      refine r_aload_n (pc := 38) O d_E_conditionsHold_38 1 rfl ?_
      refine r_getR (pc := 39) O gf_c_E_106_4 d_E_conditionsHold_39 ?_
      refine r_iload (pc := 42) O d_E_conditionsHold_42 3 rfl ?_
      refine r_iald (x := (h.1 28 (ix q))) (pc := 44) O rfl d_E_conditionsHold_44 rfl ?_
      refine r_aload_n (pc := 45) O d_E_conditionsHold_45 1 rfl ?_
      refine r_getR (pc := 46) O gf_c_E_109_4 d_E_conditionsHold_46 ?_
      refine r_iload (pc := 49) O d_E_conditionsHold_49 3 rfl ?_
      refine r_iald (x := (h.1 29 (ix q))) (pc := 51) O rfl d_E_conditionsHold_51 rfl ?_
      refine r_callVip (pc := 52) O [.int (h.1 27 (ix q)), .int (h.1 28 (ix q)), .int (h.1 29 (ix q))] rfl rfl (R_E_holds n (h.1 27 (ix q)) (h.1 28 (ix q)) (h.1 29 (ix q)) h) cw_E_conditionsHold_52 wm_645 ws_E_holds rfl (Nat.le_of_ble_eq_true rfl) d_E_conditionsHold_52 rfl (fun v52 => ?_)
      refine r_if_ne (tgt := 60) (pc := 55) O d_E_conditionsHold_55 (by decide) (fun q55 => ?_) (fun q55 => ?_)
      · refine r_iinc (lv' := [(4, .int (q + 1)), (0, .ref 1), (2, .ref 4), (3, .int x3)]) (pc := 60) O d_E_conditionsHold_60 3 rfl (congrArg (HAdd.hAdd _) ic_1) (by decide) rfl ?_
        refine r_goto (pc := 63) O d_E_conditionsHold_63 (tgt := 24) (by decide) ?_
        exact r_lv [1, 2, 3, 0] rfl (hrec24 (q + 1))
      · refine r_iconst (pc := 58) O d_E_conditionsHold_58 ic_0 ?_
        exact r_zret (pc := 59) O rfl d_E_conditionsHold_59 nb_0
  refine r_aload_n (pc := 0) O d_E_conditionsHold_0 0 rfl ?_
  refine r_getR (pc := 1) O gf_c_E_12_1 d_E_conditionsHold_1 ?_
  refine r_getR (pc := 4) O gf_c_E_73_2 d_E_conditionsHold_4 ?_
  refine r_getR (pc := 7) O gf_c_E_90_3 d_E_conditionsHold_7 ?_
  refine r_astore_n (lv' := [(2, .ref 4), (0, .ref 1), (1, .int p1)]) (pc := 10) O d_E_conditionsHold_10 rfl (by decide) rfl ?_
  refine r_aload_n (pc := 11) O d_E_conditionsHold_11 0 rfl ?_
  refine r_iload_n (pc := 12) O d_E_conditionsHold_12 2 rfl ?_
  refine r_callVip (pc := 13) O [.int p1] rfl rfl (R_C_endOf n p1 h) cw_E_conditionsHold_13 wm_539 wm_540 rfl (Nat.le_of_ble_eq_true rfl) d_E_conditionsHold_13 rfl (fun v13 => ?_)
  refine r_istore_n (lv' := [(3, .int v13), (2, .ref 4), (0, .ref 1), (1, .int p1)]) (pc := 16) O d_E_conditionsHold_16 rfl (by decide) rfl ?_
  refine r_aload_n (pc := 17) O d_E_conditionsHold_17 1 rfl ?_
  refine r_iload_n (pc := 18) O d_E_conditionsHold_18 3 rfl ?_
  refine r_callVip (pc := 19) O [.int p1] rfl rfl (R_C_startOf n p1 h) cw_E_conditionsHold_19 wm_640 wm_641 rfl (Nat.le_of_ble_eq_true rfl) d_E_conditionsHold_19 rfl (fun v19 => ?_)
  refine r_istore (lv' := [(4, .int v19), (3, .int v13), (2, .ref 4), (0, .ref 1), (1, .int p1)]) (pc := 22) O d_E_conditionsHold_22 (by decide) rfl ?_
  exact r_lv [3, 2, 1, 0] rfl (hL24 v13 v19)
def F_E_fittingRule_25 (n : Nat) (p1 : Int32) (p2 : Int32) (p3 : Int32) (h : sHp) (rec25 : Int32 → Option Int32) (q : Int32) : Option Int32 :=
  if (h.1 3 7) ≤ q then (some (-1)) else ((J_R_answers n q p1 p2 p3 h).bind fun v52 =>
  if v52 = 0 then (rec25 (q + 1)) else ((J_E_conditionsHold n q h).bind fun v61 =>
  if v61 = 0 then (rec25 (q + 1)) else (some q)))
def K_E_fittingRule_22 (n : Nat) (p1 : Int32) (p2 : Int32) (p3 : Int32) (h : sHp) : Option Int32 :=
  sFx (F_E_fittingRule_25 n p1 p2 p3 h ) n 0
def J_E_fittingRule (n : Nat) (p1 : Int32) (p2 : Int32) (p3 : Int32) (h : sHp) : Option Int32 :=
  if p1 = 0 then (K_E_fittingRule_22 n p1 p2 p3 h) else ((J_E_isSeenOrNone n p2 h).bind fun v6 =>
  if v6 = 0 then (some (-1)) else ((J_E_isSeenOrNone n p3 h).bind fun v14 =>
  if v14 = 0 then (some (-1)) else (K_E_fittingRule_22 n p1 p2 p3 h)))
set_option maxRecDepth 20000 in
set_option maxHeartbeats 4000000 in
theorem R_E_fittingRule (n : Nat) (p1 : Int32) (p2 : Int32) (p3 : Int32) (h : sHp) : sM Zc (sPi h) y_E_fittingRule prog_6_method_3_code 5 (some .int) rm_E_fittingRule [.ref 1, .int p1, .int p2, .int p3] h (J_E_fittingRule n p1 p2 p3 h) := by
  refine sM_of (own := "StoryStates$Engine") rfl (by decide) (Nat.le_of_ble_eq_true rfl) (fun M V O => ?_)
  unfold J_E_fittingRule
  refine r_lv (lv' := [(0, .ref 1), (1, .int p1), (2, .int p2), (3, .int p3)]) [0, 1, 2, 3] rfl ?_
  have hL25 : ∀ (q : Int32), sS Zc M V (sEb (sPi h)) 25 [(0, .ref 1), (1, .int p1), (2, .int p2), (3, .int p3), (4, .int q)] [] h (sFx (F_E_fittingRule_25 n p1 p2 p3 h ) n q) := by
    skip
    refine r_fx (fun q => [(0, .ref 1), (1, .int p1), (2, .int p2), (3, .int p3), (4, .int q)]) (fun q => h) (F_E_fittingRule_25 n p1 p2 p3 h ) (fun rec25 hrec25 q => ?_) n
    skip
    show sS Zc M V (sEb (sPi h)) 25 [(0, .ref 1), (1, .int p1), (2, .int p2), (3, .int p3), (4, .int q)] [] h _
    unfold F_E_fittingRule_25
    try dsimp only
    refine r_iload (pc := 25) O d_E_fittingRule_25 4 rfl ?_
    refine r_aload_n (pc := 27) O d_E_fittingRule_27 0 rfl ?_
    refine r_getR (pc := 28) O gf_c_E_12_1 d_E_fittingRule_28 ?_
    refine r_getR (pc := 31) O gf_c_E_73_2 d_E_fittingRule_31 ?_
    refine r_getI (x := (h.1 3 7)) (pc := 34) O gf_c_E_77_3 d_E_fittingRule_34 rfl ?_
    refine r_icmp_ge (tgt := 76) (pc := 37) O d_E_fittingRule_37 (by decide) (fun q37 => ?_) (fun q37 => ?_)
    · refine r_iconst (pc := 76) O d_E_fittingRule_76 ic_m1 ?_
      exact r_iret (pc := 77) O rfl d_E_fittingRule_77
    · refine r_aload_n (pc := 40) O d_E_fittingRule_40 0 rfl ?_
      refine r_getR (pc := 41) O gf_c_E_12_1 d_E_fittingRule_41 ?_
      refine r_getR (pc := 44) O gf_c_E_73_2 d_E_fittingRule_44 ?_
      refine r_iload (pc := 47) O d_E_fittingRule_47 4 rfl ?_
      refine r_iload_n (pc := 49) O d_E_fittingRule_49 1 rfl ?_
      refine r_iload_n (pc := 50) O d_E_fittingRule_50 2 rfl ?_
      refine r_iload_n (pc := 51) O d_E_fittingRule_51 3 rfl ?_
      refine r_callVip (pc := 52) O [.int q, .int p1, .int p2, .int p3] rfl rfl (R_R_answers n q p1 p2 p3 h) cw_E_fittingRule_52 wm_631 wm_632 rfl (Nat.le_of_ble_eq_true rfl) d_E_fittingRule_52 rfl (fun v52 => ?_)
      refine r_if_eq (tgt := 70) (pc := 55) O d_E_fittingRule_55 (by decide) (fun q55 => ?_) (fun q55 => ?_)
      · refine r_iinc (lv' := [(4, .int (q + 1)), (0, .ref 1), (1, .int p1), (2, .int p2), (3, .int p3)]) (pc := 70) O d_E_fittingRule_70 4 rfl (congrArg (HAdd.hAdd _) ic_1) (by decide) rfl ?_
        refine r_goto (pc := 73) O d_E_fittingRule_73 (tgt := 25) (by decide) ?_
        exact r_lv [1, 2, 3, 4, 0] rfl (hrec25 (q + 1))
      · refine r_aload_n (pc := 58) O d_E_fittingRule_58 0 rfl ?_
        refine r_iload (pc := 59) O d_E_fittingRule_59 4 rfl ?_
        refine r_callVip (pc := 61) O [.int q] rfl rfl (R_E_conditionsHold n q h) cw_E_fittingRule_61 wm_636 ws_E_conditionsHold rfl (Nat.le_of_ble_eq_true rfl) d_E_fittingRule_61 rfl (fun v61 => ?_)
        refine r_if_eq (tgt := 70) (pc := 64) O d_E_fittingRule_64 (by decide) (fun q64 => ?_) (fun q64 => ?_)
        · refine r_iinc (lv' := [(4, .int (q + 1)), (0, .ref 1), (1, .int p1), (2, .int p2), (3, .int p3)]) (pc := 70) O d_E_fittingRule_70 4 rfl (congrArg (HAdd.hAdd _) ic_1) (by decide) rfl ?_
          refine r_goto (pc := 73) O d_E_fittingRule_73 (tgt := 25) (by decide) ?_
          exact r_lv [1, 2, 3, 4, 0] rfl (hrec25 (q + 1))
        · refine r_iload (pc := 67) O d_E_fittingRule_67 4 rfl ?_
          exact r_iret (pc := 69) O rfl d_E_fittingRule_69
  have hK22 : sS Zc M V (sEb (sPi h)) 22 [(0, .ref 1), (1, .int p1), (2, .int p2), (3, .int p3)] [] h (K_E_fittingRule_22 n p1 p2 p3 h ) := by
    skip
    unfold K_E_fittingRule_22
    refine r_iconst (pc := 22) O d_E_fittingRule_22 ic_0 ?_
    refine r_istore (lv' := [(4, .int 0), (0, .ref 1), (1, .int p1), (2, .int p2), (3, .int p3)]) (pc := 23) O d_E_fittingRule_23 (by decide) rfl ?_
    exact r_lv [1, 2, 3, 4, 0] rfl (hL25 0)
  refine r_iload_n (pc := 0) O d_E_fittingRule_0 1 rfl ?_
  refine r_if_eq (tgt := 22) (pc := 1) O d_E_fittingRule_1 (by decide) (fun q1 => ?_) (fun q1 => ?_)
  · exact (hK22 )
  · refine r_aload_n (pc := 4) O d_E_fittingRule_4 0 rfl ?_
    refine r_iload_n (pc := 5) O d_E_fittingRule_5 2 rfl ?_
    refine r_callVip (pc := 6) O [.int p2] rfl rfl (R_E_isSeenOrNone n p2 h) cw_E_fittingRule_6 wm_616 ws_E_isSeenOrNone rfl (Nat.le_of_ble_eq_true rfl) d_E_fittingRule_6 rfl (fun v6 => ?_)
    refine r_if_eq (tgt := 20) (pc := 9) O d_E_fittingRule_9 (by decide) (fun q9 => ?_) (fun q9 => ?_)
    · refine r_iconst (pc := 20) O d_E_fittingRule_20 ic_m1 ?_
      exact r_iret (pc := 21) O rfl d_E_fittingRule_21
    · refine r_aload_n (pc := 12) O d_E_fittingRule_12 0 rfl ?_
      refine r_iload_n (pc := 13) O d_E_fittingRule_13 3 rfl ?_
      refine r_callVip (pc := 14) O [.int p3] rfl rfl (R_E_isSeenOrNone n p3 h) cw_E_fittingRule_14 wm_616 ws_E_isSeenOrNone rfl (Nat.le_of_ble_eq_true rfl) d_E_fittingRule_14 rfl (fun v14 => ?_)
      refine r_if_ne (tgt := 22) (pc := 17) O d_E_fittingRule_17 (by decide) (fun q17 => ?_) (fun q17 => ?_)
      · exact (hK22 )
      · refine r_iconst (pc := 20) O d_E_fittingRule_20 ic_m1 ?_
        exact r_iret (pc := 21) O rfl d_E_fittingRule_21
def J_E_say (n : Nat) (p1 : Int32) (h : sHp) : Option sHp :=
  if 3 ≤ (h.1 1 2) then (some h) else (sGd (sIn (h.1 1 2) 3) (some (pI (pI h 9 (ix (h.1 1 2)) p1) 1 2 ((h.1 1 2) + 1))))
set_option maxRecDepth 20000 in
set_option maxHeartbeats 4000000 in
theorem R_E_say (n : Nat) (p1 : Int32) (h : sHp) : sM Zc sOv y_E_say prog_6_method_17_code 2 none rm_E_say [.ref 1, .int p1] h (J_E_say n p1 h) := by
  refine sM_of (own := "StoryStates$Engine") rfl (by decide) (Nat.le_of_ble_eq_true rfl) (fun M V O => ?_)
  unfold J_E_say
  refine r_lv (lv' := [(0, .ref 1), (1, .int p1)]) [0, 1] rfl ?_
  refine r_aload_n (pc := 0) O d_E_say_0 0 rfl ?_
  refine r_getI (x := (h.1 1 2)) (pc := 1) O gf_c_E_26_1 d_E_say_1 rfl ?_
  refine r_iconst (pc := 4) O d_E_say_4 ic_3 ?_
  refine r_icmp_ge (tgt := 28) (pc := 5) O d_E_say_5 (by decide) (fun q5 => ?_) (fun q5 => ?_)
  · exact r_vret (pc := 28) O rfl d_E_say_28
  · refine r_aload_n (pc := 8) O d_E_say_8 0 rfl ?_
    refine r_getR (pc := 9) O gf_c_E_18_1 d_E_say_9 ?_
    refine r_aload_n (pc := 12) O d_E_say_12 0 rfl ?_
    refine r_getI (x := (h.1 1 2)) (pc := 13) O gf_c_E_26_1 d_E_say_13 rfl ?_
    refine r_iload_n (pc := 16) O d_E_say_16 1 rfl ?_
    refine r_iast (pc := 17) O rfl d_E_say_17 ?_
    refine r_aload_n (pc := 18) O d_E_say_18 0 rfl ?_
    refine r_dup (pc := 19) O d_E_say_19 rfl ?_
    refine r_getI (x := (h.1 1 2)) (pc := 20) O gf_c_E_26_1 d_E_say_20 rfl ?_
    refine r_iconst (pc := 23) O d_E_say_23 ic_1 ?_
    refine r_iadd (pc := 24) O d_E_say_24 ?_
    refine r_putI (pc := 25) O pf_c_E_26_1 d_E_say_25 ?_
    exact r_vret (pc := 28) O rfl d_E_say_28
def J_C_startOf_1 (n : Nat) (p1 : Int32) (h : sHp) : Option Int32 :=
  some (p1 * 3)
set_option maxRecDepth 20000 in
set_option maxHeartbeats 4000000 in
theorem R_C_startOf_1 (n : Nat) (p1 : Int32) (h : sHp) : sM Zc (sPi h) y_C_startOf prog_4_method_3_code 2 (some .int) rm_C_startOf_1 [.ref 5, .int p1] h (J_C_startOf_1 n p1 h) := by
  refine sM_of (own := "StoryStates$Clauses") rfl (by decide) (Nat.le_of_ble_eq_true rfl) (fun M V O => ?_)
  unfold J_C_startOf_1
  refine r_lv (lv' := [(1, .int p1)]) [1] rfl ?_
  refine r_iload_n (pc := 0) O d_C_startOf_0 0 rfl ?_
  refine r_iconst (pc := 1) O d_C_startOf_1 ic_3 ?_
  refine r_imul (pc := 2) O d_C_startOf_2 ?_
  exact r_iret (pc := 3) O rfl d_C_startOf_3
def J_B_endingOf (n : Nat) (p0 : Int64) (h : sHp) : Option Int32 :=
  some (((Int64.toInt32 (jLushr p0 54)) &&& 7) - 1)
set_option maxRecDepth 20000 in
set_option maxHeartbeats 4000000 in
theorem R_B_endingOf (n : Nat) (p0 : Int64) (h : sHp) : sM Zc (sPi h) y_B_endingOf prog_3_method_15_code 2 (some .int) rm_B_endingOf [.long p0] h (J_B_endingOf n p0 h) := by
  refine sM_of (own := "StoryStates$Bits") rfl (by decide) (Nat.le_of_ble_eq_true rfl) (fun M V O => ?_)
  unfold J_B_endingOf
  refine r_lv (lv' := [(0, .long p0)]) [0] rfl ?_
  refine r_lload_n (pc := 0) O d_B_endingOf_0 0 rfl ?_
  refine r_bipush (pc := 1) O d_B_endingOf_1 bc_54 ?_
  refine r_lushr (pc := 3) O d_B_endingOf_3 ?_
  refine r_l2i (pc := 4) O d_B_endingOf_4 ?_
  refine r_bipush (pc := 5) O d_B_endingOf_5 bc_7 ?_
  refine r_iand (pc := 7) O d_B_endingOf_7 ?_
  refine r_iconst (pc := 8) O d_B_endingOf_8 ic_1 ?_
  refine r_isub (pc := 9) O d_B_endingOf_9 ?_
  exact r_iret (pc := 10) O rfl d_B_endingOf_10
def J_B_isOver (n : Nat) (p0 : Int64) (h : sHp) : Option Int32 :=
  (J_B_endingOf n p0 h).bind fun v1 =>
  if v1 = (-1) then (some 0) else (some 1)
set_option maxRecDepth 20000 in
set_option maxHeartbeats 4000000 in
theorem R_B_isOver (n : Nat) (p0 : Int64) (h : sHp) : sM Zc (sPi h) y_B_isOver prog_3_method_14_code 2 (some .boolean) rm_B_isOver [.long p0] h (J_B_isOver n p0 h) := by
  refine sM_of (own := "StoryStates$Bits") rfl (by decide) (Nat.le_of_ble_eq_true rfl) (fun M V O => ?_)
  unfold J_B_isOver
  refine r_lv (lv' := [(0, .long p0)]) [0] rfl ?_
  refine r_lload_n (pc := 0) O d_B_isOver_0 0 rfl ?_
  refine r_callSip (pc := 1) O [.long p0] (R_B_endingOf n p0 h) cw_B_isOver_1 wm_604 rfl (Nat.le_of_ble_eq_true rfl) d_B_isOver_1 rfl (fun v1 => ?_)
  refine r_iconst (pc := 4) O d_B_isOver_4 ic_m1 ?_
  refine r_icmp_eq (tgt := 12) (pc := 5) O d_B_isOver_5 (by decide) (fun q5 => ?_) (fun q5 => ?_)
  · refine r_iconst (pc := 12) O d_B_isOver_12 ic_0 ?_
    exact r_zret (pc := 13) O rfl d_B_isOver_13 nb_0
  · refine r_iconst (pc := 8) O d_B_isOver_8 ic_1 ?_
    refine r_goto (pc := 9) O d_B_isOver_9 (tgt := 13) (by decide) ?_
    exact r_zret (pc := 13) O rfl d_B_isOver_13 nb_1
def J_B_withEnding (n : Nat) (p0 : Int64) (p2 : Int32) (h : sHp) : Option Int64 :=
  (J_B_write n p0 54 7 (p2 + 1) h).bind fun v8 =>
  some v8
set_option maxRecDepth 20000 in
set_option maxHeartbeats 4000000 in
theorem R_B_withEnding (n : Nat) (p0 : Int64) (p2 : Int32) (h : sHp) : sM Zc (sPl h) y_B_withEnding prog_3_method_16_code 3 (some .long) rm_B_withEnding [.long p0, .int p2] h (J_B_withEnding n p0 p2 h) := by
  refine sM_of (own := "StoryStates$Bits") rfl (by decide) (Nat.le_of_ble_eq_true rfl) (fun M V O => ?_)
  unfold J_B_withEnding
  refine r_lv (lv' := [(0, .long p0), (2, .int p2)]) [0, 1] rfl ?_
  refine r_lload_n (pc := 0) O d_B_withEnding_0 0 rfl ?_
  refine r_bipush (pc := 1) O d_B_withEnding_1 bc_54 ?_
  refine r_bipush (pc := 3) O d_B_withEnding_3 bc_7 ?_
  refine r_iload_n (pc := 5) O d_B_withEnding_5 1 rfl ?_
  refine r_iconst (pc := 6) O d_B_withEnding_6 ic_1 ?_
  refine r_iadd (pc := 7) O d_B_withEnding_7 ?_
  refine r_callSlp (pc := 8) O [.long p0, .int 54, .int 7, .int (p2 + 1)] (R_B_write n p0 54 7 (p2 + 1) h) cw_B_withEnding_8 wm_291 rfl (Nat.le_of_ble_eq_true rfl) d_B_withEnding_8 rfl (fun v8 => ?_)
  exact r_lret (pc := 11) O rfl d_B_withEnding_11
def F_B_isPartOf_6 (n : Nat) (p0 : Int64) (p2 : Int32) (p3 : Int32) (h : sHp) (rec6 : Int32 × Int32 → Option Int32) (q : Int32 × Int32) : Option Int32 :=
  if 6 ≤ q.2 then (some 0) else (if q.1 < 0 then (some 0) else (if q.1 = p3 then (some 1) else ((J_B_placeOf n p0 q.1 h).bind fun v29 =>
  rec6 ((v29 - 7), (q.2 + 1)))))
def J_B_isPartOf (n : Nat) (p0 : Int64) (p2 : Int32) (p3 : Int32) (h : sHp) : Option Int32 :=
  sFx (F_B_isPartOf_6 n p0 p2 p3 h ) n (p2, 0)
set_option maxRecDepth 20000 in
set_option maxHeartbeats 4000000 in
theorem R_B_isPartOf (n : Nat) (p0 : Int64) (p2 : Int32) (p3 : Int32) (h : sHp) : sM Zc (sPi h) y_B_isPartOf prog_3_method_18_code 6 (some .boolean) rm_B_isPartOf [.long p0, .int p2, .int p3] h (J_B_isPartOf n p0 p2 p3 h) := by
  refine sM_of (own := "StoryStates$Bits") rfl (by decide) (Nat.le_of_ble_eq_true rfl) (fun M V O => ?_)
  unfold J_B_isPartOf
  refine r_lv (lv' := [(0, .long p0), (2, .int p2), (3, .int p3)]) [0, 1, 2] rfl ?_
  have hL6 : ∀ (q : Int32 × Int32), sS Zc M V (sEb (sPi h)) 6 [(0, .long p0), (3, .int p3), (4, .int q.1), (5, .int q.2)] [] h (sFx (F_B_isPartOf_6 n p0 p2 p3 h ) n q) := by
    skip
    refine r_fx (fun q => [(0, .long p0), (3, .int p3), (4, .int q.1), (5, .int q.2)]) (fun q => h) (F_B_isPartOf_6 n p0 p2 p3 h ) (fun rec6 hrec6 q => ?_) n
    obtain ⟨qv0, qv1⟩ := q
    show sS Zc M V (sEb (sPi h)) 6 [(0, .long p0), (3, .int p3), (4, .int qv0), (5, .int qv1)] [] h _
    unfold F_B_isPartOf_6
    try dsimp only
    refine r_iload (pc := 6) O d_B_isPartOf_6 3 rfl ?_
    refine r_bipush (pc := 8) O d_B_isPartOf_8 bc_6 ?_
    refine r_icmp_ge (tgt := 43) (pc := 10) O d_B_isPartOf_10 (by decide) (fun q10 => ?_) (fun q10 => ?_)
    · refine r_iconst (pc := 43) O d_B_isPartOf_43 ic_0 ?_
      exact r_zret (pc := 44) O rfl d_B_isPartOf_44 nb_0
    · refine r_iload (pc := 13) O d_B_isPartOf_13 2 rfl ?_
      refine r_if_lt (tgt := 43) (pc := 15) O d_B_isPartOf_15 (by decide) (fun q15 => ?_) (fun q15 => ?_)
      · refine r_iconst (pc := 43) O d_B_isPartOf_43 ic_0 ?_
        exact r_zret (pc := 44) O rfl d_B_isPartOf_44 nb_0
      · refine r_iload (pc := 18) O d_B_isPartOf_18 2 rfl ?_
        refine r_iload_n (pc := 20) O d_B_isPartOf_20 1 rfl ?_
        refine r_icmp_ne (tgt := 26) (pc := 21) O d_B_isPartOf_21 (by decide) (fun q21 => ?_) (fun q21 => ?_)
        · refine r_lload_n (pc := 26) O d_B_isPartOf_26 0 rfl ?_
          refine r_iload (pc := 27) O d_B_isPartOf_27 2 rfl ?_
          refine r_callSip (pc := 29) O [.long p0, .int qv0] (R_B_placeOf n p0 qv0 h) cw_B_isPartOf_29 wm_622 rfl (Nat.le_of_ble_eq_true rfl) d_B_isPartOf_29 rfl (fun v29 => ?_)
          refine r_bipush (pc := 32) O d_B_isPartOf_32 bc_7 ?_
          refine r_isub (pc := 34) O d_B_isPartOf_34 ?_
          refine r_istore (lv' := [(4, .int (v29 - 7)), (0, .long p0), (3, .int p3), (5, .int qv1)]) (pc := 35) O d_B_isPartOf_35 (by decide) rfl ?_
          refine r_iinc (lv' := [(5, .int (qv1 + 1)), (4, .int (v29 - 7)), (0, .long p0), (3, .int p3)]) (pc := 37) O d_B_isPartOf_37 3 rfl (congrArg (HAdd.hAdd _) ic_1) (by decide) rfl ?_
          refine r_goto (pc := 40) O d_B_isPartOf_40 (tgt := 6) (by decide) ?_
          exact r_lv [2, 3, 1, 0] rfl (hrec6 ((v29 - 7), (qv1 + 1)))
        · refine r_iconst (pc := 24) O d_B_isPartOf_24 ic_1 ?_
          exact r_zret (pc := 25) O rfl d_B_isPartOf_25 nb_1
  refine r_iload_n (pc := 0) O d_B_isPartOf_0 1 rfl ?_
  refine r_istore (lv' := [(4, .int p2), (0, .long p0), (2, .int p2), (3, .int p3)]) (pc := 1) O d_B_isPartOf_1 (by decide) rfl ?_
  refine r_iconst (pc := 3) O d_B_isPartOf_3 ic_0 ?_
  refine r_istore (lv' := [(5, .int 0), (4, .int p2), (0, .long p0), (2, .int p2), (3, .int p3)]) (pc := 4) O d_B_isPartOf_4 (by decide) rfl ?_
  exact r_lv [2, 4, 1, 0] rfl (hL6 (p2, 0))
def J_B_withRoom (n : Nat) (p0 : Int64) (p2 : Int32) (h : sHp) : Option Int64 :=
  (J_B_write n p0 0 7 p2 h).bind fun v5 =>
  some v5
set_option maxRecDepth 20000 in
set_option maxHeartbeats 4000000 in
theorem R_B_withRoom (n : Nat) (p0 : Int64) (p2 : Int32) (h : sHp) : sM Zc (sPl h) y_B_withRoom prog_3_method_3_code 3 (some .long) rm_B_withRoom [.long p0, .int p2] h (J_B_withRoom n p0 p2 h) := by
  refine sM_of (own := "StoryStates$Bits") rfl (by decide) (Nat.le_of_ble_eq_true rfl) (fun M V O => ?_)
  unfold J_B_withRoom
  refine r_lv (lv' := [(0, .long p0), (2, .int p2)]) [0, 1] rfl ?_
  refine r_lload_n (pc := 0) O d_B_withRoom_0 0 rfl ?_
  refine r_iconst (pc := 1) O d_B_withRoom_1 ic_0 ?_
  refine r_bipush (pc := 2) O d_B_withRoom_2 bc_7 ?_
  refine r_iload_n (pc := 4) O d_B_withRoom_4 1 rfl ?_
  refine r_callSlp (pc := 5) O [.long p0, .int 0, .int 7, .int p2] (R_B_write n p0 0 7 p2 h) cw_B_withRoom_5 wm_291 rfl (Nat.le_of_ble_eq_true rfl) d_B_withRoom_5 rfl (fun v5 => ?_)
  exact r_lret (pc := 8) O rfl d_B_withRoom_8
def K_E_doEffect_68 (n : Nat) (p1 : Int32) (p2 : Int32) (p3 : Int32) (h : sHp) : Option sHp :=
  (J_B_withPlace n (h.2 1 4) p2 p3 h).bind fun v75 =>
  some (pL h 1 4 v75)
def J_E_doEffect (n : Nat) (p1 : Int32) (p2 : Int32) (p3 : Int32) (h : sHp) : Option sHp :=
  if p1 = 0 then ((J_B_withRoom n (h.2 1 4) p2 h).bind fun v38 =>
  some (pL h 1 4 v38)) else (if p1 = 1 then (if p3 < 7 then (K_E_doEffect_68 n p1 p2 p3 h) else ((J_B_isPartOf n (h.2 1 4) (p3 - 7) p2 h).bind fun v62 =>
  if v62 = 0 then (K_E_doEffect_68 n p1 p2 p3 h) else (some h))) else (if p1 = 2 then ((J_B_withOpen n (h.2 1 4) p2 p3 h).bind fun v91 =>
  some (pL h 1 4 v91)) else (if p1 = 3 then ((J_B_amountOf n (h.2 1 4) p2 h).bind fun v105 =>
  sGd (sIn p2 3) ((J_B_withAmount n (h.2 1 4) p2 (jMmax 0 (jMmin (v105 + p3) (h.1 15 (ix p2)))) h).bind fun v136 =>
  some (pL h 1 4 v136))) else ((J_B_withEnding n (h.2 1 4) p2 h).bind fun v151 =>
  some (pL h 1 4 v151)))))
set_option maxRecDepth 20000 in
set_option maxHeartbeats 4000000 in
theorem R_E_doEffect (n : Nat) (p1 : Int32) (p2 : Int32) (p3 : Int32) (h : sHp) : sM Zc sOv y_E_doEffect prog_6_method_8_code 5 none rm_E_doEffect [.ref 1, .int p1, .int p2, .int p3] h (J_E_doEffect n p1 p2 p3 h) := by
  refine sM_of (own := "StoryStates$Engine") rfl (by decide) (Nat.le_of_ble_eq_true rfl) (fun M V O => ?_)
  unfold J_E_doEffect
  refine r_lv (lv' := [(0, .ref 1), (1, .int p1), (2, .int p2), (3, .int p3)]) [0, 1, 2, 3] rfl ?_
  have hK68 : ∀ (h : sHp), sS Zc M V (sEb sOv) 68 [(0, .ref 1), (2, .int p2), (3, .int p3)] [] h (K_E_doEffect_68 n p1 p2 p3 h) := by
    intro h
    unfold K_E_doEffect_68
    refine r_aload_n (pc := 68) O d_E_doEffect_68 0 rfl ?_
    refine r_aload_n (pc := 69) O d_E_doEffect_69 0 rfl ?_
    refine r_getL (x := (h.2 1 4)) (pc := 70) O gf_c_E_22_1 d_E_doEffect_70 rfl ?_
    refine r_iload_n (pc := 73) O d_E_doEffect_73 1 rfl ?_
    refine r_iload_n (pc := 74) O d_E_doEffect_74 2 rfl ?_
    refine r_callSlp (pc := 75) O [.long (h.2 1 4), .int p2, .int p3] (R_B_withPlace n (h.2 1 4) p2 p3 h) cw_E_doEffect_75 wm_288 rfl (Nat.le_of_ble_eq_true rfl) d_E_doEffect_75 rfl (fun v75 => ?_)
    refine r_putL (pc := 78) O pf_c_E_22_1 d_E_doEffect_78 ?_
    refine r_goto (pc := 81) O d_E_doEffect_81 (tgt := 157) (by decide) ?_
    exact r_vret (pc := 157) O rfl d_E_doEffect_157
  refine r_iload_n (pc := 0) O d_E_doEffect_0 1 rfl ?_
  refine r_ite (fun q1_0 => ?_) (fun q1_0 => ?_)
  · refine r_tin (tgt := 32) (pc := 1) O d_E_doEffect_1 (by rw [q1_0]; decide) (by rw [q1_0]; decide) (by rw [q1_0]; rfl) (by decide) ?_
    refine r_aload_n (pc := 32) O d_E_doEffect_32 0 rfl ?_
    refine r_aload_n (pc := 33) O d_E_doEffect_33 0 rfl ?_
    refine r_getL (x := (h.2 1 4)) (pc := 34) O gf_c_E_22_1 d_E_doEffect_34 rfl ?_
    refine r_iload_n (pc := 37) O d_E_doEffect_37 2 rfl ?_
    refine r_callSlp (pc := 38) O [.long (h.2 1 4), .int p2] (R_B_withRoom n (h.2 1 4) p2 h) cw_E_doEffect_38 wm_667 rfl (Nat.le_of_ble_eq_true rfl) d_E_doEffect_38 rfl (fun v38 => ?_)
    refine r_putL (pc := 41) O pf_c_E_22_1 d_E_doEffect_41 ?_
    refine r_goto (pc := 44) O d_E_doEffect_44 (tgt := 157) (by decide) ?_
    exact r_vret (pc := 157) O rfl d_E_doEffect_157
  · refine r_ite (fun q1_1 => ?_) (fun q1_1 => ?_)
    · refine r_tin (tgt := 47) (pc := 1) O d_E_doEffect_1 (by rw [q1_1]; decide) (by rw [q1_1]; decide) (by rw [q1_1]; rfl) (by decide) ?_
      refine r_iload_n (pc := 47) O d_E_doEffect_47 3 rfl ?_
      refine r_bipush (pc := 48) O d_E_doEffect_48 bc_7 ?_
      refine r_icmp_lt (tgt := 68) (pc := 50) O d_E_doEffect_50 (by decide) (fun q50 => ?_) (fun q50 => ?_)
      · exact r_lv [0, 2, 3] rfl (hK68 h)
      · refine r_aload_n (pc := 53) O d_E_doEffect_53 0 rfl ?_
        refine r_getL (x := (h.2 1 4)) (pc := 54) O gf_c_E_22_1 d_E_doEffect_54 rfl ?_
        refine r_iload_n (pc := 57) O d_E_doEffect_57 3 rfl ?_
        refine r_bipush (pc := 58) O d_E_doEffect_58 bc_7 ?_
        refine r_isub (pc := 60) O d_E_doEffect_60 ?_
        refine r_iload_n (pc := 61) O d_E_doEffect_61 2 rfl ?_
        refine r_callSip (pc := 62) O [.long (h.2 1 4), .int (p3 - 7), .int p2] (R_B_isPartOf n (h.2 1 4) (p3 - 7) p2 h) cw_E_doEffect_62 wm_670 rfl (Nat.le_of_ble_eq_true rfl) d_E_doEffect_62 rfl (fun v62 => ?_)
        refine r_if_ne (tgt := 157) (pc := 65) O d_E_doEffect_65 (by decide) (fun q65 => ?_) (fun q65 => ?_)
        · exact r_vret (pc := 157) O rfl d_E_doEffect_157
        · exact r_lv [0, 2, 3] rfl (hK68 h)
    · refine r_ite (fun q1_2 => ?_) (fun q1_2 => ?_)
      · refine r_tin (tgt := 84) (pc := 1) O d_E_doEffect_1 (by rw [q1_2]; decide) (by rw [q1_2]; decide) (by rw [q1_2]; rfl) (by decide) ?_
        refine r_aload_n (pc := 84) O d_E_doEffect_84 0 rfl ?_
        refine r_aload_n (pc := 85) O d_E_doEffect_85 0 rfl ?_
        refine r_getL (x := (h.2 1 4)) (pc := 86) O gf_c_E_22_1 d_E_doEffect_86 rfl ?_
        refine r_iload_n (pc := 89) O d_E_doEffect_89 2 rfl ?_
        refine r_iload_n (pc := 90) O d_E_doEffect_90 3 rfl ?_
        refine r_callSlp (pc := 91) O [.long (h.2 1 4), .int p2, .int p3] (R_B_withOpen n (h.2 1 4) p2 p3 h) cw_E_doEffect_91 wm_295 rfl (Nat.le_of_ble_eq_true rfl) d_E_doEffect_91 rfl (fun v91 => ?_)
        refine r_putL (pc := 94) O pf_c_E_22_1 d_E_doEffect_94 ?_
        refine r_goto (pc := 97) O d_E_doEffect_97 (tgt := 157) (by decide) ?_
        exact r_vret (pc := 157) O rfl d_E_doEffect_157
      · refine r_ite (fun q1_3 => ?_) (fun q1_3 => ?_)
        · refine r_tin (tgt := 100) (pc := 1) O d_E_doEffect_1 (by rw [q1_3]; decide) (by rw [q1_3]; decide) (by rw [q1_3]; rfl) (by decide) ?_
          refine r_aload_n (pc := 100) O d_E_doEffect_100 0 rfl ?_
          refine r_getL (x := (h.2 1 4)) (pc := 101) O gf_c_E_22_1 d_E_doEffect_101 rfl ?_
          refine r_iload_n (pc := 104) O d_E_doEffect_104 2 rfl ?_
          refine r_callSip (pc := 105) O [.long (h.2 1 4), .int p2] (R_B_amountOf n (h.2 1 4) p2 h) cw_E_doEffect_105 wm_651 rfl (Nat.le_of_ble_eq_true rfl) d_E_doEffect_105 rfl (fun v105 => ?_)
          refine r_iload_n (pc := 108) O d_E_doEffect_108 3 rfl ?_
          refine r_iadd (pc := 109) O d_E_doEffect_109 ?_
          refine r_istore (lv' := [(4, .int (v105 + p3)), (0, .ref 1), (1, .int p1), (2, .int p2), (3, .int p3)]) (pc := 110) O d_E_doEffect_110 (by decide) rfl ?_
          refine r_aload_n (pc := 112) O d_E_doEffect_112 1 rfl ?_
          refine r_aload_n (pc := 113) O d_E_doEffect_113 1 rfl ?_
          refine r_getL (x := (h.2 1 4)) (pc := 114) O gf_c_E_22_1 d_E_doEffect_114 rfl ?_
          refine r_iload_n (pc := 117) O d_E_doEffect_117 3 rfl ?_
          refine r_iconst (pc := 118) O d_E_doEffect_118 ic_0 ?_
          refine r_iload (pc := 119) O d_E_doEffect_119 0 rfl ?_
          refine r_aload_n (pc := 121) O d_E_doEffect_121 1 rfl ?_
          refine r_getR (pc := 122) O gf_c_E_12_1 d_E_doEffect_122 ?_
          refine r_getR (pc := 125) O gf_c_E_152_2 d_E_doEffect_125 ?_
          refine r_iload_n (pc := 128) O d_E_doEffect_128 3 rfl ?_
          refine r_iald (x := (h.1 15 (ix p2))) (pc := 129) O rfl d_E_doEffect_129 rfl ?_
          refine r_mmin (pc := 130) O d_E_doEffect_130 wm_674 wm_675 wm_15 wm_676 (by decide) (Nat.le_of_ble_eq_true rfl) ?_
          refine r_mmax (pc := 133) O d_E_doEffect_133 wm_677 wm_678 wm_15 wm_679 (by decide) (Nat.le_of_ble_eq_true rfl) ?_
          refine r_callSlp (pc := 136) O [.long (h.2 1 4), .int p2, .int (jMmax 0 (jMmin (v105 + p3) (h.1 15 (ix p2))))] (R_B_withAmount n (h.2 1 4) p2 (jMmax 0 (jMmin (v105 + p3) (h.1 15 (ix p2)))) h) cw_E_doEffect_136 wm_298 rfl (Nat.le_of_ble_eq_true rfl) d_E_doEffect_136 rfl (fun v136 => ?_)
          refine r_putL (pc := 139) O pf_c_E_22_1 d_E_doEffect_139 ?_
          refine r_goto (pc := 142) O d_E_doEffect_142 (tgt := 157) (by decide) ?_
          exact r_vret (pc := 157) O rfl d_E_doEffect_157
        · refine r_tout (tgt := 145) (pc := 1) O d_E_doEffect_1 (by have z0 := lv_neT (a := 0) q1_0 (by decide); have z1 := lv_neT (a := 1) q1_1 (by decide); have z2 := lv_neT (a := 2) q1_2 (by decide); have z3 := lv_neT (a := 3) q1_3 (by decide); omega) (by decide) ?_
          refine r_aload_n (pc := 145) O d_E_doEffect_145 0 rfl ?_
          refine r_aload_n (pc := 146) O d_E_doEffect_146 0 rfl ?_
          refine r_getL (x := (h.2 1 4)) (pc := 147) O gf_c_E_22_1 d_E_doEffect_147 rfl ?_
          refine r_iload_n (pc := 150) O d_E_doEffect_150 2 rfl ?_
          refine r_callSlp (pc := 151) O [.long (h.2 1 4), .int p2] (R_B_withEnding n (h.2 1 4) p2 h) cw_E_doEffect_151 wm_682 rfl (Nat.le_of_ble_eq_true rfl) d_E_doEffect_151 rfl (fun v151 => ?_)
          refine r_putL (pc := 154) O pf_c_E_22_1 d_E_doEffect_154 ?_
          exact r_vret (pc := 157) O rfl d_E_doEffect_157
def F_E_doRule_52 (n : Nat) (p1 : Int32) (x3 : Int32) (rec52 : Int32 × sHp → Option sHp) (q : Int32 × sHp) : Option sHp :=
  if x3 ≤ q.1 then (some q.2) else ((J_B_isOver n (q.2.2 1 4) q.2).bind fun v62 =>
  if v62 = 0 then (sGd (sIn q.1 36) (sGd (sIn q.1 36) (sGd (sIn q.1 36) ((J_E_doEffect n (q.2.1 31 (ix q.1)) (q.2.1 32 (ix q.1)) (q.2.1 33 (ix q.1)) q.2).bind fun v90 =>
  rec52 ((q.1 + 1), v90))))) else (some q.2))
def J_E_doRule (n : Nat) (p1 : Int32) (h : sHp) : Option sHp :=
  sGd (sIn p1 12) ((J_E_say n (h.1 24 (ix p1)) (pI h 1 3 ((h.1 1 3) ||| (jIshl 1 p1)))).bind fun v25 =>
  (J_C_endOf_1 n p1 v25).bind fun v41 =>
  (J_C_startOf_1 n p1 v25).bind fun v47 =>
  sFx (F_E_doRule_52 n p1 v41) n (v47, v25))
set_option maxRecDepth 20000 in
set_option maxHeartbeats 4000000 in
theorem R_E_doRule (n : Nat) (p1 : Int32) (h : sHp) : sM Zc sOv y_E_doRule prog_6_method_7_code 5 none rm_E_doRule [.ref 1, .int p1] h (J_E_doRule n p1 h) := by
  refine sM_of (own := "StoryStates$Engine") rfl (by decide) (Nat.le_of_ble_eq_true rfl) (fun M V O => ?_)
  unfold J_E_doRule
  refine r_lv (lv' := [(0, .ref 1), (1, .int p1)]) [0, 1] rfl ?_
  have hL52 : ∀ (x3 : Int32) (q : Int32 × sHp), sS Zc M V (sEb sOv) 52 [(0, .ref 1), (2, .ref 5), (3, .int x3), (4, .int q.1)] [] q.2 (sFx (F_E_doRule_52 n p1 x3) n q) := by
    intro x3
    refine r_fx (fun q => [(0, .ref 1), (2, .ref 5), (3, .int x3), (4, .int q.1)]) (fun q => q.2) (F_E_doRule_52 n p1 x3) (fun rec52 hrec52 q => ?_) n
    obtain ⟨qv0, qv1⟩ := q
    show sS Zc M V (sEb sOv) 52 [(0, .ref 1), (2, .ref 5), (3, .int x3), (4, .int qv0)] [] qv1 _
    unfold F_E_doRule_52
    try dsimp only
    refine r_iload (pc := 52) O d_E_doRule_52 3 rfl ?_
    refine r_iload_n (pc := 54) O d_E_doRule_54 2 rfl ?_
    refine r_icmp_ge (tgt := 99) (pc := 55) O d_E_doRule_55 (by decide) (fun q55 => ?_) (fun q55 => ?_)
    · exact r_vret (pc := 99) O rfl d_E_doRule_99
    · refine r_aload_n (pc := 58) O d_E_doRule_58 0 rfl ?_
      refine r_getL (x := (qv1.2 1 4)) (pc := 59) O gf_c_E_22_1 d_E_doRule_59 rfl ?_
      refine r_callSip (pc := 62) O [.long (qv1.2 1 4)] (R_B_isOver n (qv1.2 1 4) qv1) cw_E_doRule_62 wm_601 rfl (Nat.le_of_ble_eq_true rfl) d_E_doRule_62 rfl (fun v62 => ?_)
      refine r_if_ne (tgt := 99) (pc := 65) O d_E_doRule_65 (by decide) (fun q65 => ?_) (fun q65 => ?_)
      · exact r_vret (pc := 99) O rfl d_E_doRule_99
      · refine r_aload_n (pc := 68) O d_E_doRule_68 0 rfl ?_
        refine r_aload_n (pc := 69) O d_E_doRule_69 1 rfl ?_
        refine r_getR (pc := 70) O gf_c_E_103_5 d_E_doRule_70 ?_
        refine r_iload (pc := 73) O d_E_doRule_73 3 rfl ?_
        refine r_iald (x := (qv1.1 31 (ix qv0))) (pc := 75) O rfl d_E_doRule_75 rfl ?_
        refine r_aload_n (pc := 76) O d_E_doRule_76 1 rfl ?_
        refine r_getR (pc := 77) O gf_c_E_106_5 d_E_doRule_77 ?_
        refine r_iload (pc := 80) O d_E_doRule_80 3 rfl ?_
        refine r_iald (x := (qv1.1 32 (ix qv0))) (pc := 82) O rfl d_E_doRule_82 rfl ?_
        refine r_aload_n (pc := 83) O d_E_doRule_83 1 rfl ?_
        refine r_getR (pc := 84) O gf_c_E_109_5 d_E_doRule_84 ?_
        refine r_iload (pc := 87) O d_E_doRule_87 3 rfl ?_
        refine r_iald (x := (qv1.1 33 (ix qv0))) (pc := 89) O rfl d_E_doRule_89 rfl ?_
        refine r_callVv (pc := 90) O [.int (qv1.1 31 (ix qv0)), .int (qv1.1 32 (ix qv0)), .int (qv1.1 33 (ix qv0))] rfl rfl (R_E_doEffect n (qv1.1 31 (ix qv0)) (qv1.1 32 (ix qv0)) (qv1.1 33 (ix qv0)) qv1) cw_E_doRule_90 wm_664 ws_E_doEffect rfl (Nat.le_of_ble_eq_true rfl) d_E_doRule_90 rfl (fun v90 => ?_)
        refine r_iinc (lv' := [(4, .int (qv0 + 1)), (0, .ref 1), (2, .ref 5), (3, .int x3)]) (pc := 93) O d_E_doRule_93 3 rfl (congrArg (HAdd.hAdd _) ic_1) (by decide) rfl ?_
        refine r_goto (pc := 96) O d_E_doRule_96 (tgt := 52) (by decide) ?_
        exact r_lv [1, 2, 3, 0] rfl (hrec52 ((qv0 + 1), v90))
  refine r_aload_n (pc := 0) O d_E_doRule_0 0 rfl ?_
  refine r_dup (pc := 1) O d_E_doRule_1 rfl ?_
  refine r_getI (x := (h.1 1 3)) (pc := 2) O gf_c_E_30_1 d_E_doRule_2 rfl ?_
  refine r_iconst (pc := 5) O d_E_doRule_5 ic_1 ?_
  refine r_iload_n (pc := 6) O d_E_doRule_6 1 rfl ?_
  refine r_ishl (pc := 7) O d_E_doRule_7 ?_
  refine r_ior (pc := 8) O d_E_doRule_8 ?_
  refine r_putI (pc := 9) O pf_c_E_30_1 d_E_doRule_9 ?_
  refine r_aload_n (pc := 12) O d_E_doRule_12 0 rfl ?_
  refine r_aload_n (pc := 13) O d_E_doRule_13 0 rfl ?_
  refine r_getR (pc := 14) O gf_c_E_12_1 d_E_doRule_14 ?_
  refine r_getR (pc := 17) O gf_c_E_73_2 d_E_doRule_17 ?_
  refine r_getR (pc := 20) O gf_c_E_129_3 d_E_doRule_20 ?_
  refine r_iload_n (pc := 23) O d_E_doRule_23 1 rfl ?_
  refine r_iald (x := (h.1 24 (ix p1))) (pc := 24) O rfl d_E_doRule_24 rfl ?_
  refine r_callVv (pc := 25) O [.int (h.1 24 (ix p1))] rfl rfl (R_E_say n (h.1 24 (ix p1)) (pI h 1 3 ((h.1 1 3) ||| (jIshl 1 p1)))) cw_E_doRule_25 wm_659 ws_E_say rfl (Nat.le_of_ble_eq_true rfl) d_E_doRule_25 rfl (fun v25 => ?_)
  refine r_aload_n (pc := 28) O d_E_doRule_28 0 rfl ?_
  refine r_getR (pc := 29) O gf_c_E_12_1 d_E_doRule_29 ?_
  refine r_getR (pc := 32) O gf_c_E_73_2 d_E_doRule_32 ?_
  refine r_getR (pc := 35) O gf_c_E_130_3 d_E_doRule_35 ?_
  refine r_astore_n (lv' := [(2, .ref 5), (0, .ref 1), (1, .int p1)]) (pc := 38) O d_E_doRule_38 rfl (by decide) rfl ?_
  refine r_aload_n (pc := 39) O d_E_doRule_39 0 rfl ?_
  refine r_iload_n (pc := 40) O d_E_doRule_40 2 rfl ?_
  refine r_callVip (pc := 41) O [.int p1] rfl rfl (R_C_endOf_1 n p1 v25) cw_E_doRule_41 wm_539 wm_540 rfl (Nat.le_of_ble_eq_true rfl) d_E_doRule_41 rfl (fun v41 => ?_)
  refine r_istore_n (lv' := [(3, .int v41), (2, .ref 5), (0, .ref 1), (1, .int p1)]) (pc := 44) O d_E_doRule_44 rfl (by decide) rfl ?_
  refine r_aload_n (pc := 45) O d_E_doRule_45 1 rfl ?_
  refine r_iload_n (pc := 46) O d_E_doRule_46 3 rfl ?_
  refine r_callVip (pc := 47) O [.int p1] rfl rfl (R_C_startOf_1 n p1 v25) cw_E_doRule_47 wm_640 wm_641 rfl (Nat.le_of_ble_eq_true rfl) d_E_doRule_47 rfl (fun v47 => ?_)
  refine r_istore (lv' := [(4, .int v47), (3, .int v41), (2, .ref 5), (0, .ref 1), (1, .int p1)]) (pc := 50) O d_E_doRule_50 (by decide) rfl ?_
  exact r_lv [3, 2, 1, 0] rfl (hL52 v41 (v47, v25))
end
section
def J_B_stepOf (n : Nat) (p0 : Int64) (p2 : Int32) (h : sHp) : Option Int32 :=
  some ((Int64.toInt32 (jLushr p0 (42 + (2 * p2)))) &&& 3)
set_option maxRecDepth 20000 in
set_option maxHeartbeats 4000000 in
theorem R_B_stepOf (n : Nat) (p0 : Int64) (p2 : Int32) (h : sHp) : sM Zc (sPi h) y_B_stepOf prog_3_method_10_code 3 (some .int) rm_B_stepOf [.long p0, .int p2] h (J_B_stepOf n p0 p2 h) := by
  refine sM_of (own := "StoryStates$Bits") rfl (by decide) (Nat.le_of_ble_eq_true rfl) (fun M V O => ?_)
  unfold J_B_stepOf
  refine r_lv (lv' := [(0, .long p0), (2, .int p2)]) [0, 1] rfl ?_
  refine r_lload_n (pc := 0) O d_B_stepOf_0 0 rfl ?_
  refine r_bipush (pc := 1) O d_B_stepOf_1 bc_42 ?_
  refine r_iconst (pc := 3) O d_B_stepOf_3 ic_2 ?_
  refine r_iload_n (pc := 4) O d_B_stepOf_4 1 rfl ?_
  refine r_imul (pc := 5) O d_B_stepOf_5 ?_
  refine r_iadd (pc := 6) O d_B_stepOf_6 ?_
  refine r_lushr (pc := 7) O d_B_stepOf_7 ?_
  refine r_l2i (pc := 8) O d_B_stepOf_8 ?_
  refine r_iconst (pc := 9) O d_B_stepOf_9 ic_3 ?_
  refine r_iand (pc := 10) O d_B_stepOf_10 ?_
  exact r_iret (pc := 11) O rfl d_B_stepOf_11
def J_B_withStep (n : Nat) (p0 : Int64) (p2 : Int32) (p3 : Int32) (h : sHp) : Option Int64 :=
  (J_B_write n p0 (42 + (2 * p2)) 3 p3 h).bind fun v9 =>
  some v9
set_option maxRecDepth 20000 in
set_option maxHeartbeats 4000000 in
theorem R_B_withStep (n : Nat) (p0 : Int64) (p2 : Int32) (p3 : Int32) (h : sHp) : sM Zc (sPl h) y_B_withStep prog_3_method_11_code 4 (some .long) rm_B_withStep [.long p0, .int p2, .int p3] h (J_B_withStep n p0 p2 p3 h) := by
  refine sM_of (own := "StoryStates$Bits") rfl (by decide) (Nat.le_of_ble_eq_true rfl) (fun M V O => ?_)
  unfold J_B_withStep
  refine r_lv (lv' := [(0, .long p0), (2, .int p2), (3, .int p3)]) [0, 1, 2] rfl ?_
  refine r_lload_n (pc := 0) O d_B_withStep_0 0 rfl ?_
  refine r_bipush (pc := 1) O d_B_withStep_1 bc_42 ?_
  refine r_iconst (pc := 3) O d_B_withStep_3 ic_2 ?_
  refine r_iload_n (pc := 4) O d_B_withStep_4 1 rfl ?_
  refine r_imul (pc := 5) O d_B_withStep_5 ?_
  refine r_iadd (pc := 6) O d_B_withStep_6 ?_
  refine r_iconst (pc := 7) O d_B_withStep_7 ic_3 ?_
  refine r_iload_n (pc := 8) O d_B_withStep_8 2 rfl ?_
  refine r_callSlp (pc := 9) O [.long p0, .int (42 + (2 * p2)), .int 3, .int p3] (R_B_write n p0 (42 + (2 * p2)) 3 p3 h) cw_B_withStep_9 wm_291 rfl (Nat.le_of_ble_eq_true rfl) d_B_withStep_9 rfl (fun v9 => ?_)
  exact r_lret (pc := 12) O rfl d_B_withStep_12
def K_E_stepWalkers_57 (n : Nat) (rec2 : (Int32 × sHp → Option sHp)) (x1 : Int32) (x2 : Int32) (t0 : Int32) (h : sHp) : Option sHp :=
  (J_B_withStep n (h.2 1 4) x1 t0 h).bind fun v67 =>
  sGd (sIn ((x1 * 3) + t0) 6) ((J_B_withPlace n v67 x2 (h.1 18 (ix ((x1 * 3) + t0))) (pL h 1 4 v67)).bind fun v93 =>
  rec2 ((x1 + 1), (pL (pL h 1 4 v67) 1 4 v93)))
def F_E_stepWalkers_2 (n : Nat) (rec2 : Int32 × sHp → Option sHp) (q : Int32 × sHp) : Option sHp :=
  if (q.2.1 2 16) ≤ q.1 then (some q.2) else (sGd (sIn q.1 2) ((J_B_placeOf n (q.2.2 1 4) (q.2.1 17 (ix q.1)) q.2).bind fun v28 =>
  if 6 ≤ v28 then (rec2 ((q.1 + 1), q.2)) else ((J_B_stepOf n (q.2.2 1 4) q.1 q.2).bind fun v41 =>
  if 2 ≤ v41 then (K_E_stepWalkers_57 n rec2 q.1 (q.2.1 17 (ix q.1)) 0 q.2) else (K_E_stepWalkers_57 n rec2 q.1 (q.2.1 17 (ix q.1)) (v41 + 1) q.2))))
def J_E_stepWalkers (n : Nat)  (h : sHp) : Option sHp :=
  sFx (F_E_stepWalkers_2 n ) n (0, h)
set_option maxRecDepth 20000 in
set_option maxHeartbeats 4000000 in
theorem R_E_stepWalkers (n : Nat)  (h : sHp) : sM Zc sOv y_E_stepWalkers prog_6_method_15_code 5 none rm_E_stepWalkers [.ref 1] h (J_E_stepWalkers n  h) := by
  refine sM_of (own := "StoryStates$Engine") rfl (by decide) (Nat.le_of_ble_eq_true rfl) (fun M V O => ?_)
  unfold J_E_stepWalkers
  refine r_lv (lv' := [(0, .ref 1)]) [0] rfl ?_
  have hL2 : ∀ (q : Int32 × sHp), sS Zc M V (sEb sOv) 2 [(0, .ref 1), (1, .int q.1)] [] q.2 (sFx (F_E_stepWalkers_2 n ) n q) := by
    skip
    refine r_fx (fun q => [(0, .ref 1), (1, .int q.1)]) (fun q => q.2) (F_E_stepWalkers_2 n ) (fun rec2 hrec2 q => ?_) n
    obtain ⟨qv0, qv1⟩ := q
    show sS Zc M V (sEb sOv) 2 [(0, .ref 1), (1, .int qv0)] [] qv1 _
    unfold F_E_stepWalkers_2
    try dsimp only
    have hK57 : ∀ (x1 : Int32) (x2 : Int32) (t0 : Int32) (h : sHp), sS Zc M V (sEb sOv) 57 [(0, .ref 1), (1, .int x1), (2, .int x2)] [.int t0] h (K_E_stepWalkers_57 n rec2 x1 x2 t0 h) := by
      intro x1 x2 t0 h
      unfold K_E_stepWalkers_57
      refine r_istore (lv' := [(4, .int t0), (0, .ref 1), (1, .int x1), (2, .int x2)]) (pc := 57) O d_E_stepWalkers_57 (by decide) rfl ?_
      refine r_aload_n (pc := 59) O d_E_stepWalkers_59 1 rfl ?_
      refine r_aload_n (pc := 60) O d_E_stepWalkers_60 1 rfl ?_
      refine r_getL (x := (h.2 1 4)) (pc := 61) O gf_c_E_22_1 d_E_stepWalkers_61 rfl ?_
      refine r_iload_n (pc := 64) O d_E_stepWalkers_64 2 rfl ?_
      refine r_iload (pc := 65) O d_E_stepWalkers_65 0 rfl ?_
      refine r_callSlp (pc := 67) O [.long (h.2 1 4), .int x1, .int t0] (R_B_withStep n (h.2 1 4) x1 t0 h) cw_E_stepWalkers_67 wm_716 rfl (Nat.le_of_ble_eq_true rfl) d_E_stepWalkers_67 rfl (fun v67 => ?_)
      refine r_putL (pc := 70) O pf_c_E_22_1 d_E_stepWalkers_70 ?_
      refine r_aload_n (pc := 73) O d_E_stepWalkers_73 1 rfl ?_
      refine r_aload_n (pc := 74) O d_E_stepWalkers_74 1 rfl ?_
      refine r_getL (x := v67) (pc := 75) O gf_c_E_22_1 d_E_stepWalkers_75 rfl ?_
      refine r_iload_n (pc := 78) O d_E_stepWalkers_78 3 rfl ?_
      refine r_aload_n (pc := 79) O d_E_stepWalkers_79 1 rfl ?_
      refine r_getR (pc := 80) O gf_c_E_12_1 d_E_stepWalkers_80 ?_
      refine r_getR (pc := 83) O gf_c_E_205_2 d_E_stepWalkers_83 ?_
      refine r_iload_n (pc := 86) O d_E_stepWalkers_86 2 rfl ?_
      refine r_iconst (pc := 87) O d_E_stepWalkers_87 ic_3 ?_
      refine r_imul (pc := 88) O d_E_stepWalkers_88 ?_
      refine r_iload (pc := 89) O d_E_stepWalkers_89 0 rfl ?_
      refine r_iadd (pc := 91) O d_E_stepWalkers_91 ?_
      refine r_iald (x := (h.1 18 (ix ((x1 * 3) + t0)))) (pc := 92) O rfl d_E_stepWalkers_92 rfl ?_
      refine r_callSlp (pc := 93) O [.long v67, .int x2, .int (h.1 18 (ix ((x1 * 3) + t0)))] (R_B_withPlace n v67 x2 (h.1 18 (ix ((x1 * 3) + t0))) (pL h 1 4 v67)) cw_E_stepWalkers_93 wm_288 rfl (Nat.le_of_ble_eq_true rfl) d_E_stepWalkers_93 rfl (fun v93 => ?_)
      refine r_putL (pc := 96) O pf_c_E_22_1 d_E_stepWalkers_96 ?_
      refine r_iinc (lv' := [(1, .int (x1 + 1)), (4, .int t0), (0, .ref 1), (2, .int x2)]) (pc := 99) O d_E_stepWalkers_99 2 rfl (congrArg (HAdd.hAdd _) ic_1) (by decide) rfl ?_
      refine r_goto (pc := 102) O d_E_stepWalkers_102 (tgt := 2) (by decide) ?_
      exact r_lv [2, 0] rfl (hrec2 ((x1 + 1), (pL (pL h 1 4 v67) 1 4 v93)))
    refine r_iload_n (pc := 2) O d_E_stepWalkers_2 1 rfl ?_
    refine r_aload_n (pc := 3) O d_E_stepWalkers_3 0 rfl ?_
    refine r_getR (pc := 4) O gf_c_E_12_1 d_E_stepWalkers_4 ?_
    refine r_getI (x := (qv1.1 2 16)) (pc := 7) O gf_c_E_193_2 d_E_stepWalkers_7 rfl ?_
    refine r_icmp_ge (tgt := 105) (pc := 10) O d_E_stepWalkers_10 (by decide) (fun q10 => ?_) (fun q10 => ?_)
    · exact r_vret (pc := 105) O rfl d_E_stepWalkers_105
    · refine r_aload_n (pc := 13) O d_E_stepWalkers_13 0 rfl ?_
      refine r_getR (pc := 14) O gf_c_E_12_1 d_E_stepWalkers_14 ?_
      refine r_getR (pc := 17) O gf_c_E_196_2 d_E_stepWalkers_17 ?_
      refine r_iload_n (pc := 20) O d_E_stepWalkers_20 1 rfl ?_
      refine r_iald (x := (qv1.1 17 (ix qv0))) (pc := 21) O rfl d_E_stepWalkers_21 rfl ?_
      refine r_istore_n (lv' := [(2, .int (qv1.1 17 (ix qv0))), (0, .ref 1), (1, .int qv0)]) (pc := 22) O d_E_stepWalkers_22 rfl (by decide) rfl ?_
      refine r_aload_n (pc := 23) O d_E_stepWalkers_23 1 rfl ?_
      refine r_getL (x := (qv1.2 1 4)) (pc := 24) O gf_c_E_22_1 d_E_stepWalkers_24 rfl ?_
      refine r_iload_n (pc := 27) O d_E_stepWalkers_27 0 rfl ?_
      refine r_callSip (pc := 28) O [.long (qv1.2 1 4), .int (qv1.1 17 (ix qv0))] (R_B_placeOf n (qv1.2 1 4) (qv1.1 17 (ix qv0)) qv1) cw_E_stepWalkers_28 wm_622 rfl (Nat.le_of_ble_eq_true rfl) d_E_stepWalkers_28 rfl (fun v28 => ?_)
      refine r_bipush (pc := 31) O d_E_stepWalkers_31 bc_6 ?_
      refine r_icmp_ge (tgt := 99) (pc := 33) O d_E_stepWalkers_33 (by decide) (fun q33 => ?_) (fun q33 => ?_)
      · refine r_iinc (lv' := [(1, .int (qv0 + 1)), (2, .int (qv1.1 17 (ix qv0))), (0, .ref 1)]) (pc := 99) O d_E_stepWalkers_99 2 rfl (congrArg (HAdd.hAdd _) ic_1) (by decide) rfl ?_
        refine r_goto (pc := 102) O d_E_stepWalkers_102 (tgt := 2) (by decide) ?_
        exact r_lv [2, 0] rfl (hrec2 ((qv0 + 1), qv1))
      · refine r_aload_n (pc := 36) O d_E_stepWalkers_36 1 rfl ?_
        refine r_getL (x := (qv1.2 1 4)) (pc := 37) O gf_c_E_22_1 d_E_stepWalkers_37 rfl ?_
        refine r_iload_n (pc := 40) O d_E_stepWalkers_40 2 rfl ?_
        refine r_callSip (pc := 41) O [.long (qv1.2 1 4), .int qv0] (R_B_stepOf n (qv1.2 1 4) qv0 qv1) cw_E_stepWalkers_41 wm_713 rfl (Nat.le_of_ble_eq_true rfl) d_E_stepWalkers_41 rfl (fun v41 => ?_)
        refine r_istore_n (lv' := [(3, .int v41), (2, .int (qv1.1 17 (ix qv0))), (0, .ref 1), (1, .int qv0)]) (pc := 44) O d_E_stepWalkers_44 rfl (by decide) rfl ?_
        refine r_iload_n (pc := 45) O d_E_stepWalkers_45 0 rfl ?_
        refine r_iconst (pc := 46) O d_E_stepWalkers_46 ic_2 ?_
        refine r_icmp_ge (tgt := 56) (pc := 47) O d_E_stepWalkers_47 (by decide) (fun q47 => ?_) (fun q47 => ?_)
        · refine r_iconst (pc := 56) O d_E_stepWalkers_56 ic_0 ?_
          exact r_lv [2, 3, 1] rfl (hK57 qv0 (qv1.1 17 (ix qv0)) 0 qv1)
        · refine r_iload_n (pc := 50) O d_E_stepWalkers_50 0 rfl ?_
          refine r_iconst (pc := 51) O d_E_stepWalkers_51 ic_1 ?_
          refine r_iadd (pc := 52) O d_E_stepWalkers_52 ?_
          refine r_goto (pc := 53) O d_E_stepWalkers_53 (tgt := 57) (by decide) ?_
          exact r_lv [2, 3, 1] rfl (hK57 qv0 (qv1.1 17 (ix qv0)) (v41 + 1) qv1)
  refine r_iconst (pc := 0) O d_E_stepWalkers_0 ic_0 ?_
  refine r_istore_n (lv' := [(1, .int 0), (0, .ref 1)]) (pc := 1) O d_E_stepWalkers_1 rfl (by decide) rfl ?_
  exact r_lv [1, 0] rfl (hL2 (0, h))
def J_B_countOf (n : Nat) (p0 : Int64) (p2 : Int32) (h : sHp) : Option Int32 :=
  some ((Int64.toInt32 (jLushr p0 (46 + (4 * p2)))) &&& 15)
set_option maxRecDepth 20000 in
set_option maxHeartbeats 4000000 in
theorem R_B_countOf (n : Nat) (p0 : Int64) (p2 : Int32) (h : sHp) : sM Zc (sPi h) y_B_countOf prog_3_method_12_code 3 (some .int) rm_B_countOf [.long p0, .int p2] h (J_B_countOf n p0 p2 h) := by
  refine sM_of (own := "StoryStates$Bits") rfl (by decide) (Nat.le_of_ble_eq_true rfl) (fun M V O => ?_)
  unfold J_B_countOf
  refine r_lv (lv' := [(0, .long p0), (2, .int p2)]) [0, 1] rfl ?_
  refine r_lload_n (pc := 0) O d_B_countOf_0 0 rfl ?_
  refine r_bipush (pc := 1) O d_B_countOf_1 bc_46 ?_
  refine r_iconst (pc := 3) O d_B_countOf_3 ic_4 ?_
  refine r_iload_n (pc := 4) O d_B_countOf_4 1 rfl ?_
  refine r_imul (pc := 5) O d_B_countOf_5 ?_
  refine r_iadd (pc := 6) O d_B_countOf_6 ?_
  refine r_lushr (pc := 7) O d_B_countOf_7 ?_
  refine r_l2i (pc := 8) O d_B_countOf_8 ?_
  refine r_bipush (pc := 9) O d_B_countOf_9 bc_15 ?_
  refine r_iand (pc := 11) O d_B_countOf_11 ?_
  exact r_iret (pc := 12) O rfl d_B_countOf_12
def J_E_runsOut (n : Nat) (p1 : Int32) (h : sHp) : Option (Int32 × sHp) :=
  (J_B_countOf n (h.2 1 4) p1 h).bind fun v5 =>
  if v5 = 0 then (some (0, h)) else ((J_B_withCount n (h.2 1 4) p1 (v5 - 1) h).bind fun v24 =>
  if v5 = 1 then (some (1, (pL h 1 4 v24))) else (some (0, (pL h 1 4 v24))))
set_option maxRecDepth 20000 in
set_option maxHeartbeats 4000000 in
theorem R_E_runsOut (n : Nat) (p1 : Int32) (h : sHp) : sM Zc sOi y_E_runsOut prog_6_method_16_code 3 (some .boolean) rm_E_runsOut [.ref 1, .int p1] h (J_E_runsOut n p1 h) := by
  refine sM_of (own := "StoryStates$Engine") rfl (by decide) (Nat.le_of_ble_eq_true rfl) (fun M V O => ?_)
  unfold J_E_runsOut
  refine r_lv (lv' := [(0, .ref 1), (1, .int p1)]) [0, 1] rfl ?_
  refine r_aload_n (pc := 0) O d_E_runsOut_0 0 rfl ?_
  refine r_getL (x := (h.2 1 4)) (pc := 1) O gf_c_E_22_1 d_E_runsOut_1 rfl ?_
  refine r_iload_n (pc := 4) O d_E_runsOut_4 1 rfl ?_
  refine r_callSip (pc := 5) O [.long (h.2 1 4), .int p1] (R_B_countOf n (h.2 1 4) p1 h) cw_E_runsOut_5 wm_723 rfl (Nat.le_of_ble_eq_true rfl) d_E_runsOut_5 rfl (fun v5 => ?_)
  refine r_istore_n (lv' := [(2, .int v5), (0, .ref 1), (1, .int p1)]) (pc := 8) O d_E_runsOut_8 rfl (by decide) rfl ?_
  refine r_iload_n (pc := 9) O d_E_runsOut_9 0 rfl ?_
  refine r_if_ne (tgt := 15) (pc := 10) O d_E_runsOut_10 (by decide) (fun q10 => ?_) (fun q10 => ?_)
  · refine r_aload_n (pc := 15) O d_E_runsOut_15 1 rfl ?_
    refine r_aload_n (pc := 16) O d_E_runsOut_16 1 rfl ?_
    refine r_getL (x := (h.2 1 4)) (pc := 17) O gf_c_E_22_1 d_E_runsOut_17 rfl ?_
    refine r_iload_n (pc := 20) O d_E_runsOut_20 2 rfl ?_
    refine r_iload_n (pc := 21) O d_E_runsOut_21 0 rfl ?_
    refine r_iconst (pc := 22) O d_E_runsOut_22 ic_1 ?_
    refine r_isub (pc := 23) O d_E_runsOut_23 ?_
    refine r_callSlp (pc := 24) O [.long (h.2 1 4), .int p1, .int (v5 - 1)] (R_B_withCount n (h.2 1 4) p1 (v5 - 1) h) cw_E_runsOut_24 wm_301 rfl (Nat.le_of_ble_eq_true rfl) d_E_runsOut_24 rfl (fun v24 => ?_)
    refine r_putL (pc := 27) O pf_c_E_22_1 d_E_runsOut_27 ?_
    refine r_iload_n (pc := 30) O d_E_runsOut_30 0 rfl ?_
    refine r_iconst (pc := 31) O d_E_runsOut_31 ic_1 ?_
    refine r_icmp_ne (tgt := 39) (pc := 32) O d_E_runsOut_32 (by decide) (fun q32 => ?_) (fun q32 => ?_)
    · refine r_iconst (pc := 39) O d_E_runsOut_39 ic_0 ?_
      exact r_zret (pc := 40) O rfl d_E_runsOut_40 nb_0
    · refine r_iconst (pc := 35) O d_E_runsOut_35 ic_1 ?_
      refine r_goto (pc := 36) O d_E_runsOut_36 (tgt := 40) (by decide) ?_
      exact r_zret (pc := 40) O rfl d_E_runsOut_40 nb_1
  · refine r_iconst (pc := 13) O d_E_runsOut_13 ic_0 ?_
    exact r_zret (pc := 14) O rfl d_E_runsOut_14 nb_0
def J_E_putInto (n : Nat) (p1 : Int32) (p2 : Int32) (h : sHp) : Option (Int32 × sHp) :=
  (J_B_placeOf n (h.2 1 4) p1 h).bind fun v5 =>
  if v5 = 6 then (sGd (sIn p2 6) (if ((h.1 13 (ix p2)) &&& 2) = 0 then (some (0, h)) else ((J_B_isOpen n (h.2 1 4) p2 h).bind fun v32 =>
  if v32 = 0 then (some (0, h)) else ((J_B_isSeen n (h.2 1 4) p2 h).bind fun v43 =>
  if v43 = 0 then (some (0, h)) else ((J_B_isPartOf n (h.2 1 4) p2 p1 h).bind fun v55 =>
  if v55 = 0 then ((J_B_withPlace n (h.2 1 4) p1 (7 + p2) h).bind fun v73 =>
  some (1, (pL h 1 4 v73))) else (some (0, h))))))) else (some (0, h))
set_option maxRecDepth 20000 in
set_option maxHeartbeats 4000000 in
theorem R_E_putInto (n : Nat) (p1 : Int32) (p2 : Int32) (h : sHp) : sM Zc sOi y_E_putInto prog_6_method_14_code 3 (some .boolean) rm_E_putInto [.ref 1, .int p1, .int p2] h (J_E_putInto n p1 p2 h) := by
  refine sM_of (own := "StoryStates$Engine") rfl (by decide) (Nat.le_of_ble_eq_true rfl) (fun M V O => ?_)
  unfold J_E_putInto
  refine r_lv (lv' := [(0, .ref 1), (1, .int p1), (2, .int p2)]) [0, 1, 2] rfl ?_
  refine r_aload_n (pc := 0) O d_E_putInto_0 0 rfl ?_
  refine r_getL (x := (h.2 1 4)) (pc := 1) O gf_c_E_22_1 d_E_putInto_1 rfl ?_
  refine r_iload_n (pc := 4) O d_E_putInto_4 1 rfl ?_
  refine r_callSip (pc := 5) O [.long (h.2 1 4), .int p1] (R_B_placeOf n (h.2 1 4) p1 h) cw_E_putInto_5 wm_622 rfl (Nat.le_of_ble_eq_true rfl) d_E_putInto_5 rfl (fun v5 => ?_)
  refine r_bipush (pc := 8) O d_E_putInto_8 bc_6 ?_
  refine r_icmp_ne (tgt := 61) (pc := 10) O d_E_putInto_10 (by decide) (fun q10 => ?_) (fun q10 => ?_)
  · refine r_iconst (pc := 61) O d_E_putInto_61 ic_0 ?_
    exact r_zret (pc := 62) O rfl d_E_putInto_62 nb_0
  · refine r_aload_n (pc := 13) O d_E_putInto_13 0 rfl ?_
    refine r_getR (pc := 14) O gf_c_E_12_1 d_E_putInto_14 ?_
    refine r_getR (pc := 17) O gf_c_E_192_2 d_E_putInto_17 ?_
    refine r_iload_n (pc := 20) O d_E_putInto_20 2 rfl ?_
    refine r_iald (x := (h.1 13 (ix p2))) (pc := 21) O rfl d_E_putInto_21 rfl ?_
    refine r_iconst (pc := 22) O d_E_putInto_22 ic_2 ?_
    refine r_iand (pc := 23) O d_E_putInto_23 ?_
    refine r_if_eq (tgt := 61) (pc := 24) O d_E_putInto_24 (by decide) (fun q24 => ?_) (fun q24 => ?_)
    · refine r_iconst (pc := 61) O d_E_putInto_61 ic_0 ?_
      exact r_zret (pc := 62) O rfl d_E_putInto_62 nb_0
    · refine r_aload_n (pc := 27) O d_E_putInto_27 0 rfl ?_
      refine r_getL (x := (h.2 1 4)) (pc := 28) O gf_c_E_22_1 d_E_putInto_28 rfl ?_
      refine r_iload_n (pc := 31) O d_E_putInto_31 2 rfl ?_
      refine r_callSip (pc := 32) O [.long (h.2 1 4), .int p2] (R_B_isOpen n (h.2 1 4) p2 h) cw_E_putInto_32 wm_625 rfl (Nat.le_of_ble_eq_true rfl) d_E_putInto_32 rfl (fun v32 => ?_)
      refine r_if_eq (tgt := 61) (pc := 35) O d_E_putInto_35 (by decide) (fun q35 => ?_) (fun q35 => ?_)
      · refine r_iconst (pc := 61) O d_E_putInto_61 ic_0 ?_
        exact r_zret (pc := 62) O rfl d_E_putInto_62 nb_0
      · refine r_aload_n (pc := 38) O d_E_putInto_38 0 rfl ?_
        refine r_getL (x := (h.2 1 4)) (pc := 39) O gf_c_E_22_1 d_E_putInto_39 rfl ?_
        refine r_iload_n (pc := 42) O d_E_putInto_42 2 rfl ?_
        refine r_callSip (pc := 43) O [.long (h.2 1 4), .int p2] (R_B_isSeen n (h.2 1 4) p2 h) cw_E_putInto_43 wm_619 rfl (Nat.le_of_ble_eq_true rfl) d_E_putInto_43 rfl (fun v43 => ?_)
        refine r_if_eq (tgt := 61) (pc := 46) O d_E_putInto_46 (by decide) (fun q46 => ?_) (fun q46 => ?_)
        · refine r_iconst (pc := 61) O d_E_putInto_61 ic_0 ?_
          exact r_zret (pc := 62) O rfl d_E_putInto_62 nb_0
        · refine r_aload_n (pc := 49) O d_E_putInto_49 0 rfl ?_
          refine r_getL (x := (h.2 1 4)) (pc := 50) O gf_c_E_22_1 d_E_putInto_50 rfl ?_
          refine r_iload_n (pc := 53) O d_E_putInto_53 2 rfl ?_
          refine r_iload_n (pc := 54) O d_E_putInto_54 1 rfl ?_
          refine r_callSip (pc := 55) O [.long (h.2 1 4), .int p2, .int p1] (R_B_isPartOf n (h.2 1 4) p2 p1 h) cw_E_putInto_55 wm_670 rfl (Nat.le_of_ble_eq_true rfl) d_E_putInto_55 rfl (fun v55 => ?_)
          refine r_if_eq (tgt := 63) (pc := 58) O d_E_putInto_58 (by decide) (fun q58 => ?_) (fun q58 => ?_)
          · refine r_aload_n (pc := 63) O d_E_putInto_63 0 rfl ?_
            refine r_aload_n (pc := 64) O d_E_putInto_64 0 rfl ?_
            refine r_getL (x := (h.2 1 4)) (pc := 65) O gf_c_E_22_1 d_E_putInto_65 rfl ?_
            refine r_iload_n (pc := 68) O d_E_putInto_68 1 rfl ?_
            refine r_bipush (pc := 69) O d_E_putInto_69 bc_7 ?_
            refine r_iload_n (pc := 71) O d_E_putInto_71 2 rfl ?_
            refine r_iadd (pc := 72) O d_E_putInto_72 ?_
            refine r_callSlp (pc := 73) O [.long (h.2 1 4), .int p1, .int (7 + p2)] (R_B_withPlace n (h.2 1 4) p1 (7 + p2) h) cw_E_putInto_73 wm_288 rfl (Nat.le_of_ble_eq_true rfl) d_E_putInto_73 rfl (fun v73 => ?_)
            refine r_putL (pc := 76) O pf_c_E_22_1 d_E_putInto_76 ?_
            refine r_iconst (pc := 79) O d_E_putInto_79 ic_1 ?_
            exact r_zret (pc := 80) O rfl d_E_putInto_80 nb_1
          · refine r_iconst (pc := 61) O d_E_putInto_61 ic_0 ?_
            exact r_zret (pc := 62) O rfl d_E_putInto_62 nb_0
def K_E_turnLid_32 (n : Nat) (p1 : Int32) (p2 : Int32) (t0 : Int32) (t1 : Int32) (h : sHp) : Option (Int32 × sHp) :=
  if t1 = t0 then (some (0, h)) else ((J_B_isSeen n (h.2 1 4) p1 h).bind fun v40 =>
  if v40 = 0 then (some (0, h)) else ((J_B_withOpen n (h.2 1 4) p1 p2 h).bind fun v55 =>
  some (1, (pL h 1 4 v55))))
def J_E_turnLid (n : Nat) (p1 : Int32) (p2 : Int32) (h : sHp) : Option (Int32 × sHp) :=
  sGd (sIn p1 6) (if ((h.1 13 (ix p1)) &&& 2) = 0 then (some (0, h)) else ((J_B_isOpen n (h.2 1 4) p1 h).bind fun v19 =>
  if p2 = 1 then (K_E_turnLid_32 n p1 p2 1 v19 h) else (K_E_turnLid_32 n p1 p2 0 v19 h)))
set_option maxRecDepth 20000 in
set_option maxHeartbeats 4000000 in
theorem R_E_turnLid (n : Nat) (p1 : Int32) (p2 : Int32) (h : sHp) : sM Zc sOi y_E_turnLid prog_6_method_13_code 3 (some .boolean) rm_E_turnLid [.ref 1, .int p1, .int p2] h (J_E_turnLid n p1 p2 h) := by
  refine sM_of (own := "StoryStates$Engine") rfl (by decide) (Nat.le_of_ble_eq_true rfl) (fun M V O => ?_)
  unfold J_E_turnLid
  refine r_lv (lv' := [(0, .ref 1), (1, .int p1), (2, .int p2)]) [0, 1, 2] rfl ?_
  have hK32 : ∀ (t0 : Int32) (t1 : Int32) (h : sHp), sS Zc M V (sEb sOi) 32 [(0, .ref 1), (1, .int p1), (2, .int p2)] [.int t0, .int t1] h (K_E_turnLid_32 n p1 p2 t0 t1 h) := by
    intro t0 t1 h
    unfold K_E_turnLid_32
    refine r_icmp_eq (tgt := 46) (pc := 32) O d_E_turnLid_32 (by decide) (fun q32 => ?_) (fun q32 => ?_)
    · refine r_iconst (pc := 46) O d_E_turnLid_46 ic_0 ?_
      exact r_zret (pc := 47) O rfl d_E_turnLid_47 nb_0
    · refine r_aload_n (pc := 35) O d_E_turnLid_35 0 rfl ?_
      refine r_getL (x := (h.2 1 4)) (pc := 36) O gf_c_E_22_1 d_E_turnLid_36 rfl ?_
      refine r_iload_n (pc := 39) O d_E_turnLid_39 1 rfl ?_
      refine r_callSip (pc := 40) O [.long (h.2 1 4), .int p1] (R_B_isSeen n (h.2 1 4) p1 h) cw_E_turnLid_40 wm_619 rfl (Nat.le_of_ble_eq_true rfl) d_E_turnLid_40 rfl (fun v40 => ?_)
      refine r_if_ne (tgt := 48) (pc := 43) O d_E_turnLid_43 (by decide) (fun q43 => ?_) (fun q43 => ?_)
      · refine r_aload_n (pc := 48) O d_E_turnLid_48 0 rfl ?_
        refine r_aload_n (pc := 49) O d_E_turnLid_49 0 rfl ?_
        refine r_getL (x := (h.2 1 4)) (pc := 50) O gf_c_E_22_1 d_E_turnLid_50 rfl ?_
        refine r_iload_n (pc := 53) O d_E_turnLid_53 1 rfl ?_
        refine r_iload_n (pc := 54) O d_E_turnLid_54 2 rfl ?_
        refine r_callSlp (pc := 55) O [.long (h.2 1 4), .int p1, .int p2] (R_B_withOpen n (h.2 1 4) p1 p2 h) cw_E_turnLid_55 wm_295 rfl (Nat.le_of_ble_eq_true rfl) d_E_turnLid_55 rfl (fun v55 => ?_)
        refine r_putL (pc := 58) O pf_c_E_22_1 d_E_turnLid_58 ?_
        refine r_iconst (pc := 61) O d_E_turnLid_61 ic_1 ?_
        exact r_zret (pc := 62) O rfl d_E_turnLid_62 nb_1
      · refine r_iconst (pc := 46) O d_E_turnLid_46 ic_0 ?_
        exact r_zret (pc := 47) O rfl d_E_turnLid_47 nb_0
  refine r_aload_n (pc := 0) O d_E_turnLid_0 0 rfl ?_
  refine r_getR (pc := 1) O gf_c_E_12_1 d_E_turnLid_1 ?_
  refine r_getR (pc := 4) O gf_c_E_192_2 d_E_turnLid_4 ?_
  refine r_iload_n (pc := 7) O d_E_turnLid_7 1 rfl ?_
  refine r_iald (x := (h.1 13 (ix p1))) (pc := 8) O rfl d_E_turnLid_8 rfl ?_
  refine r_iconst (pc := 9) O d_E_turnLid_9 ic_2 ?_
  refine r_iand (pc := 10) O d_E_turnLid_10 ?_
  refine r_if_eq (tgt := 46) (pc := 11) O d_E_turnLid_11 (by decide) (fun q11 => ?_) (fun q11 => ?_)
  · refine r_iconst (pc := 46) O d_E_turnLid_46 ic_0 ?_
    exact r_zret (pc := 47) O rfl d_E_turnLid_47 nb_0
  · refine r_aload_n (pc := 14) O d_E_turnLid_14 0 rfl ?_
    refine r_getL (x := (h.2 1 4)) (pc := 15) O gf_c_E_22_1 d_E_turnLid_15 rfl ?_
    refine r_iload_n (pc := 18) O d_E_turnLid_18 1 rfl ?_
    refine r_callSip (pc := 19) O [.long (h.2 1 4), .int p1] (R_B_isOpen n (h.2 1 4) p1 h) cw_E_turnLid_19 wm_625 rfl (Nat.le_of_ble_eq_true rfl) d_E_turnLid_19 rfl (fun v19 => ?_)
    refine r_iload_n (pc := 22) O d_E_turnLid_22 2 rfl ?_
    refine r_iconst (pc := 23) O d_E_turnLid_23 ic_1 ?_
    refine r_icmp_ne (tgt := 31) (pc := 24) O d_E_turnLid_24 (by decide) (fun q24 => ?_) (fun q24 => ?_)
    · refine r_iconst (pc := 31) O d_E_turnLid_31 ic_0 ?_
      exact (hK32 0 v19 h)
    · refine r_iconst (pc := 27) O d_E_turnLid_27 ic_1 ?_
      refine r_goto (pc := 28) O d_E_turnLid_28 (tgt := 32) (by decide) ?_
      exact (hK32 1 v19 h)
def J_E_putDown (n : Nat) (p1 : Int32) (h : sHp) : Option (Int32 × sHp) :=
  (J_B_placeOf n (h.2 1 4) p1 h).bind fun v5 =>
  if v5 = 6 then ((J_B_roomOf n (h.2 1 4) h).bind fun v25 =>
  (J_B_withPlace n (h.2 1 4) p1 v25 h).bind fun v28 =>
  some (1, (pL h 1 4 v28))) else (some (0, h))
set_option maxRecDepth 20000 in
set_option maxHeartbeats 4000000 in
theorem R_E_putDown (n : Nat) (p1 : Int32) (h : sHp) : sM Zc sOi y_E_putDown prog_6_method_12_code 2 (some .boolean) rm_E_putDown [.ref 1, .int p1] h (J_E_putDown n p1 h) := by
  refine sM_of (own := "StoryStates$Engine") rfl (by decide) (Nat.le_of_ble_eq_true rfl) (fun M V O => ?_)
  unfold J_E_putDown
  refine r_lv (lv' := [(0, .ref 1), (1, .int p1)]) [0, 1] rfl ?_
  refine r_aload_n (pc := 0) O d_E_putDown_0 0 rfl ?_
  refine r_getL (x := (h.2 1 4)) (pc := 1) O gf_c_E_22_1 d_E_putDown_1 rfl ?_
  refine r_iload_n (pc := 4) O d_E_putDown_4 1 rfl ?_
  refine r_callSip (pc := 5) O [.long (h.2 1 4), .int p1] (R_B_placeOf n (h.2 1 4) p1 h) cw_E_putDown_5 wm_622 rfl (Nat.le_of_ble_eq_true rfl) d_E_putDown_5 rfl (fun v5 => ?_)
  refine r_bipush (pc := 8) O d_E_putDown_8 bc_6 ?_
  refine r_icmp_eq (tgt := 15) (pc := 10) O d_E_putDown_10 (by decide) (fun q10 => ?_) (fun q10 => ?_)
  · refine r_aload_n (pc := 15) O d_E_putDown_15 0 rfl ?_
    refine r_aload_n (pc := 16) O d_E_putDown_16 0 rfl ?_
    refine r_getL (x := (h.2 1 4)) (pc := 17) O gf_c_E_22_1 d_E_putDown_17 rfl ?_
    refine r_iload_n (pc := 20) O d_E_putDown_20 1 rfl ?_
    refine r_aload_n (pc := 21) O d_E_putDown_21 0 rfl ?_
    refine r_getL (x := (h.2 1 4)) (pc := 22) O gf_c_E_22_1 d_E_putDown_22 rfl ?_
    refine r_callSip (pc := 25) O [.long (h.2 1 4)] (R_B_roomOf n (h.2 1 4) h) cw_E_putDown_25 wm_628 rfl (Nat.le_of_ble_eq_true rfl) d_E_putDown_25 rfl (fun v25 => ?_)
    refine r_callSlp (pc := 28) O [.long (h.2 1 4), .int p1, .int v25] (R_B_withPlace n (h.2 1 4) p1 v25 h) cw_E_putDown_28 wm_288 rfl (Nat.le_of_ble_eq_true rfl) d_E_putDown_28 rfl (fun v28 => ?_)
    refine r_putL (pc := 31) O pf_c_E_22_1 d_E_putDown_31 ?_
    refine r_iconst (pc := 34) O d_E_putDown_34 ic_1 ?_
    exact r_zret (pc := 35) O rfl d_E_putDown_35 nb_1
  · refine r_iconst (pc := 13) O d_E_putDown_13 ic_0 ?_
    exact r_zret (pc := 14) O rfl d_E_putDown_14 nb_0
def J_E_takeUp (n : Nat) (p1 : Int32) (h : sHp) : Option (Int32 × sHp) :=
  sGd (sIn p1 6) (if ((h.1 13 (ix p1)) &&& 1) = 0 then (some (0, h)) else ((J_B_placeOf n (h.2 1 4) p1 h).bind fun v19 =>
  if v19 = 6 then (some (0, h)) else ((J_B_isSeen n (h.2 1 4) p1 h).bind fun v32 =>
  if v32 = 0 then (some (0, h)) else ((J_B_withPlace n (h.2 1 4) p1 6 h).bind fun v48 =>
  some (1, (pL h 1 4 v48))))))
set_option maxRecDepth 20000 in
set_option maxHeartbeats 4000000 in
theorem R_E_takeUp (n : Nat) (p1 : Int32) (h : sHp) : sM Zc sOi y_E_takeUp prog_6_method_11_code 2 (some .boolean) rm_E_takeUp [.ref 1, .int p1] h (J_E_takeUp n p1 h) := by
  refine sM_of (own := "StoryStates$Engine") rfl (by decide) (Nat.le_of_ble_eq_true rfl) (fun M V O => ?_)
  unfold J_E_takeUp
  refine r_lv (lv' := [(0, .ref 1), (1, .int p1)]) [0, 1] rfl ?_
  refine r_aload_n (pc := 0) O d_E_takeUp_0 0 rfl ?_
  refine r_getR (pc := 1) O gf_c_E_12_1 d_E_takeUp_1 ?_
  refine r_getR (pc := 4) O gf_c_E_192_2 d_E_takeUp_4 ?_
  refine r_iload_n (pc := 7) O d_E_takeUp_7 1 rfl ?_
  refine r_iald (x := (h.1 13 (ix p1))) (pc := 8) O rfl d_E_takeUp_8 rfl ?_
  refine r_iconst (pc := 9) O d_E_takeUp_9 ic_1 ?_
  refine r_iand (pc := 10) O d_E_takeUp_10 ?_
  refine r_if_eq (tgt := 38) (pc := 11) O d_E_takeUp_11 (by decide) (fun q11 => ?_) (fun q11 => ?_)
  · refine r_iconst (pc := 38) O d_E_takeUp_38 ic_0 ?_
    exact r_zret (pc := 39) O rfl d_E_takeUp_39 nb_0
  · refine r_aload_n (pc := 14) O d_E_takeUp_14 0 rfl ?_
    refine r_getL (x := (h.2 1 4)) (pc := 15) O gf_c_E_22_1 d_E_takeUp_15 rfl ?_
    refine r_iload_n (pc := 18) O d_E_takeUp_18 1 rfl ?_
    refine r_callSip (pc := 19) O [.long (h.2 1 4), .int p1] (R_B_placeOf n (h.2 1 4) p1 h) cw_E_takeUp_19 wm_622 rfl (Nat.le_of_ble_eq_true rfl) d_E_takeUp_19 rfl (fun v19 => ?_)
    refine r_bipush (pc := 22) O d_E_takeUp_22 bc_6 ?_
    refine r_icmp_eq (tgt := 38) (pc := 24) O d_E_takeUp_24 (by decide) (fun q24 => ?_) (fun q24 => ?_)
    · refine r_iconst (pc := 38) O d_E_takeUp_38 ic_0 ?_
      exact r_zret (pc := 39) O rfl d_E_takeUp_39 nb_0
    · refine r_aload_n (pc := 27) O d_E_takeUp_27 0 rfl ?_
      refine r_getL (x := (h.2 1 4)) (pc := 28) O gf_c_E_22_1 d_E_takeUp_28 rfl ?_
      refine r_iload_n (pc := 31) O d_E_takeUp_31 1 rfl ?_
      refine r_callSip (pc := 32) O [.long (h.2 1 4), .int p1] (R_B_isSeen n (h.2 1 4) p1 h) cw_E_takeUp_32 wm_619 rfl (Nat.le_of_ble_eq_true rfl) d_E_takeUp_32 rfl (fun v32 => ?_)
      refine r_if_ne (tgt := 40) (pc := 35) O d_E_takeUp_35 (by decide) (fun q35 => ?_) (fun q35 => ?_)
      · refine r_aload_n (pc := 40) O d_E_takeUp_40 0 rfl ?_
        refine r_aload_n (pc := 41) O d_E_takeUp_41 0 rfl ?_
        refine r_getL (x := (h.2 1 4)) (pc := 42) O gf_c_E_22_1 d_E_takeUp_42 rfl ?_
        refine r_iload_n (pc := 45) O d_E_takeUp_45 1 rfl ?_
        refine r_bipush (pc := 46) O d_E_takeUp_46 bc_6 ?_
        refine r_callSlp (pc := 48) O [.long (h.2 1 4), .int p1, .int 6] (R_B_withPlace n (h.2 1 4) p1 6 h) cw_E_takeUp_48 wm_288 rfl (Nat.le_of_ble_eq_true rfl) d_E_takeUp_48 rfl (fun v48 => ?_)
        refine r_putL (pc := 51) O pf_c_E_22_1 d_E_takeUp_51 ?_
        refine r_iconst (pc := 54) O d_E_takeUp_54 ic_1 ?_
        exact r_zret (pc := 55) O rfl d_E_takeUp_55 nb_1
      · refine r_iconst (pc := 38) O d_E_takeUp_38 ic_0 ?_
        exact r_zret (pc := 39) O rfl d_E_takeUp_39 nb_0
def K_E_goThrough_53 (n : Nat) (p1 : Int32) (x2 : Int32) (h : sHp) : Option (Int32 × sHp) :=
  sGd (sIn x2 24) ((J_B_withRoom n (h.2 1 4) (h.1 10 (ix x2)) h).bind fun v67 =>
  some (1, (pL h 1 4 v67)))
def J_E_goThrough (n : Nat) (p1 : Int32) (h : sHp) : Option (Int32 × sHp) :=
  (J_B_roomOf n (h.2 1 4) h).bind fun v4 =>
  sGd (sIn ((v4 * 4) + p1) 24) (sGd (sIn ((v4 * 4) + p1) 24) (if (h.1 10 (ix ((v4 * 4) + p1))) = (-1) then (some (0, h)) else (if (h.1 11 (ix ((v4 * 4) + p1))) = (-1) then (K_E_goThrough_53 n p1 ((v4 * 4) + p1) h) else ((J_B_isOpen n (h.2 1 4) (h.1 11 (ix ((v4 * 4) + p1))) h).bind fun v45 =>
  if v45 = 0 then (some (0, h)) else (K_E_goThrough_53 n p1 ((v4 * 4) + p1) h)))))
set_option maxRecDepth 20000 in
set_option maxHeartbeats 4000000 in
theorem R_E_goThrough (n : Nat) (p1 : Int32) (h : sHp) : sM Zc sOi y_E_goThrough prog_6_method_10_code 4 (some .boolean) rm_E_goThrough [.ref 1, .int p1] h (J_E_goThrough n p1 h) := by
  refine sM_of (own := "StoryStates$Engine") rfl (by decide) (Nat.le_of_ble_eq_true rfl) (fun M V O => ?_)
  unfold J_E_goThrough
  refine r_lv (lv' := [(0, .ref 1), (1, .int p1)]) [0, 1] rfl ?_
  have hK53 : ∀ (x2 : Int32) (h : sHp), sS Zc M V (sEb sOi) 53 [(0, .ref 1), (2, .int x2)] [] h (K_E_goThrough_53 n p1 x2 h) := by
    intro x2 h
    unfold K_E_goThrough_53
    refine r_aload_n (pc := 53) O d_E_goThrough_53 0 rfl ?_
    refine r_aload_n (pc := 54) O d_E_goThrough_54 0 rfl ?_
    refine r_getL (x := (h.2 1 4)) (pc := 55) O gf_c_E_22_1 d_E_goThrough_55 rfl ?_
    refine r_aload_n (pc := 58) O d_E_goThrough_58 0 rfl ?_
    refine r_getR (pc := 59) O gf_c_E_12_1 d_E_goThrough_59 ?_
    refine r_getR (pc := 62) O gf_c_E_189_2 d_E_goThrough_62 ?_
    refine r_iload_n (pc := 65) O d_E_goThrough_65 1 rfl ?_
    refine r_iald (x := (h.1 10 (ix x2))) (pc := 66) O rfl d_E_goThrough_66 rfl ?_
    refine r_callSlp (pc := 67) O [.long (h.2 1 4), .int (h.1 10 (ix x2))] (R_B_withRoom n (h.2 1 4) (h.1 10 (ix x2)) h) cw_E_goThrough_67 wm_667 rfl (Nat.le_of_ble_eq_true rfl) d_E_goThrough_67 rfl (fun v67 => ?_)
    refine r_putL (pc := 70) O pf_c_E_22_1 d_E_goThrough_70 ?_
    refine r_iconst (pc := 73) O d_E_goThrough_73 ic_1 ?_
    exact r_zret (pc := 74) O rfl d_E_goThrough_74 nb_1
  refine r_aload_n (pc := 0) O d_E_goThrough_0 0 rfl ?_
  refine r_getL (x := (h.2 1 4)) (pc := 1) O gf_c_E_22_1 d_E_goThrough_1 rfl ?_
  refine r_callSip (pc := 4) O [.long (h.2 1 4)] (R_B_roomOf n (h.2 1 4) h) cw_E_goThrough_4 wm_628 rfl (Nat.le_of_ble_eq_true rfl) d_E_goThrough_4 rfl (fun v4 => ?_)
  refine r_iconst (pc := 7) O d_E_goThrough_7 ic_4 ?_
  refine r_imul (pc := 8) O d_E_goThrough_8 ?_
  refine r_iload_n (pc := 9) O d_E_goThrough_9 1 rfl ?_
  refine r_iadd (pc := 10) O d_E_goThrough_10 ?_
  refine r_istore_n (lv' := [(2, .int ((v4 * 4) + p1)), (0, .ref 1), (1, .int p1)]) (pc := 11) O d_E_goThrough_11 rfl (by decide) rfl ?_
  refine r_aload_n (pc := 12) O d_E_goThrough_12 1 rfl ?_
  refine r_getR (pc := 13) O gf_c_E_12_1 d_E_goThrough_13 ?_
  refine r_getR (pc := 16) O gf_c_E_186_2 d_E_goThrough_16 ?_
  refine r_iload_n (pc := 19) O d_E_goThrough_19 0 rfl ?_
  refine r_iald (x := (h.1 11 (ix ((v4 * 4) + p1)))) (pc := 20) O rfl d_E_goThrough_20 rfl ?_
  refine r_istore_n (lv' := [(3, .int (h.1 11 (ix ((v4 * 4) + p1)))), (2, .int ((v4 * 4) + p1)), (0, .ref 1), (1, .int p1)]) (pc := 21) O d_E_goThrough_21 rfl (by decide) rfl ?_
  refine r_aload_n (pc := 22) O d_E_goThrough_22 2 rfl ?_
  refine r_getR (pc := 23) O gf_c_E_12_1 d_E_goThrough_23 ?_
  refine r_getR (pc := 26) O gf_c_E_189_2 d_E_goThrough_26 ?_
  refine r_iload_n (pc := 29) O d_E_goThrough_29 1 rfl ?_
  refine r_iald (x := (h.1 10 (ix ((v4 * 4) + p1)))) (pc := 30) O rfl d_E_goThrough_30 rfl ?_
  refine r_iconst (pc := 31) O d_E_goThrough_31 ic_m1 ?_
  refine r_icmp_eq (tgt := 51) (pc := 32) O d_E_goThrough_32 (by decide) (fun q32 => ?_) (fun q32 => ?_)
  · refine r_iconst (pc := 51) O d_E_goThrough_51 ic_0 ?_
    exact r_zret (pc := 52) O rfl d_E_goThrough_52 nb_0
  · refine r_iload_n (pc := 35) O d_E_goThrough_35 0 rfl ?_
    refine r_iconst (pc := 36) O d_E_goThrough_36 ic_m1 ?_
    refine r_icmp_eq (tgt := 53) (pc := 37) O d_E_goThrough_37 (by decide) (fun q37 => ?_) (fun q37 => ?_)
    · exact r_lv [2, 1] rfl (hK53 ((v4 * 4) + p1) h)
    · refine r_aload_n (pc := 40) O d_E_goThrough_40 2 rfl ?_
      refine r_getL (x := (h.2 1 4)) (pc := 41) O gf_c_E_22_1 d_E_goThrough_41 rfl ?_
      refine r_iload_n (pc := 44) O d_E_goThrough_44 0 rfl ?_
      refine r_callSip (pc := 45) O [.long (h.2 1 4), .int (h.1 11 (ix ((v4 * 4) + p1)))] (R_B_isOpen n (h.2 1 4) (h.1 11 (ix ((v4 * 4) + p1))) h) cw_E_goThrough_45 wm_625 rfl (Nat.le_of_ble_eq_true rfl) d_E_goThrough_45 rfl (fun v45 => ?_)
      refine r_if_ne (tgt := 53) (pc := 48) O d_E_goThrough_48 (by decide) (fun q48 => ?_) (fun q48 => ?_)
      · exact r_lv [2, 1] rfl (hK53 ((v4 * 4) + p1) h)
      · refine r_iconst (pc := 51) O d_E_goThrough_51 ic_0 ?_
        exact r_zret (pc := 52) O rfl d_E_goThrough_52 nb_0
def J_E_actWithoutRule (n : Nat) (p1 : Int32) (p2 : Int32) (p3 : Int32) (h : sHp) : Option (Int32 × sHp) :=
  if p1 = 0 then ((J_E_goThrough n p2 h).bind fun v42 =>
  sGd (jB v42.1) (some (v42.1, v42.2))) else (if p1 = 1 then ((J_E_takeUp n p2 h).bind fun v48 =>
  sGd (jB v48.1) (some (v48.1, v48.2))) else (if p1 = 2 then ((J_E_putDown n p2 h).bind fun v54 =>
  sGd (jB v54.1) (some (v54.1, v54.2))) else (if p1 = 3 then ((J_E_turnLid n p2 1 h).bind fun v61 =>
  sGd (jB v61.1) (some (v61.1, v61.2))) else (if p1 = 4 then ((J_E_turnLid n p2 0 h).bind fun v68 =>
  sGd (jB v68.1) (some (v68.1, v68.2))) else (if p1 = 5 then ((J_E_putInto n p2 p3 h).bind fun v75 =>
  sGd (jB v75.1) (some (v75.1, v75.2))) else (if p1 = 6 then (some (1, h)) else (some (0, h))))))))
set_option maxRecDepth 20000 in
set_option maxHeartbeats 4000000 in
theorem R_E_actWithoutRule (n : Nat) (p1 : Int32) (p2 : Int32) (p3 : Int32) (h : sHp) : sM Zc sOi y_E_actWithoutRule prog_6_method_9_code 4 (some .boolean) rm_E_actWithoutRule [.ref 1, .int p1, .int p2, .int p3] h (J_E_actWithoutRule n p1 p2 p3 h) := by
  refine sM_of (own := "StoryStates$Engine") rfl (by decide) (Nat.le_of_ble_eq_true rfl) (fun M V O => ?_)
  unfold J_E_actWithoutRule
  refine r_lv (lv' := [(0, .ref 1), (1, .int p1), (2, .int p2), (3, .int p3)]) [0, 1, 2, 3] rfl ?_
  refine r_iload_n (pc := 0) O d_E_actWithoutRule_0 1 rfl ?_
  refine r_ite (fun q1_0 => ?_) (fun q1_0 => ?_)
  · refine r_tin (tgt := 40) (pc := 1) O d_E_actWithoutRule_1 (by rw [q1_0]; decide) (by rw [q1_0]; decide) (by rw [q1_0]; rfl) (by decide) ?_
    refine r_aload_n (pc := 40) O d_E_actWithoutRule_40 0 rfl ?_
    refine r_iload_n (pc := 41) O d_E_actWithoutRule_41 2 rfl ?_
    refine r_callVi (pc := 42) O [.int p2] rfl rfl (R_E_goThrough n p2 h) cw_E_actWithoutRule_42 wm_690 ws_E_goThrough rfl (Nat.le_of_ble_eq_true rfl) d_E_actWithoutRule_42 rfl (fun v42 => ?_)
    exact r_zretg (pc := 45) O rfl d_E_actWithoutRule_45
  · refine r_ite (fun q1_1 => ?_) (fun q1_1 => ?_)
    · refine r_tin (tgt := 46) (pc := 1) O d_E_actWithoutRule_1 (by rw [q1_1]; decide) (by rw [q1_1]; decide) (by rw [q1_1]; rfl) (by decide) ?_
      refine r_aload_n (pc := 46) O d_E_actWithoutRule_46 0 rfl ?_
      refine r_iload_n (pc := 47) O d_E_actWithoutRule_47 2 rfl ?_
      refine r_callVi (pc := 48) O [.int p2] rfl rfl (R_E_takeUp n p2 h) cw_E_actWithoutRule_48 wm_694 ws_E_takeUp rfl (Nat.le_of_ble_eq_true rfl) d_E_actWithoutRule_48 rfl (fun v48 => ?_)
      exact r_zretg (pc := 51) O rfl d_E_actWithoutRule_51
    · refine r_ite (fun q1_2 => ?_) (fun q1_2 => ?_)
      · refine r_tin (tgt := 52) (pc := 1) O d_E_actWithoutRule_1 (by rw [q1_2]; decide) (by rw [q1_2]; decide) (by rw [q1_2]; rfl) (by decide) ?_
        refine r_aload_n (pc := 52) O d_E_actWithoutRule_52 0 rfl ?_
        refine r_iload_n (pc := 53) O d_E_actWithoutRule_53 2 rfl ?_
        refine r_callVi (pc := 54) O [.int p2] rfl rfl (R_E_putDown n p2 h) cw_E_actWithoutRule_54 wm_698 ws_E_putDown rfl (Nat.le_of_ble_eq_true rfl) d_E_actWithoutRule_54 rfl (fun v54 => ?_)
        exact r_zretg (pc := 57) O rfl d_E_actWithoutRule_57
      · refine r_ite (fun q1_3 => ?_) (fun q1_3 => ?_)
        · refine r_tin (tgt := 58) (pc := 1) O d_E_actWithoutRule_1 (by rw [q1_3]; decide) (by rw [q1_3]; decide) (by rw [q1_3]; rfl) (by decide) ?_
          refine r_aload_n (pc := 58) O d_E_actWithoutRule_58 0 rfl ?_
          refine r_iload_n (pc := 59) O d_E_actWithoutRule_59 2 rfl ?_
          refine r_iconst (pc := 60) O d_E_actWithoutRule_60 ic_1 ?_
          refine r_callVi (pc := 61) O [.int p2, .int 1] rfl rfl (R_E_turnLid n p2 1 h) cw_E_actWithoutRule_61 wm_702 ws_E_turnLid rfl (Nat.le_of_ble_eq_true rfl) d_E_actWithoutRule_61 rfl (fun v61 => ?_)
          exact r_zretg (pc := 64) O rfl d_E_actWithoutRule_64
        · refine r_ite (fun q1_4 => ?_) (fun q1_4 => ?_)
          · refine r_tin (tgt := 65) (pc := 1) O d_E_actWithoutRule_1 (by rw [q1_4]; decide) (by rw [q1_4]; decide) (by rw [q1_4]; rfl) (by decide) ?_
            refine r_aload_n (pc := 65) O d_E_actWithoutRule_65 0 rfl ?_
            refine r_iload_n (pc := 66) O d_E_actWithoutRule_66 2 rfl ?_
            refine r_iconst (pc := 67) O d_E_actWithoutRule_67 ic_0 ?_
            refine r_callVi (pc := 68) O [.int p2, .int 0] rfl rfl (R_E_turnLid n p2 0 h) cw_E_actWithoutRule_68 wm_702 ws_E_turnLid rfl (Nat.le_of_ble_eq_true rfl) d_E_actWithoutRule_68 rfl (fun v68 => ?_)
            exact r_zretg (pc := 71) O rfl d_E_actWithoutRule_71
          · refine r_ite (fun q1_5 => ?_) (fun q1_5 => ?_)
            · refine r_tin (tgt := 72) (pc := 1) O d_E_actWithoutRule_1 (by rw [q1_5]; decide) (by rw [q1_5]; decide) (by rw [q1_5]; rfl) (by decide) ?_
              refine r_aload_n (pc := 72) O d_E_actWithoutRule_72 0 rfl ?_
              refine r_iload_n (pc := 73) O d_E_actWithoutRule_73 2 rfl ?_
              refine r_iload_n (pc := 74) O d_E_actWithoutRule_74 3 rfl ?_
              refine r_callVi (pc := 75) O [.int p2, .int p3] rfl rfl (R_E_putInto n p2 p3 h) cw_E_actWithoutRule_75 wm_706 ws_E_putInto rfl (Nat.le_of_ble_eq_true rfl) d_E_actWithoutRule_75 rfl (fun v75 => ?_)
              exact r_zretg (pc := 78) O rfl d_E_actWithoutRule_78
            · refine r_tout (tgt := 79) (pc := 1) O d_E_actWithoutRule_1 (by have z0 := lv_neT (a := 0) q1_0 (by decide); have z1 := lv_neT (a := 1) q1_1 (by decide); have z2 := lv_neT (a := 2) q1_2 (by decide); have z3 := lv_neT (a := 3) q1_3 (by decide); have z4 := lv_neT (a := 4) q1_4 (by decide); have z5 := lv_neT (a := 5) q1_5 (by decide); omega) (by decide) ?_
              refine r_iload_n (pc := 79) O d_E_actWithoutRule_79 1 rfl ?_
              refine r_bipush (pc := 80) O d_E_actWithoutRule_80 bc_6 ?_
              refine r_icmp_ne (tgt := 89) (pc := 82) O d_E_actWithoutRule_82 (by decide) (fun q82 => ?_) (fun q82 => ?_)
              · refine r_iconst (pc := 89) O d_E_actWithoutRule_89 ic_0 ?_
                exact r_zret (pc := 90) O rfl d_E_actWithoutRule_90 nb_0
              · refine r_iconst (pc := 85) O d_E_actWithoutRule_85 ic_1 ?_
                refine r_goto (pc := 86) O d_E_actWithoutRule_86 (tgt := 90) (by decide) ?_
                exact r_zret (pc := 90) O rfl d_E_actWithoutRule_90 nb_1
def F_E_take_83 (n : Nat) (p1 : Int64) (p3 : Int32) (p4 : Int32) (p5 : Int32) (rec83 : Int32 × sHp → Option (Int64 × sHp)) (q : Int32 × sHp) : Option (Int64 × sHp) :=
  if (q.2.1 2 17) ≤ q.1 then (some ((q.2.2 1 4), q.2)) else ((J_B_isOver n (q.2.2 1 4) q.2).bind fun v99 =>
  if v99 = 0 then (sGd (sIn q.1 2) ((J_E_runsOut n q.1 q.2).bind fun v120 =>
  if v120.1 = 0 then (rec83 ((q.1 + 1), v120.2)) else ((J_E_conditionsHold n (q.2.1 19 (ix q.1)) v120.2).bind fun v129 =>
  if v129 = 0 then (rec83 ((q.1 + 1), v120.2)) else ((J_E_doRule n (q.2.1 19 (ix q.1)) v120.2).bind fun v138 =>
  rec83 ((q.1 + 1), v138))))) else (some ((q.2.2 1 4), q.2)))
def K_E_take_80 (n : Nat) (p1 : Int64) (p3 : Int32) (p4 : Int32) (p5 : Int32) (h : sHp) : Option (Int64 × sHp) :=
  sFx (F_E_take_83 n p1 p3 p4 p5 ) n (0, h)
def K_E_take_66 (n : Nat) (p1 : Int64) (p3 : Int32) (p4 : Int32) (p5 : Int32) (h : sHp) : Option (Int64 × sHp) :=
  (J_B_isOver n (h.2 1 4) h).bind fun v70 =>
  if v70 = 0 then ((J_E_stepWalkers n h).bind fun v77 =>
  K_E_take_80 n p1 p3 p4 p5 v77) else (K_E_take_80 n p1 p3 p4 p5 h)
def K_E_take_63 (n : Nat) (p1 : Int64) (p3 : Int32) (p4 : Int32) (p5 : Int32) (t0 : Int32) (h : sHp) : Option (Int64 × sHp) :=
  (J_E_say n t0 h).bind fun v63 =>
  K_E_take_66 n p1 p3 p4 p5 v63
def J_E_take (n : Nat) (p1 : Int64) (p3 : Int32) (p4 : Int32) (p5 : Int32) (h : sHp) : Option (Int64 × sHp) :=
  (J_E_fittingRule n p3 p4 p5 (pI (pI (pL h 1 4 p1) 1 2 0) 1 3 0)).bind fun v21 =>
  if v21 = (-1) then ((J_E_actWithoutRule n p3 p4 p5 (pI (pI (pL h 1 4 p1) 1 2 0) 1 3 0)).bind fun v48 =>
  if v48.1 = 0 then (K_E_take_63 n p1 p3 p4 p5 99 v48.2) else (K_E_take_63 n p1 p3 p4 p5 (100 + p3) v48.2)) else ((J_E_doRule n v21 (pI (pI (pL h 1 4 p1) 1 2 0) 1 3 0)).bind fun v35 =>
  K_E_take_66 n p1 p3 p4 p5 v35)
set_option maxRecDepth 20000 in
set_option maxHeartbeats 4000000 in
theorem R_E_take (n : Nat) (p1 : Int64) (p3 : Int32) (p4 : Int32) (p5 : Int32) (h : sHp) : sM Zc sOl y_E_take prog_6_method_2_code 9 (some .long) rm_E_take [.ref 1, .long p1, .int p3, .int p4, .int p5] h (J_E_take n p1 p3 p4 p5 h) := by
  refine sM_of (own := "StoryStates$Engine") rfl (by decide) (Nat.le_of_ble_eq_true rfl) (fun M V O => ?_)
  unfold J_E_take
  refine r_lv (lv' := [(0, .ref 1), (1, .long p1), (3, .int p3), (4, .int p4), (5, .int p5)]) [0, 1, 2, 3, 4] rfl ?_
  have hL83 : ∀ (q : Int32 × sHp), sS Zc M V (sEb sOl) 83 [(0, .ref 1), (7, .int q.1)] [] q.2 (sFx (F_E_take_83 n p1 p3 p4 p5 ) n q) := by
    skip
    refine r_fx (fun q => [(0, .ref 1), (7, .int q.1)]) (fun q => q.2) (F_E_take_83 n p1 p3 p4 p5 ) (fun rec83 hrec83 q => ?_) n
    obtain ⟨qv0, qv1⟩ := q
    show sS Zc M V (sEb sOl) 83 [(0, .ref 1), (7, .int qv0)] [] qv1 _
    unfold F_E_take_83
    try dsimp only
    refine r_iload (pc := 83) O d_E_take_83 1 rfl ?_
    refine r_aload_n (pc := 85) O d_E_take_85 0 rfl ?_
    refine r_getR (pc := 86) O gf_c_E_12_1 d_E_take_86 ?_
    refine r_getI (x := (qv1.1 2 17)) (pc := 89) O gf_c_E_57_2 d_E_take_89 rfl ?_
    refine r_icmp_ge (tgt := 147) (pc := 92) O d_E_take_92 (by decide) (fun q92 => ?_) (fun q92 => ?_)
    · refine r_aload_n (pc := 147) O d_E_take_147 0 rfl ?_
      refine r_getL (x := (qv1.2 1 4)) (pc := 148) O gf_c_E_22_1 d_E_take_148 rfl ?_
      exact r_lret (pc := 151) O rfl d_E_take_151
    · refine r_aload_n (pc := 95) O d_E_take_95 0 rfl ?_
      refine r_getL (x := (qv1.2 1 4)) (pc := 96) O gf_c_E_22_1 d_E_take_96 rfl ?_
      refine r_callSip (pc := 99) O [.long (qv1.2 1 4)] (R_B_isOver n (qv1.2 1 4) qv1) cw_E_take_99 wm_601 rfl (Nat.le_of_ble_eq_true rfl) d_E_take_99 rfl (fun v99 => ?_)
      refine r_if_ne (tgt := 147) (pc := 102) O d_E_take_102 (by decide) (fun q102 => ?_) (fun q102 => ?_)
      · refine r_aload_n (pc := 147) O d_E_take_147 0 rfl ?_
        refine r_getL (x := (qv1.2 1 4)) (pc := 148) O gf_c_E_22_1 d_E_take_148 rfl ?_
        exact r_lret (pc := 151) O rfl d_E_take_151
      · refine r_aload_n (pc := 105) O d_E_take_105 0 rfl ?_
        refine r_getR (pc := 106) O gf_c_E_12_1 d_E_take_106 ?_
        refine r_getR (pc := 109) O gf_c_E_60_2 d_E_take_109 ?_
        refine r_iload (pc := 112) O d_E_take_112 1 rfl ?_
        refine r_iald (x := (qv1.1 19 (ix qv0))) (pc := 114) O rfl d_E_take_114 rfl ?_
        refine r_istore (lv' := [(8, .int (qv1.1 19 (ix qv0))), (0, .ref 1), (7, .int qv0)]) (pc := 115) O d_E_take_115 (by decide) rfl ?_
        refine r_aload_n (pc := 117) O d_E_take_117 1 rfl ?_
        refine r_iload (pc := 118) O d_E_take_118 2 rfl ?_
        refine r_callVi (pc := 120) O [.int qv0] rfl rfl (R_E_runsOut n qv0 qv1) cw_E_take_120 wm_720 ws_E_runsOut rfl (Nat.le_of_ble_eq_true rfl) d_E_take_120 rfl (fun v120 => ?_)
        refine r_if_eq (tgt := 141) (pc := 123) O d_E_take_123 (by decide) (fun q123 => ?_) (fun q123 => ?_)
        · refine r_iinc (lv' := [(7, .int (qv0 + 1)), (8, .int (qv1.1 19 (ix qv0))), (0, .ref 1)]) (pc := 141) O d_E_take_141 2 rfl (congrArg (HAdd.hAdd _) ic_1) (by decide) rfl ?_
          refine r_goto (pc := 144) O d_E_take_144 (tgt := 83) (by decide) ?_
          exact r_lv [2, 0] rfl (hrec83 ((qv0 + 1), v120.2))
        · refine r_aload_n (pc := 126) O d_E_take_126 1 rfl ?_
          refine r_iload (pc := 127) O d_E_take_127 0 rfl ?_
          refine r_callVip (pc := 129) O [.int (qv1.1 19 (ix qv0))] rfl rfl (R_E_conditionsHold n (qv1.1 19 (ix qv0)) v120.2) cw_E_take_129 wm_636 ws_E_conditionsHold rfl (Nat.le_of_ble_eq_true rfl) d_E_take_129 rfl (fun v129 => ?_)
          refine r_if_eq (tgt := 141) (pc := 132) O d_E_take_132 (by decide) (fun q132 => ?_) (fun q132 => ?_)
          · refine r_iinc (lv' := [(7, .int (qv0 + 1)), (8, .int (qv1.1 19 (ix qv0))), (0, .ref 1)]) (pc := 141) O d_E_take_141 2 rfl (congrArg (HAdd.hAdd _) ic_1) (by decide) rfl ?_
            refine r_goto (pc := 144) O d_E_take_144 (tgt := 83) (by decide) ?_
            exact r_lv [2, 0] rfl (hrec83 ((qv0 + 1), v120.2))
          · refine r_aload_n (pc := 135) O d_E_take_135 1 rfl ?_
            refine r_iload (pc := 136) O d_E_take_136 0 rfl ?_
            refine r_callVv (pc := 138) O [.int (qv1.1 19 (ix qv0))] rfl rfl (R_E_doRule n (qv1.1 19 (ix qv0)) v120.2) cw_E_take_138 wm_655 ws_E_doRule rfl (Nat.le_of_ble_eq_true rfl) d_E_take_138 rfl (fun v138 => ?_)
            refine r_iinc (lv' := [(7, .int (qv0 + 1)), (8, .int (qv1.1 19 (ix qv0))), (0, .ref 1)]) (pc := 141) O d_E_take_141 2 rfl (congrArg (HAdd.hAdd _) ic_1) (by decide) rfl ?_
            refine r_goto (pc := 144) O d_E_take_144 (tgt := 83) (by decide) ?_
            exact r_lv [2, 0] rfl (hrec83 ((qv0 + 1), v138))
  have hK80 : ∀ (h : sHp), sS Zc M V (sEb sOl) 80 [(0, .ref 1)] [] h (K_E_take_80 n p1 p3 p4 p5 h) := by
    intro h
    unfold K_E_take_80
    refine r_iconst (pc := 80) O d_E_take_80 ic_0 ?_
    refine r_istore (lv' := [(7, .int 0), (0, .ref 1)]) (pc := 81) O d_E_take_81 (by decide) rfl ?_
    exact r_lv [1, 0] rfl (hL83 (0, h))
  have hK66 : ∀ (h : sHp), sS Zc M V (sEb sOl) 66 [(0, .ref 1)] [] h (K_E_take_66 n p1 p3 p4 p5 h) := by
    intro h
    unfold K_E_take_66
    refine r_aload_n (pc := 66) O d_E_take_66 0 rfl ?_
    refine r_getL (x := (h.2 1 4)) (pc := 67) O gf_c_E_22_1 d_E_take_67 rfl ?_
    refine r_callSip (pc := 70) O [.long (h.2 1 4)] (R_B_isOver n (h.2 1 4) h) cw_E_take_70 wm_601 rfl (Nat.le_of_ble_eq_true rfl) d_E_take_70 rfl (fun v70 => ?_)
    refine r_if_ne (tgt := 80) (pc := 73) O d_E_take_73 (by decide) (fun q73 => ?_) (fun q73 => ?_)
    · exact (hK80 h)
    · refine r_aload_n (pc := 76) O d_E_take_76 0 rfl ?_
      refine r_callVv (pc := 77) O [] rfl rfl (R_E_stepWalkers n  h) cw_E_take_77 wm_710 ws_E_stepWalkers rfl (Nat.le_of_ble_eq_true rfl) d_E_take_77 rfl (fun v77 => ?_)
      exact (hK80 v77)
  have hK63 : ∀ (t0 : Int32) (h : sHp), sS Zc M V (sEb sOl) 63 [(0, .ref 1)] [.int t0, .ref 1] h (K_E_take_63 n p1 p3 p4 p5 t0 h) := by
    intro t0 h
    unfold K_E_take_63
    refine r_callVv (pc := 63) O [.int t0] rfl rfl (R_E_say n t0 h) cw_E_take_63 wm_659 ws_E_say rfl (Nat.le_of_ble_eq_true rfl) d_E_take_63 rfl (fun v63 => ?_)
    exact (hK66 v63)
  refine r_aload_n (pc := 0) O d_E_take_0 0 rfl ?_
  refine r_lload_n (pc := 1) O d_E_take_1 1 rfl ?_
  refine r_putL (pc := 2) O pf_c_E_22_1 d_E_take_2 ?_
  refine r_aload_n (pc := 5) O d_E_take_5 0 rfl ?_
  refine r_iconst (pc := 6) O d_E_take_6 ic_0 ?_
  refine r_putI (pc := 7) O pf_c_E_26_1 d_E_take_7 ?_
  refine r_aload_n (pc := 10) O d_E_take_10 0 rfl ?_
  refine r_iconst (pc := 11) O d_E_take_11 ic_0 ?_
  refine r_putI (pc := 12) O pf_c_E_30_1 d_E_take_12 ?_
  refine r_aload_n (pc := 15) O d_E_take_15 0 rfl ?_
  refine r_iload_n (pc := 16) O d_E_take_16 2 rfl ?_
  refine r_iload (pc := 17) O d_E_take_17 3 rfl ?_
  refine r_iload (pc := 19) O d_E_take_19 4 rfl ?_
  refine r_callVip (pc := 21) O [.int p3, .int p4, .int p5] rfl rfl (R_E_fittingRule n p3 p4 p5 (pI (pI (pL h 1 4 p1) 1 2 0) 1 3 0)) cw_E_take_21 wm_612 ws_E_fittingRule rfl (Nat.le_of_ble_eq_true rfl) d_E_take_21 rfl (fun v21 => ?_)
  refine r_istore (lv' := [(6, .int v21), (0, .ref 1), (1, .long p1), (3, .int p3), (4, .int p4), (5, .int p5)]) (pc := 24) O d_E_take_24 (by decide) rfl ?_
  refine r_iload (pc := 26) O d_E_take_26 0 rfl ?_
  refine r_iconst (pc := 28) O d_E_take_28 ic_m1 ?_
  refine r_icmp_eq (tgt := 41) (pc := 29) O d_E_take_29 (by decide) (fun q29 => ?_) (fun q29 => ?_)
  · refine r_aload_n (pc := 41) O d_E_take_41 1 rfl ?_
    refine r_aload_n (pc := 42) O d_E_take_42 1 rfl ?_
    refine r_iload_n (pc := 43) O d_E_take_43 3 rfl ?_
    refine r_iload (pc := 44) O d_E_take_44 4 rfl ?_
    refine r_iload (pc := 46) O d_E_take_46 5 rfl ?_
    refine r_callVi (pc := 48) O [.int p3, .int p4, .int p5] rfl rfl (R_E_actWithoutRule n p3 p4 p5 (pI (pI (pL h 1 4 p1) 1 2 0) 1 3 0)) cw_E_take_48 wm_686 ws_E_actWithoutRule rfl (Nat.le_of_ble_eq_true rfl) d_E_take_48 rfl (fun v48 => ?_)
    refine r_if_eq (tgt := 61) (pc := 51) O d_E_take_51 (by decide) (fun q51 => ?_) (fun q51 => ?_)
    · refine r_bipush (pc := 61) O d_E_take_61 bc_99 ?_
      exact r_lv [1] rfl (hK63 99 v48.2)
    · refine r_bipush (pc := 54) O d_E_take_54 bc_100 ?_
      refine r_iload_n (pc := 56) O d_E_take_56 3 rfl ?_
      refine r_iadd (pc := 57) O d_E_take_57 ?_
      refine r_goto (pc := 58) O d_E_take_58 (tgt := 63) (by decide) ?_
      exact r_lv [1] rfl (hK63 (100 + p3) v48.2)
  · refine r_aload_n (pc := 32) O d_E_take_32 1 rfl ?_
    refine r_iload (pc := 33) O d_E_take_33 0 rfl ?_
    refine r_callVv (pc := 35) O [.int v21] rfl rfl (R_E_doRule n v21 (pI (pI (pL h 1 4 p1) 1 2 0) 1 3 0)) cw_E_take_35 wm_655 ws_E_doRule rfl (Nat.le_of_ble_eq_true rfl) d_E_take_35 rfl (fun v35 => ?_)
    refine r_goto (pc := 38) O d_E_take_38 (tgt := 66) (by decide) ?_
    exact r_lv [1] rfl (hK66 v35)
def J_A_forget (n : Nat)  (h : sHp) : Option sHp :=
  some (pI (pI (pI (pI h 6 10 0) 6 9 0) 6 11 0) 6 8 0)
set_option maxRecDepth 20000 in
set_option maxHeartbeats 4000000 in
theorem R_A_forget (n : Nat)  (h : sHp) : sM Zc sOv y_A_forget prog_2_method_2_code 1 none rm_A_forget [.ref 6] h (J_A_forget n  h) := by
  refine sM_of (own := "StoryStates$Atlas") rfl (by decide) (Nat.le_of_ble_eq_true rfl) (fun M V O => ?_)
  unfold J_A_forget
  refine r_lv (lv' := [(0, .ref 6)]) [0] rfl ?_
  refine r_aload_n (pc := 0) O d_A_forget_0 0 rfl ?_
  refine r_iconst (pc := 1) O d_A_forget_1 ic_0 ?_
  refine r_putI (pc := 2) O pf_c_A_34_6 d_A_forget_2 ?_
  refine r_aload_n (pc := 5) O d_A_forget_5 0 rfl ?_
  refine r_iconst (pc := 6) O d_A_forget_6 ic_0 ?_
  refine r_putI (pc := 7) O pf_c_A_38_6 d_A_forget_7 ?_
  refine r_aload_n (pc := 10) O d_A_forget_10 0 rfl ?_
  refine r_iconst (pc := 11) O d_A_forget_11 ic_0 ?_
  refine r_putZ (pc := 12) O pf_c_A_41_6 d_A_forget_12 nb_0 rfl ?_
  refine r_aload_n (pc := 15) O d_A_forget_15 0 rfl ?_
  refine r_iconst (pc := 16) O d_A_forget_16 ic_0 ?_
  refine r_putI (pc := 17) O pf_c_A_45_6 d_A_forget_17 ?_
  exact r_vret (pc := 20) O rfl d_A_forget_20
def F_U_fill_5 (n : Nat) (p1 : Int32) (x3 : Int32) (rec5 : Int32 × sHp → Option sHp) (q : Int32 × sHp) : Option sHp :=
  if x3 ≤ q.1 then (some q.2) else (sGd (sIn q.1 512) (rec5 ((q.1 + 1), (pI q.2 38 (ix q.1) p1))))
def J_U_fill (n : Nat) (p1 : Int32) (h : sHp) : Option sHp :=
  sFx (F_U_fill_5 n p1 512) n (0, h)
set_option maxRecDepth 20000 in
set_option maxHeartbeats 4000000 in
theorem R_U_fill (n : Nat) (p1 : Int32) (h : sHp) : sM Zc sOv y_U_fill prog_19_method_103_code 4 none rm_U_fill [.ref 38, .int p1] h (J_U_fill n p1 h) := by
  refine sM_of (own := "java/util/Arrays") rfl (by decide) (Nat.le_of_ble_eq_true rfl) (fun M V O => ?_)
  unfold J_U_fill
  refine r_lv (lv' := [(0, .ref 38), (1, .int p1)]) [0, 1] rfl ?_
  have hL5 : ∀ (x3 : Int32) (q : Int32 × sHp), sS Zc M V (sEb sOv) 5 [(0, .ref 38), (1, .int p1), (2, .int q.1), (3, .int x3)] [] q.2 (sFx (F_U_fill_5 n p1 x3) n q) := by
    intro x3
    refine r_fx (fun q => [(0, .ref 38), (1, .int p1), (2, .int q.1), (3, .int x3)]) (fun q => q.2) (F_U_fill_5 n p1 x3) (fun rec5 hrec5 q => ?_) n
    obtain ⟨qv0, qv1⟩ := q
    show sS Zc M V (sEb sOv) 5 [(0, .ref 38), (1, .int p1), (2, .int qv0), (3, .int x3)] [] qv1 _
    unfold F_U_fill_5
    try dsimp only
    refine r_iload_n (pc := 5) O d_U_fill_5 2 rfl ?_
    refine r_iload_n (pc := 6) O d_U_fill_6 3 rfl ?_
    refine r_icmp_ge (tgt := 20) (pc := 7) O d_U_fill_7 (by decide) (fun q7 => ?_) (fun q7 => ?_)
    · exact r_vret (pc := 20) O rfl d_U_fill_20
    · refine r_aload_n (pc := 10) O d_U_fill_10 0 rfl ?_
      refine r_iload_n (pc := 11) O d_U_fill_11 2 rfl ?_
      refine r_iload_n (pc := 12) O d_U_fill_12 1 rfl ?_
      refine r_iast (pc := 13) O rfl d_U_fill_13 ?_
      refine r_iinc (lv' := [(2, .int (qv0 + 1)), (0, .ref 38), (1, .int p1), (3, .int x3)]) (pc := 14) O d_U_fill_14 2 rfl (congrArg (HAdd.hAdd _) ic_1) (by decide) rfl ?_
      refine r_goto (pc := 17) O d_U_fill_17 (tgt := 5) (by decide) ?_
      exact r_lv [1, 2, 0, 3] rfl (hrec5 ((qv0 + 1), (pI qv1 38 (ix qv0) p1)))
  refine r_iconst (pc := 0) O d_U_fill_0 ic_0 ?_
  refine r_istore_n (lv' := [(2, .int 0), (0, .ref 38), (1, .int p1)]) (pc := 1) O d_U_fill_1 rfl (by decide) rfl ?_
  refine r_aload_n (pc := 2) O d_U_fill_2 1 rfl ?_
  refine r_alen (pc := 3) O rfl (by decide) nc_512 d_U_fill_3 ?_
  refine r_istore_n (lv' := [(3, .int 512), (2, .int 0), (0, .ref 38), (1, .int p1)]) (pc := 4) O d_U_fill_4 rfl (by decide) rfl ?_
  exact r_lv [2, 3, 1, 0] rfl (hL5 512 (0, h))
def J_D_of (n : Nat) (p0 : Int32) (p1 : Int32) (p2 : Int32) (h : sHp) : Option Int32 :=
  some (((jIshl p0 6) ||| (jIshl (p1 + 1) 3)) ||| (p2 + 1))
set_option maxRecDepth 20000 in
set_option maxHeartbeats 4000000 in
theorem R_D_of (n : Nat) (p0 : Int32) (p1 : Int32) (p2 : Int32) (h : sHp) : sM Zc (sPi h) y_D_of prog_5_method_2_code 3 (some .int) rm_D_of [.int p0, .int p1, .int p2] h (J_D_of n p0 p1 p2 h) := by
  refine sM_of (own := "StoryStates$Code") rfl (by decide) (Nat.le_of_ble_eq_true rfl) (fun M V O => ?_)
  unfold J_D_of
  refine r_lv (lv' := [(0, .int p0), (1, .int p1), (2, .int p2)]) [0, 1, 2] rfl ?_
  refine r_iload_n (pc := 0) O d_D_of_0 0 rfl ?_
  refine r_bipush (pc := 1) O d_D_of_1 bc_6 ?_
  refine r_ishl (pc := 3) O d_D_of_3 ?_
  refine r_iload_n (pc := 4) O d_D_of_4 1 rfl ?_
  refine r_iconst (pc := 5) O d_D_of_5 ic_1 ?_
  refine r_iadd (pc := 6) O d_D_of_6 ?_
  refine r_iconst (pc := 7) O d_D_of_7 ic_3 ?_
  refine r_ishl (pc := 8) O d_D_of_8 ?_
  refine r_ior (pc := 9) O d_D_of_9 ?_
  refine r_iload_n (pc := 10) O d_D_of_10 2 rfl ?_
  refine r_iconst (pc := 11) O d_D_of_11 ic_1 ?_
  refine r_iadd (pc := 12) O d_D_of_12 ?_
  refine r_ior (pc := 13) O d_D_of_13 ?_
  exact r_iret (pc := 14) O rfl d_D_of_14
def F_A_listCommands_24 (n : Nat) (rec7 : (Int32 × sHp → Option sHp)) (rec15 : (Int32 × sHp → Option sHp)) (x2 : Int32) (x3 : Int32) (rec24 : Int32 × sHp → Option sHp) (q : Int32 × sHp) : Option sHp :=
  if 6 ≤ q.1 then (rec15 ((x3 + 1), q.2)) else (if 163 ≤ (q.2.1 6 1) then (rec24 ((q.1 + 1), q.2)) else ((J_W_hasCommand n x2 x3 q.1 q.2).bind fun v46 =>
  if v46 = 0 then (rec24 ((q.1 + 1), q.2)) else ((J_D_of n x2 x3 q.1 q.2).bind fun v64 =>
  sGd (sIn (q.2.1 6 1) 163) (rec24 ((q.1 + 1), (pI (pI q.2 34 (ix (q.2.1 6 1)) v64) 6 1 ((q.2.1 6 1) + 1)))))))
def F_A_listCommands_15 (n : Nat) (rec7 : (Int32 × sHp → Option sHp)) (x2 : Int32) (rec15 : Int32 × sHp → Option sHp) (q : Int32 × sHp) : Option sHp :=
  if 6 ≤ q.1 then (rec7 ((x2 + 1), q.2)) else (sFx (F_A_listCommands_24 n rec7 rec15 x2 q.1) n ((-1), q.2))
def F_A_listCommands_7 (n : Nat) (rec7 : Int32 × sHp → Option sHp) (q : Int32 × sHp) : Option sHp :=
  if 8 < q.1 then (some q.2) else (sFx (F_A_listCommands_15 n rec7 q.1) n ((-1), q.2))
def J_A_listCommands (n : Nat)  (h : sHp) : Option sHp :=
  sFx (F_A_listCommands_7 n ) n (0, (pI h 6 1 0))
set_option maxRecDepth 20000 in
set_option maxHeartbeats 4000000 in
theorem R_A_listCommands (n : Nat)  (h : sHp) : sM Zc sOv y_A_listCommands prog_2_method_4_code 5 none rm_A_listCommands [.ref 6, .ref 2] h (J_A_listCommands n  h) := by
  refine sM_of (own := "StoryStates$Atlas") rfl (by decide) (Nat.le_of_ble_eq_true rfl) (fun M V O => ?_)
  unfold J_A_listCommands
  refine r_lv (lv' := [(0, .ref 6), (1, .ref 2)]) [0, 1] rfl ?_
  have hL7 : ∀ (q : Int32 × sHp), sS Zc M V (sEb sOv) 7 [(0, .ref 6), (1, .ref 2), (2, .int q.1)] [] q.2 (sFx (F_A_listCommands_7 n ) n q) := by
    skip
    refine r_fx (fun q => [(0, .ref 6), (1, .ref 2), (2, .int q.1)]) (fun q => q.2) (F_A_listCommands_7 n ) (fun rec7 hrec7 q => ?_) n
    obtain ⟨qv0, qv1⟩ := q
    show sS Zc M V (sEb sOv) 7 [(0, .ref 6), (1, .ref 2), (2, .int qv0)] [] qv1 _
    unfold F_A_listCommands_7
    try dsimp only
    have hL15 : ∀ (x2 : Int32) (q : Int32 × sHp), sS Zc M V (sEb sOv) 15 [(0, .ref 6), (1, .ref 2), (2, .int x2), (3, .int q.1)] [] q.2 (sFx (F_A_listCommands_15 n rec7 x2) n q) := by
      intro x2
      refine r_fx (fun q => [(0, .ref 6), (1, .ref 2), (2, .int x2), (3, .int q.1)]) (fun q => q.2) (F_A_listCommands_15 n rec7 x2) (fun rec15 hrec15 q => ?_) n
      obtain ⟨qv0, qv1⟩ := q
      show sS Zc M V (sEb sOv) 15 [(0, .ref 6), (1, .ref 2), (2, .int x2), (3, .int qv0)] [] qv1 _
      unfold F_A_listCommands_15
      try dsimp only
      have hL24 : ∀ (x3 : Int32) (q : Int32 × sHp), sS Zc M V (sEb sOv) 24 [(0, .ref 6), (1, .ref 2), (2, .int x2), (3, .int x3), (4, .int q.1)] [] q.2 (sFx (F_A_listCommands_24 n rec7 rec15 x2 x3) n q) := by
        intro x3
        refine r_fx (fun q => [(0, .ref 6), (1, .ref 2), (2, .int x2), (3, .int x3), (4, .int q.1)]) (fun q => q.2) (F_A_listCommands_24 n rec7 rec15 x2 x3) (fun rec24 hrec24 q => ?_) n
        obtain ⟨qv0, qv1⟩ := q
        show sS Zc M V (sEb sOv) 24 [(0, .ref 6), (1, .ref 2), (2, .int x2), (3, .int x3), (4, .int qv0)] [] qv1 _
        unfold F_A_listCommands_24
        try dsimp only
        refine r_iload (pc := 24) O d_A_listCommands_24 4 rfl ?_
        refine r_bipush (pc := 26) O d_A_listCommands_26 bc_6 ?_
        refine r_icmp_ge (tgt := 84) (pc := 28) O d_A_listCommands_28 (by decide) (fun q28 => ?_) (fun q28 => ?_)
        · refine r_iinc (lv' := [(3, .int (x3 + 1)), (0, .ref 6), (1, .ref 2), (2, .int x2), (4, .int qv0)]) (pc := 84) O d_A_listCommands_84 3 rfl (congrArg (HAdd.hAdd _) ic_1) (by decide) rfl ?_
          refine r_goto (pc := 87) O d_A_listCommands_87 (tgt := 15) (by decide) ?_
          exact r_lv [1, 2, 3, 0] rfl (hrec15 ((x3 + 1), qv1))
        · refine r_aload_n (pc := 31) O d_A_listCommands_31 0 rfl ?_
          refine r_getI (x := (qv1.1 6 1)) (pc := 32) O gf_c_A_72_6 d_A_listCommands_32 rfl ?_
          refine r_sipush (pc := 35) O d_A_listCommands_35 sc_163 ?_
          refine r_icmp_ge (tgt := 78) (pc := 38) O d_A_listCommands_38 (by decide) (fun q38 => ?_) (fun q38 => ?_)
          · refine r_iinc (lv' := [(4, .int (qv0 + 1)), (0, .ref 6), (1, .ref 2), (2, .int x2), (3, .int x3)]) (pc := 78) O d_A_listCommands_78 4 rfl (congrArg (HAdd.hAdd _) ic_1) (by decide) rfl ?_
            refine r_goto (pc := 81) O d_A_listCommands_81 (tgt := 24) (by decide) ?_
            exact r_lv [1, 2, 3, 4, 0] rfl (hrec24 ((qv0 + 1), qv1))
          · refine r_aload_n (pc := 41) O d_A_listCommands_41 1 rfl ?_
            refine r_iload_n (pc := 42) O d_A_listCommands_42 2 rfl ?_
            refine r_iload_n (pc := 43) O d_A_listCommands_43 3 rfl ?_
            refine r_iload (pc := 44) O d_A_listCommands_44 4 rfl ?_
            refine r_callVip (pc := 46) O [.int x2, .int x3, .int qv0] rfl rfl (R_W_hasCommand n x2 x3 qv0 qv1) cw_A_listCommands_46 wm_597 wm_598 rfl (Nat.le_of_ble_eq_true rfl) d_A_listCommands_46 rfl (fun v46 => ?_)
            refine r_if_eq (tgt := 78) (pc := 49) O d_A_listCommands_49 (by decide) (fun q49 => ?_) (fun q49 => ?_)
            · refine r_iinc (lv' := [(4, .int (qv0 + 1)), (0, .ref 6), (1, .ref 2), (2, .int x2), (3, .int x3)]) (pc := 78) O d_A_listCommands_78 4 rfl (congrArg (HAdd.hAdd _) ic_1) (by decide) rfl ?_
              refine r_goto (pc := 81) O d_A_listCommands_81 (tgt := 24) (by decide) ?_
              exact r_lv [1, 2, 3, 4, 0] rfl (hrec24 ((qv0 + 1), qv1))
            · refine r_aload_n (pc := 52) O d_A_listCommands_52 0 rfl ?_
              refine r_getR (pc := 53) O gf_c_A_11_6 d_A_listCommands_53 ?_
              refine r_aload_n (pc := 56) O d_A_listCommands_56 0 rfl ?_
              refine r_getI (x := (qv1.1 6 1)) (pc := 57) O gf_c_A_72_6 d_A_listCommands_57 rfl ?_
              refine r_iload_n (pc := 60) O d_A_listCommands_60 2 rfl ?_
              refine r_iload_n (pc := 61) O d_A_listCommands_61 3 rfl ?_
              refine r_iload (pc := 62) O d_A_listCommands_62 4 rfl ?_
              refine r_callSip (pc := 64) O [.int x2, .int x3, .int qv0] (R_D_of n x2 x3 qv0 qv1) cw_A_listCommands_64 wm_769 rfl (Nat.le_of_ble_eq_true rfl) d_A_listCommands_64 rfl (fun v64 => ?_)
              refine r_iast (pc := 67) O rfl d_A_listCommands_67 ?_
              refine r_aload_n (pc := 68) O d_A_listCommands_68 0 rfl ?_
              refine r_dup (pc := 69) O d_A_listCommands_69 rfl ?_
              refine r_getI (x := (qv1.1 6 1)) (pc := 70) O gf_c_A_72_6 d_A_listCommands_70 rfl ?_
              refine r_iconst (pc := 73) O d_A_listCommands_73 ic_1 ?_
              refine r_iadd (pc := 74) O d_A_listCommands_74 ?_
              refine r_putI (pc := 75) O pf_c_A_72_6 d_A_listCommands_75 ?_
              refine r_iinc (lv' := [(4, .int (qv0 + 1)), (0, .ref 6), (1, .ref 2), (2, .int x2), (3, .int x3)]) (pc := 78) O d_A_listCommands_78 4 rfl (congrArg (HAdd.hAdd _) ic_1) (by decide) rfl ?_
              refine r_goto (pc := 81) O d_A_listCommands_81 (tgt := 24) (by decide) ?_
              exact r_lv [1, 2, 3, 4, 0] rfl (hrec24 ((qv0 + 1), (pI (pI qv1 34 (ix (qv1.1 6 1)) v64) 6 1 ((qv1.1 6 1) + 1))))
      refine r_iload_n (pc := 15) O d_A_listCommands_15 3 rfl ?_
      refine r_bipush (pc := 16) O d_A_listCommands_16 bc_6 ?_
      refine r_icmp_ge (tgt := 90) (pc := 18) O d_A_listCommands_18 (by decide) (fun q18 => ?_) (fun q18 => ?_)
      · refine r_iinc (lv' := [(2, .int (x2 + 1)), (0, .ref 6), (1, .ref 2), (3, .int qv0)]) (pc := 90) O d_A_listCommands_90 2 rfl (congrArg (HAdd.hAdd _) ic_1) (by decide) rfl ?_
        refine r_goto (pc := 93) O d_A_listCommands_93 (tgt := 7) (by decide) ?_
        exact r_lv [1, 2, 0] rfl (hrec7 ((x2 + 1), qv1))
      · refine r_iconst (pc := 21) O d_A_listCommands_21 ic_m1 ?_
        refine r_istore (lv' := [(4, .int (-1)), (0, .ref 6), (1, .ref 2), (2, .int x2), (3, .int qv0)]) (pc := 22) O d_A_listCommands_22 (by decide) rfl ?_
        exact r_lv [1, 2, 3, 4, 0] rfl (hL24 qv0 ((-1), qv1))
    refine r_iload_n (pc := 7) O d_A_listCommands_7 2 rfl ?_
    refine r_bipush (pc := 8) O d_A_listCommands_8 bc_8 ?_
    refine r_icmp_gt (tgt := 96) (pc := 10) O d_A_listCommands_10 (by decide) (fun q10 => ?_) (fun q10 => ?_)
    · exact r_vret (pc := 96) O rfl d_A_listCommands_96
    · refine r_iconst (pc := 13) O d_A_listCommands_13 ic_m1 ?_
      refine r_istore_n (lv' := [(3, .int (-1)), (0, .ref 6), (1, .ref 2), (2, .int qv0)]) (pc := 14) O d_A_listCommands_14 rfl (by decide) rfl ?_
      exact r_lv [1, 2, 3, 0] rfl (hL15 qv0 ((-1), qv1))
  refine r_aload_n (pc := 0) O d_A_listCommands_0 0 rfl ?_
  refine r_iconst (pc := 1) O d_A_listCommands_1 ic_0 ?_
  refine r_putI (pc := 2) O pf_c_A_72_6 d_A_listCommands_2 ?_
  refine r_iconst (pc := 5) O d_A_listCommands_5 ic_0 ?_
  refine r_istore_n (lv' := [(2, .int 0), (0, .ref 6), (1, .ref 2)]) (pc := 6) O d_A_listCommands_6 rfl (by decide) rfl ?_
  exact r_lv [1, 2, 0] rfl (hL7 (0, (pI h 6 1 0)))
def F_A_slotOf_13 (n : Nat) (p1 : Int64) (h : sHp) (rec13 : Int32 × Int32 → Option Int32) (q : Int32 × Int32) : Option Int32 :=
  if 512 ≤ q.2 then (some q.1) else (sGd (sIn q.1 512) (if (h.1 38 (ix q.1)) = 0 then (some q.1) else (sGd (sIn q.1 512) (sGd (sIn ((h.1 38 (ix q.1)) - 1) 160) (if (lg_cmp (h.2 35 (ix ((h.1 38 (ix q.1)) - 1))) p1) = 0 then (some q.1) else (rec13 (((q.1 + 1) &&& 511), (q.2 + 1))))))))
def J_A_slotOf (n : Nat) (p1 : Int64) (h : sHp) : Option Int32 :=
  sFx (F_A_slotOf_13 n p1 h ) n ((Int64.toInt32 (jLushr (p1 * (-7046029254386353131)) 55)), 0)
set_option maxRecDepth 20000 in
set_option maxHeartbeats 4000000 in
theorem R_A_slotOf (n : Nat) (p1 : Int64) (h : sHp) : sM Zc (sPi h) y_A_slotOf prog_2_method_10_code 5 (some .int) rm_A_slotOf [.ref 6, .long p1] h (J_A_slotOf n p1 h) := by
  refine sM_of (own := "StoryStates$Atlas") rfl (by decide) (Nat.le_of_ble_eq_true rfl) (fun M V O => ?_)
  unfold J_A_slotOf
  refine r_lv (lv' := [(0, .ref 6), (1, .long p1)]) [0, 1] rfl ?_
  have hL13 : ∀ (q : Int32 × Int32), sS Zc M V (sEb (sPi h)) 13 [(0, .ref 6), (1, .long p1), (3, .int q.1), (4, .int q.2)] [] h (sFx (F_A_slotOf_13 n p1 h ) n q) := by
    skip
    refine r_fx (fun q => [(0, .ref 6), (1, .long p1), (3, .int q.1), (4, .int q.2)]) (fun q => h) (F_A_slotOf_13 n p1 h ) (fun rec13 hrec13 q => ?_) n
    obtain ⟨qv0, qv1⟩ := q
    show sS Zc M V (sEb (sPi h)) 13 [(0, .ref 6), (1, .long p1), (3, .int qv0), (4, .int qv1)] [] h _
    unfold F_A_slotOf_13
    try dsimp only
    refine r_iload (pc := 13) O d_A_slotOf_13 3 rfl ?_
    refine r_sipush (pc := 15) O d_A_slotOf_15 sc_512 ?_
    refine r_icmp_ge (tgt := 64) (pc := 18) O d_A_slotOf_18 (by decide) (fun q18 => ?_) (fun q18 => ?_)
    · refine r_iload_n (pc := 64) O d_A_slotOf_64 2 rfl ?_
      exact r_iret (pc := 65) O rfl d_A_slotOf_65
    · refine r_aload_n (pc := 21) O d_A_slotOf_21 0 rfl ?_
      refine r_getR (pc := 22) O gf_c_A_25_6 d_A_slotOf_22 ?_
      refine r_iload_n (pc := 25) O d_A_slotOf_25 2 rfl ?_
      refine r_iald (x := (h.1 38 (ix qv0))) (pc := 26) O rfl d_A_slotOf_26 rfl ?_
      refine r_if_eq (tgt := 48) (pc := 27) O d_A_slotOf_27 (by decide) (fun q27 => ?_) (fun q27 => ?_)
      · refine r_iload_n (pc := 48) O d_A_slotOf_48 2 rfl ?_
        exact r_iret (pc := 49) O rfl d_A_slotOf_49
      · refine r_aload_n (pc := 30) O d_A_slotOf_30 0 rfl ?_
        refine r_getR (pc := 31) O gf_c_A_15_6 d_A_slotOf_31 ?_
        refine r_aload_n (pc := 34) O d_A_slotOf_34 0 rfl ?_
        refine r_getR (pc := 35) O gf_c_A_25_6 d_A_slotOf_35 ?_
        refine r_iload_n (pc := 38) O d_A_slotOf_38 2 rfl ?_
        refine r_iald (x := (h.1 38 (ix qv0))) (pc := 39) O rfl d_A_slotOf_39 rfl ?_
        refine r_iconst (pc := 40) O d_A_slotOf_40 ic_1 ?_
        refine r_isub (pc := 41) O d_A_slotOf_41 ?_
        refine r_lald (x := (h.2 35 (ix ((h.1 38 (ix qv0)) - 1)))) (pc := 42) O rfl d_A_slotOf_42 rfl ?_
        refine r_lload_n (pc := 43) O d_A_slotOf_43 1 rfl ?_
        refine r_lcmp (pc := 44) O d_A_slotOf_44 ?_
        refine r_if_ne (tgt := 50) (pc := 45) O d_A_slotOf_45 (by decide) (fun q45 => ?_) (fun q45 => ?_)
        · refine r_iload_n (pc := 50) O d_A_slotOf_50 2 rfl ?_
          refine r_iconst (pc := 51) O d_A_slotOf_51 ic_1 ?_
          refine r_iadd (pc := 52) O d_A_slotOf_52 ?_
          refine r_sipush (pc := 53) O d_A_slotOf_53 sc_511 ?_
          refine r_iand (pc := 56) O d_A_slotOf_56 ?_
          refine r_istore_n (lv' := [(3, .int ((qv0 + 1) &&& 511)), (0, .ref 6), (1, .long p1), (4, .int qv1)]) (pc := 57) O d_A_slotOf_57 rfl (by decide) rfl ?_
          refine r_iinc (lv' := [(4, .int (qv1 + 1)), (3, .int ((qv0 + 1) &&& 511)), (0, .ref 6), (1, .long p1)]) (pc := 58) O d_A_slotOf_58 3 rfl (congrArg (HAdd.hAdd _) ic_1) (by decide) rfl ?_
          refine r_goto (pc := 61) O d_A_slotOf_61 (tgt := 13) (by decide) ?_
          exact r_lv [2, 3, 1, 0] rfl (hrec13 (((qv0 + 1) &&& 511), (qv1 + 1)))
        · refine r_iload_n (pc := 48) O d_A_slotOf_48 2 rfl ?_
          exact r_iret (pc := 49) O rfl d_A_slotOf_49
  refine r_lload_n (pc := 0) O d_A_slotOf_0 1 rfl ?_
  refine r_ldc2 (pc := 1) O d_A_slotOf_1 wm_776 ?_
  refine r_lmul (pc := 4) O d_A_slotOf_4 ?_
  refine r_bipush (pc := 5) O d_A_slotOf_5 bc_55 ?_
  refine r_lushr (pc := 7) O d_A_slotOf_7 ?_
  refine r_l2i (pc := 8) O d_A_slotOf_8 ?_
  refine r_istore_n (lv' := [(3, .int (Int64.toInt32 (jLushr (p1 * (-7046029254386353131)) 55))), (0, .ref 6), (1, .long p1)]) (pc := 9) O d_A_slotOf_9 rfl (by decide) rfl ?_
  refine r_iconst (pc := 10) O d_A_slotOf_10 ic_0 ?_
  refine r_istore (lv' := [(4, .int 0), (3, .int (Int64.toInt32 (jLushr (p1 * (-7046029254386353131)) 55))), (0, .ref 6), (1, .long p1)]) (pc := 11) O d_A_slotOf_11 (by decide) rfl ?_
  exact r_lv [2, 3, 1, 0] rfl (hL13 ((Int64.toInt32 (jLushr (p1 * (-7046029254386353131)) 55)), 0))
def F_A_append_35 (n : Nat) (p1 : Int64) (p3 : Int32) (p4 : Int32) (p5 : Int32) (rec35 : Int32 × sHp → Option sHp) (q : Int32 × sHp) : Option sHp :=
  if 3 ≤ q.1 then (sGd (sIn p3 512) (some (pI (pI q.2 6 10 ((q.2.1 6 10) + 1)) 38 (ix p3) ((q.2.1 6 10) + 1)))) else (sGd (sIn (((q.2.1 6 10) * 3) + q.1) 480) (rec35 ((q.1 + 1), (pL q.2 39 (ix (((q.2.1 6 10) * 3) + q.1)) 0))))
def J_A_append (n : Nat) (p1 : Int64) (p3 : Int32) (p4 : Int32) (p5 : Int32) (h : sHp) : Option sHp :=
  sGd (sIn (h.1 6 10) 160) (sGd (sIn (h.1 6 10) 160) (sGd (sIn (h.1 6 10) 160) (sFx (F_A_append_35 n p1 p3 p4 p5 ) n (0, (pI (pI (pL h 35 (ix (h.1 6 10)) p1) 36 (ix (h.1 6 10)) p4) 37 (ix (h.1 6 10)) p5)))))
set_option maxRecDepth 20000 in
set_option maxHeartbeats 4000000 in
theorem R_A_append (n : Nat) (p1 : Int64) (p3 : Int32) (p4 : Int32) (p5 : Int32) (h : sHp) : sM Zc sOv y_A_append prog_2_method_9_code 7 none rm_A_append [.ref 6, .long p1, .int p3, .int p4, .int p5] h (J_A_append n p1 p3 p4 p5 h) := by
  refine sM_of (own := "StoryStates$Atlas") rfl (by decide) (Nat.le_of_ble_eq_true rfl) (fun M V O => ?_)
  unfold J_A_append
  refine r_lv (lv' := [(0, .ref 6), (1, .long p1), (3, .int p3), (4, .int p4), (5, .int p5)]) [0, 1, 2, 3, 4] rfl ?_
  have hL35 : ∀ (q : Int32 × sHp), sS Zc M V (sEb sOv) 35 [(0, .ref 6), (3, .int p3), (6, .int q.1)] [] q.2 (sFx (F_A_append_35 n p1 p3 p4 p5 ) n q) := by
    skip
    refine r_fx (fun q => [(0, .ref 6), (3, .int p3), (6, .int q.1)]) (fun q => q.2) (F_A_append_35 n p1 p3 p4 p5 ) (fun rec35 hrec35 q => ?_) n
    obtain ⟨qv0, qv1⟩ := q
    show sS Zc M V (sEb sOv) 35 [(0, .ref 6), (3, .int p3), (6, .int qv0)] [] qv1 _
    unfold F_A_append_35
    try dsimp only
    refine r_iload (pc := 35) O d_A_append_35 2 rfl ?_
    refine r_iconst (pc := 37) O d_A_append_37 ic_3 ?_
    refine r_icmp_ge (tgt := 62) (pc := 38) O d_A_append_38 (by decide) (fun q38 => ?_) (fun q38 => ?_)
    · refine r_aload_n (pc := 62) O d_A_append_62 0 rfl ?_
      refine r_dup (pc := 63) O d_A_append_63 rfl ?_
      refine r_getI (x := (qv1.1 6 10)) (pc := 64) O gf_c_A_34_6 d_A_append_64 rfl ?_
      refine r_iconst (pc := 67) O d_A_append_67 ic_1 ?_
      refine r_iadd (pc := 68) O d_A_append_68 ?_
      refine r_putI (pc := 69) O pf_c_A_34_6 d_A_append_69 ?_
      refine r_aload_n (pc := 72) O d_A_append_72 0 rfl ?_
      refine r_getR (pc := 73) O gf_c_A_25_6 d_A_append_73 ?_
      refine r_iload_n (pc := 76) O d_A_append_76 1 rfl ?_
      refine r_aload_n (pc := 77) O d_A_append_77 0 rfl ?_
      refine r_getI (x := ((qv1.1 6 10) + 1)) (pc := 78) O gf_c_A_34_6 d_A_append_78 rfl ?_
      refine r_iast (pc := 81) O rfl d_A_append_81 ?_
      exact r_vret (pc := 82) O rfl d_A_append_82
    · refine r_aload_n (pc := 41) O d_A_append_41 0 rfl ?_
      refine r_getR (pc := 42) O gf_c_A_28_6 d_A_append_42 ?_
      refine r_aload_n (pc := 45) O d_A_append_45 0 rfl ?_
      refine r_getI (x := (qv1.1 6 10)) (pc := 46) O gf_c_A_34_6 d_A_append_46 rfl ?_
      refine r_iconst (pc := 49) O d_A_append_49 ic_3 ?_
      refine r_imul (pc := 50) O d_A_append_50 ?_
      refine r_iload (pc := 51) O d_A_append_51 2 rfl ?_
      refine r_iadd (pc := 53) O d_A_append_53 ?_
      refine r_lconst (pc := 54) O d_A_append_54 lc_0 ?_
      refine r_last (pc := 55) O rfl d_A_append_55 ?_
      refine r_iinc (lv' := [(6, .int (qv0 + 1)), (0, .ref 6), (3, .int p3)]) (pc := 56) O d_A_append_56 2 rfl (congrArg (HAdd.hAdd _) ic_1) (by decide) rfl ?_
      refine r_goto (pc := 59) O d_A_append_59 (tgt := 35) (by decide) ?_
      exact r_lv [1, 2, 0] rfl (hrec35 ((qv0 + 1), (pL qv1 39 (ix (((qv1.1 6 10) * 3) + qv0)) 0)))
  refine r_aload_n (pc := 0) O d_A_append_0 0 rfl ?_
  refine r_getR (pc := 1) O gf_c_A_15_6 d_A_append_1 ?_
  refine r_aload_n (pc := 4) O d_A_append_4 0 rfl ?_
  refine r_getI (x := (h.1 6 10)) (pc := 5) O gf_c_A_34_6 d_A_append_5 rfl ?_
  refine r_lload_n (pc := 8) O d_A_append_8 1 rfl ?_
  refine r_last (pc := 9) O rfl d_A_append_9 ?_
  refine r_aload_n (pc := 10) O d_A_append_10 0 rfl ?_
  refine r_getR (pc := 11) O gf_c_A_19_6 d_A_append_11 ?_
  refine r_aload_n (pc := 14) O d_A_append_14 0 rfl ?_
  refine r_getI (x := (h.1 6 10)) (pc := 15) O gf_c_A_34_6 d_A_append_15 rfl ?_
  refine r_iload (pc := 18) O d_A_append_18 3 rfl ?_
  refine r_iast (pc := 20) O rfl d_A_append_20 ?_
  refine r_aload_n (pc := 21) O d_A_append_21 0 rfl ?_
  refine r_getR (pc := 22) O gf_c_A_22_6 d_A_append_22 ?_
  refine r_aload_n (pc := 25) O d_A_append_25 0 rfl ?_
  refine r_getI (x := (h.1 6 10)) (pc := 26) O gf_c_A_34_6 d_A_append_26 rfl ?_
  refine r_iload (pc := 29) O d_A_append_29 4 rfl ?_
  refine r_iast (pc := 31) O rfl d_A_append_31 ?_
  refine r_iconst (pc := 32) O d_A_append_32 ic_0 ?_
  refine r_istore (lv' := [(6, .int 0), (0, .ref 6), (1, .long p1), (3, .int p3), (4, .int p4), (5, .int p5)]) (pc := 33) O d_A_append_33 (by decide) rfl ?_
  exact r_lv [1, 3, 0] rfl (hL35 (0, (pI (pI (pL h 35 (ix (h.1 6 10)) p1) 36 (ix (h.1 6 10)) p4) 37 (ix (h.1 6 10)) p5)))
end
section
def J_A_opn (n : Nat)  (h : sHp) : Option sHp :=
  (J_U_fill n 0 h).bind fun v5 =>
  (J_A_listCommands n v5).bind fun v10 =>
  (J_W_firstState n v10).bind fun v14 =>
  (J_A_slotOf n v14 v10).bind fun v22 =>
  (J_A_append n v14 v22 0 0 v10).bind fun v27 =>
  some v27
set_option maxRecDepth 20000 in
set_option maxHeartbeats 4000000 in
theorem R_A_opn (n : Nat)  (h : sHp) : sM Zc sOv y_A_opn prog_2_method_3_code 4 none rm_A_opn [.ref 6, .ref 2] h (J_A_opn n  h) := by
  refine sM_of (own := "StoryStates$Atlas") rfl (by decide) (Nat.le_of_ble_eq_true rfl) (fun M V O => ?_)
  unfold J_A_opn
  refine r_lv (lv' := [(0, .ref 6), (1, .ref 2)]) [0, 1] rfl ?_
  refine r_aload_n (pc := 0) O d_A_opn_0 0 rfl ?_
  refine r_getR (pc := 1) O gf_c_A_25_6 d_A_opn_1 ?_
  refine r_iconst (pc := 4) O d_A_opn_4 ic_0 ?_
  refine r_callSv (pc := 5) O [.ref 38, .int 0] (R_U_fill n 0 h) cw_A_opn_5 wm_761 rfl (Nat.le_of_ble_eq_true rfl) d_A_opn_5 rfl (fun v5 => ?_)
  refine r_aload_n (pc := 8) O d_A_opn_8 0 rfl ?_
  refine r_aload_n (pc := 9) O d_A_opn_9 1 rfl ?_
  refine r_callVv (pc := 10) O [.ref 2] rfl rfl (R_A_listCommands n  v5) cw_A_opn_10 wm_765 ws_A_listCommands rfl (Nat.le_of_ble_eq_true rfl) d_A_opn_10 rfl (fun v10 => ?_)
  refine r_aload_n (pc := 13) O d_A_opn_13 1 rfl ?_
  refine r_callVlp (pc := 14) O [] rfl rfl (R_W_firstState n  v10) cw_A_opn_14 wm_284 wm_285 rfl (Nat.le_of_ble_eq_true rfl) d_A_opn_14 rfl (fun v14 => ?_)
  refine r_lstore_n (lv' := [(2, .long v14), (0, .ref 6), (1, .ref 2)]) (pc := 17) O d_A_opn_17 rfl (by decide) rfl ?_
  refine r_aload_n (pc := 18) O d_A_opn_18 1 rfl ?_
  refine r_lload_n (pc := 19) O d_A_opn_19 0 rfl ?_
  refine r_aload_n (pc := 20) O d_A_opn_20 1 rfl ?_
  refine r_lload_n (pc := 21) O d_A_opn_21 0 rfl ?_
  refine r_callVip (pc := 22) O [.long v14] rfl rfl (R_A_slotOf n v14 v10) cw_A_opn_22 wm_774 ws_A_slotOf rfl (Nat.le_of_ble_eq_true rfl) d_A_opn_22 rfl (fun v22 => ?_)
  refine r_iconst (pc := 25) O d_A_opn_25 ic_0 ?_
  refine r_iconst (pc := 26) O d_A_opn_26 ic_0 ?_
  refine r_callVv (pc := 27) O [.long v14, .int v22, .int 0, .int 0] rfl rfl (R_A_append n v14 v22 0 0 v10) cw_A_opn_27 wm_779 ws_A_append rfl (Nat.le_of_ble_eq_true rfl) d_A_opn_27 rfl (fun v27 => ?_)
  exact r_vret (pc := 30) O rfl d_A_opn_30
def J_A_hasMore (n : Nat)  (h : sHp) : Option Int32 :=
  if (h.1 6 10) ≤ (h.1 6 9) then (some 0) else (if (h.1 6 11) = 0 then (some 1) else (some 0))
set_option maxRecDepth 20000 in
set_option maxHeartbeats 4000000 in
theorem R_A_hasMore (n : Nat)  (h : sHp) : sM Zc (sPi h) y_A_hasMore prog_2_method_5_code 1 (some .boolean) rm_A_hasMore [.ref 6] h (J_A_hasMore n  h) := by
  refine sM_of (own := "StoryStates$Atlas") rfl (by decide) (Nat.le_of_ble_eq_true rfl) (fun M V O => ?_)
  unfold J_A_hasMore
  refine r_lv (lv' := [(0, .ref 6)]) [0] rfl ?_
  refine r_aload_n (pc := 0) O d_A_hasMore_0 0 rfl ?_
  refine r_getI (x := (h.1 6 9)) (pc := 1) O gf_c_A_38_6 d_A_hasMore_1 rfl ?_
  refine r_aload_n (pc := 4) O d_A_hasMore_4 0 rfl ?_
  refine r_getI (x := (h.1 6 10)) (pc := 5) O gf_c_A_34_6 d_A_hasMore_5 rfl ?_
  refine r_icmp_ge (tgt := 22) (pc := 8) O d_A_hasMore_8 (by decide) (fun q8 => ?_) (fun q8 => ?_)
  · refine r_iconst (pc := 22) O d_A_hasMore_22 ic_0 ?_
    exact r_zret (pc := 23) O rfl d_A_hasMore_23 nb_0
  · refine r_aload_n (pc := 11) O d_A_hasMore_11 0 rfl ?_
    refine r_getI (x := (h.1 6 11)) (pc := 12) O gf_c_A_41_6 d_A_hasMore_12 rfl ?_
    refine r_if_ne (tgt := 22) (pc := 15) O d_A_hasMore_15 (by decide) (fun q15 => ?_) (fun q15 => ?_)
    · refine r_iconst (pc := 22) O d_A_hasMore_22 ic_0 ?_
      exact r_zret (pc := 23) O rfl d_A_hasMore_23 nb_0
    · refine r_iconst (pc := 18) O d_A_hasMore_18 ic_1 ?_
      refine r_goto (pc := 19) O d_A_hasMore_19 (tgt := 23) (by decide) ?_
      exact r_zret (pc := 23) O rfl d_A_hasMore_23 nb_1
def J_A_isFinished (n : Nat)  (h : sHp) : Option Int32 :=
  if (h.1 6 10) ≤ 0 then (some 0) else (if (h.1 6 9) = (h.1 6 10) then (some 1) else (some 0))
set_option maxRecDepth 20000 in
set_option maxHeartbeats 4000000 in
theorem R_A_isFinished (n : Nat)  (h : sHp) : sM Zc (sPi h) y_A_isFinished prog_2_method_6_code 1 (some .boolean) rm_A_isFinished [.ref 6] h (J_A_isFinished n  h) := by
  refine sM_of (own := "StoryStates$Atlas") rfl (by decide) (Nat.le_of_ble_eq_true rfl) (fun M V O => ?_)
  unfold J_A_isFinished
  refine r_lv (lv' := [(0, .ref 6)]) [0] rfl ?_
  refine r_aload_n (pc := 0) O d_A_isFinished_0 0 rfl ?_
  refine r_getI (x := (h.1 6 10)) (pc := 1) O gf_c_A_34_6 d_A_isFinished_1 rfl ?_
  refine r_if_le (tgt := 22) (pc := 4) O d_A_isFinished_4 (by decide) (fun q4 => ?_) (fun q4 => ?_)
  · refine r_iconst (pc := 22) O d_A_isFinished_22 ic_0 ?_
    exact r_zret (pc := 23) O rfl d_A_isFinished_23 nb_0
  · refine r_aload_n (pc := 7) O d_A_isFinished_7 0 rfl ?_
    refine r_getI (x := (h.1 6 9)) (pc := 8) O gf_c_A_38_6 d_A_isFinished_8 rfl ?_
    refine r_aload_n (pc := 11) O d_A_isFinished_11 0 rfl ?_
    refine r_getI (x := (h.1 6 10)) (pc := 12) O gf_c_A_34_6 d_A_isFinished_12 rfl ?_
    refine r_icmp_ne (tgt := 22) (pc := 15) O d_A_isFinished_15 (by decide) (fun q15 => ?_) (fun q15 => ?_)
    · refine r_iconst (pc := 22) O d_A_isFinished_22 ic_0 ?_
      exact r_zret (pc := 23) O rfl d_A_isFinished_23 nb_0
    · refine r_iconst (pc := 18) O d_A_isFinished_18 ic_1 ?_
      refine r_goto (pc := 19) O d_A_isFinished_19 (tgt := 23) (by decide) ?_
      exact r_zret (pc := 23) O rfl d_A_isFinished_23 nb_1
def J_D_verbOf (n : Nat) (p0 : Int32) (h : sHp) : Option Int32 :=
  some (jIshr p0 6)
set_option maxRecDepth 20000 in
set_option maxHeartbeats 4000000 in
theorem R_D_verbOf (n : Nat) (p0 : Int32) (h : sHp) : sM Zc (sPi h) y_D_verbOf prog_5_method_3_code 1 (some .int) rm_D_verbOf [.int p0] h (J_D_verbOf n p0 h) := by
  refine sM_of (own := "StoryStates$Code") rfl (by decide) (Nat.le_of_ble_eq_true rfl) (fun M V O => ?_)
  unfold J_D_verbOf
  refine r_lv (lv' := [(0, .int p0)]) [0] rfl ?_
  refine r_iload_n (pc := 0) O d_D_verbOf_0 0 rfl ?_
  refine r_bipush (pc := 1) O d_D_verbOf_1 bc_6 ?_
  refine r_ishr (pc := 3) O d_D_verbOf_3 ?_
  exact r_iret (pc := 4) O rfl d_D_verbOf_4
def J_D_firstOf (n : Nat) (p0 : Int32) (h : sHp) : Option Int32 :=
  some (((jIshr p0 3) &&& 7) - 1)
set_option maxRecDepth 20000 in
set_option maxHeartbeats 4000000 in
theorem R_D_firstOf (n : Nat) (p0 : Int32) (h : sHp) : sM Zc (sPi h) y_D_firstOf prog_5_method_4_code 1 (some .int) rm_D_firstOf [.int p0] h (J_D_firstOf n p0 h) := by
  refine sM_of (own := "StoryStates$Code") rfl (by decide) (Nat.le_of_ble_eq_true rfl) (fun M V O => ?_)
  unfold J_D_firstOf
  refine r_lv (lv' := [(0, .int p0)]) [0] rfl ?_
  refine r_iload_n (pc := 0) O d_D_firstOf_0 0 rfl ?_
  refine r_iconst (pc := 1) O d_D_firstOf_1 ic_3 ?_
  refine r_ishr (pc := 2) O d_D_firstOf_2 ?_
  refine r_bipush (pc := 3) O d_D_firstOf_3 bc_7 ?_
  refine r_iand (pc := 5) O d_D_firstOf_5 ?_
  refine r_iconst (pc := 6) O d_D_firstOf_6 ic_1 ?_
  refine r_isub (pc := 7) O d_D_firstOf_7 ?_
  exact r_iret (pc := 8) O rfl d_D_firstOf_8
def J_D_secondOf (n : Nat) (p0 : Int32) (h : sHp) : Option Int32 :=
  some ((p0 &&& 7) - 1)
set_option maxRecDepth 20000 in
set_option maxHeartbeats 4000000 in
theorem R_D_secondOf (n : Nat) (p0 : Int32) (h : sHp) : sM Zc (sPi h) y_D_secondOf prog_5_method_5_code 1 (some .int) rm_D_secondOf [.int p0] h (J_D_secondOf n p0 h) := by
  refine sM_of (own := "StoryStates$Code") rfl (by decide) (Nat.le_of_ble_eq_true rfl) (fun M V O => ?_)
  unfold J_D_secondOf
  refine r_lv (lv' := [(0, .int p0)]) [0] rfl ?_
  refine r_iload_n (pc := 0) O d_D_secondOf_0 0 rfl ?_
  refine r_bipush (pc := 1) O d_D_secondOf_1 bc_7 ?_
  refine r_iand (pc := 3) O d_D_secondOf_3 ?_
  refine r_iconst (pc := 4) O d_D_secondOf_4 ic_1 ?_
  refine r_isub (pc := 5) O d_D_secondOf_5 ?_
  exact r_iret (pc := 6) O rfl d_D_secondOf_6
def J_A_addTo (n : Nat) (p1 : Int32) (p2 : Int32) (h : sHp) : Option sHp :=
  sGd (sIn (p1 + (p2 / 64)) 480) (sGd (sIn (p1 + (p2 / 64)) 480) (some (pL h 39 (ix (p1 + (p2 / 64))) ((h.2 39 (ix (p1 + (p2 / 64)))) ||| (jLshl 1 (jRem p2 64))))))
set_option maxRecDepth 20000 in
set_option maxHeartbeats 4000000 in
theorem R_A_addTo (n : Nat) (p1 : Int32) (p2 : Int32) (h : sHp) : sM Zc sOv y_A_addTo prog_2_method_15_code 3 none rm_A_addTo [.ref 39, .int p1, .int p2] h (J_A_addTo n p1 p2 h) := by
  refine sM_of (own := "StoryStates$Atlas") rfl (by decide) (Nat.le_of_ble_eq_true rfl) (fun M V O => ?_)
  unfold J_A_addTo
  refine r_lv (lv' := [(0, .ref 39), (1, .int p1), (2, .int p2)]) [0, 1, 2] rfl ?_
  refine r_aload_n (pc := 0) O d_A_addTo_0 0 rfl ?_
  refine r_iload_n (pc := 1) O d_A_addTo_1 1 rfl ?_
  refine r_iload_n (pc := 2) O d_A_addTo_2 2 rfl ?_
  refine r_bipush (pc := 3) O d_A_addTo_3 bc_64 ?_
  refine r_idiv (pc := 5) O d_A_addTo_5 (by decide) ?_
  refine r_iadd (pc := 6) O d_A_addTo_6 ?_
  refine r_dup2_11 (pc := 7) O d_A_addTo_7 rfl rfl ?_
  refine r_lald (x := (h.2 39 (ix (p1 + (p2 / 64))))) (pc := 8) O rfl d_A_addTo_8 rfl ?_
  refine r_lconst (pc := 9) O d_A_addTo_9 lc_1 ?_
  refine r_iload_n (pc := 10) O d_A_addTo_10 2 rfl ?_
  refine r_bipush (pc := 11) O d_A_addTo_11 bc_64 ?_
  refine r_irem (pc := 13) O d_A_addTo_13 (by decide) ?_
  refine r_lshl (pc := 14) O d_A_addTo_14 ?_
  refine r_lor (pc := 15) O d_A_addTo_15 ?_
  refine r_last (pc := 16) O rfl d_A_addTo_16 ?_
  exact r_vret (pc := 17) O rfl d_A_addTo_17
def K_A_note_45 (n : Nat) (p1 : Int64) (p3 : Int32) (x4 : Int32) (h : sHp) : Option sHp :=
  sGd (sIn x4 512) ((J_A_addTo n ((h.1 6 9) * 3) ((h.1 38 (ix x4)) - 1) h).bind fun v64 =>
  some v64)
def J_A_note (n : Nat) (p1 : Int64) (p3 : Int32) (h : sHp) : Option sHp :=
  (J_A_slotOf n p1 h).bind fun v2 =>
  sGd (sIn v2 512) (if (h.1 38 (ix v2)) = 0 then (if (h.1 6 10) = 160 then (some (pI h 6 11 1)) else ((J_A_append n p1 v2 (h.1 6 9) p3 h).bind fun v42 =>
  K_A_note_45 n p1 p3 v2 v42)) else (K_A_note_45 n p1 p3 v2 h))
set_option maxRecDepth 20000 in
set_option maxHeartbeats 4000000 in
theorem R_A_note (n : Nat) (p1 : Int64) (p3 : Int32) (h : sHp) : sM Zc sOv y_A_note prog_2_method_8_code 5 none rm_A_note [.ref 6, .long p1, .int p3] h (J_A_note n p1 p3 h) := by
  refine sM_of (own := "StoryStates$Atlas") rfl (by decide) (Nat.le_of_ble_eq_true rfl) (fun M V O => ?_)
  unfold J_A_note
  refine r_lv (lv' := [(0, .ref 6), (1, .long p1), (3, .int p3)]) [0, 1, 2] rfl ?_
  have hK45 : ∀ (x4 : Int32) (h : sHp), sS Zc M V (sEb sOv) 45 [(0, .ref 6), (4, .int x4)] [] h (K_A_note_45 n p1 p3 x4 h) := by
    intro x4 h
    unfold K_A_note_45
    refine r_aload_n (pc := 45) O d_A_note_45 0 rfl ?_
    refine r_getR (pc := 46) O gf_c_A_28_6 d_A_note_46 ?_
    refine r_aload_n (pc := 49) O d_A_note_49 0 rfl ?_
    refine r_getI (x := (h.1 6 9)) (pc := 50) O gf_c_A_38_6 d_A_note_50 rfl ?_
    refine r_iconst (pc := 53) O d_A_note_53 ic_3 ?_
    refine r_imul (pc := 54) O d_A_note_54 ?_
    refine r_aload_n (pc := 55) O d_A_note_55 0 rfl ?_
    refine r_getR (pc := 56) O gf_c_A_25_6 d_A_note_56 ?_
    refine r_iload (pc := 59) O d_A_note_59 1 rfl ?_
    refine r_iald (x := (h.1 38 (ix x4))) (pc := 61) O rfl d_A_note_61 rfl ?_
    refine r_iconst (pc := 62) O d_A_note_62 ic_1 ?_
    refine r_isub (pc := 63) O d_A_note_63 ?_
    refine r_callSv (pc := 64) O [.ref 39, .int ((h.1 6 9) * 3), .int ((h.1 38 (ix x4)) - 1)] (R_A_addTo n ((h.1 6 9) * 3) ((h.1 38 (ix x4)) - 1) h) cw_A_note_64 wm_806 rfl (Nat.le_of_ble_eq_true rfl) d_A_note_64 rfl (fun v64 => ?_)
    exact r_vret (pc := 67) O rfl d_A_note_67
  refine r_aload_n (pc := 0) O d_A_note_0 0 rfl ?_
  refine r_lload_n (pc := 1) O d_A_note_1 1 rfl ?_
  refine r_callVip (pc := 2) O [.long p1] rfl rfl (R_A_slotOf n p1 h) cw_A_note_2 wm_774 ws_A_slotOf rfl (Nat.le_of_ble_eq_true rfl) d_A_note_2 rfl (fun v2 => ?_)
  refine r_istore (lv' := [(4, .int v2), (0, .ref 6), (1, .long p1), (3, .int p3)]) (pc := 5) O d_A_note_5 (by decide) rfl ?_
  refine r_aload_n (pc := 7) O d_A_note_7 1 rfl ?_
  refine r_getR (pc := 8) O gf_c_A_25_6 d_A_note_8 ?_
  refine r_iload (pc := 11) O d_A_note_11 0 rfl ?_
  refine r_iald (x := (h.1 38 (ix v2))) (pc := 13) O rfl d_A_note_13 rfl ?_
  refine r_if_ne (tgt := 45) (pc := 14) O d_A_note_14 (by decide) (fun q14 => ?_) (fun q14 => ?_)
  · exact r_lv [1, 0] rfl (hK45 v2 h)
  · refine r_aload_n (pc := 17) O d_A_note_17 1 rfl ?_
    refine r_getI (x := (h.1 6 10)) (pc := 18) O gf_c_A_34_6 d_A_note_18 rfl ?_
    refine r_sipush (pc := 21) O d_A_note_21 sc_160 ?_
    refine r_icmp_ne (tgt := 33) (pc := 24) O d_A_note_24 (by decide) (fun q24 => ?_) (fun q24 => ?_)
    · refine r_aload_n (pc := 33) O d_A_note_33 1 rfl ?_
      refine r_lload_n (pc := 34) O d_A_note_34 2 rfl ?_
      refine r_iload (pc := 35) O d_A_note_35 0 rfl ?_
      refine r_aload_n (pc := 37) O d_A_note_37 1 rfl ?_
      refine r_getI (x := (h.1 6 9)) (pc := 38) O gf_c_A_38_6 d_A_note_38 rfl ?_
      refine r_iload_n (pc := 41) O d_A_note_41 3 rfl ?_
      refine r_callVv (pc := 42) O [.long p1, .int v2, .int (h.1 6 9), .int p3] rfl rfl (R_A_append n p1 v2 (h.1 6 9) p3 h) cw_A_note_42 wm_779 ws_A_append rfl (Nat.le_of_ble_eq_true rfl) d_A_note_42 rfl (fun v42 => ?_)
      exact r_lv [1, 0] rfl (hK45 v2 v42)
    · refine r_aload_n (pc := 27) O d_A_note_27 1 rfl ?_
      refine r_iconst (pc := 28) O d_A_note_28 ic_1 ?_
      refine r_putZ (pc := 29) O pf_c_A_41_6 d_A_note_29 nb_1 rfl ?_
      exact r_vret (pc := 32) O rfl d_A_note_32
def F_U_fillL_6 (n : Nat) (p1 : Int64) (x4 : Int32) (rec6 : Int32 × sHp → Option sHp) (q : Int32 × sHp) : Option sHp :=
  if x4 ≤ q.1 then (some q.2) else (sGd (sIn q.1 3) (rec6 ((q.1 + 1), (pL q.2 40 (ix q.1) p1))))
def J_U_fillL (n : Nat) (p1 : Int64) (h : sHp) : Option sHp :=
  sFx (F_U_fillL_6 n p1 3) n (0, h)
set_option maxRecDepth 20000 in
set_option maxHeartbeats 4000000 in
theorem R_U_fillL (n : Nat) (p1 : Int64) (h : sHp) : sM Zc sOv y_U_fillL prog_19_method_101_code 5 none rm_U_fillL [.ref 40, .long p1] h (J_U_fillL n p1 h) := by
  refine sM_of (own := "java/util/Arrays") rfl (by decide) (Nat.le_of_ble_eq_true rfl) (fun M V O => ?_)
  unfold J_U_fillL
  refine r_lv (lv' := [(0, .ref 40), (1, .long p1)]) [0, 1] rfl ?_
  have hL6 : ∀ (x4 : Int32) (q : Int32 × sHp), sS Zc M V (sEb sOv) 6 [(0, .ref 40), (1, .long p1), (3, .int q.1), (4, .int x4)] [] q.2 (sFx (F_U_fillL_6 n p1 x4) n q) := by
    intro x4
    refine r_fx (fun q => [(0, .ref 40), (1, .long p1), (3, .int q.1), (4, .int x4)]) (fun q => q.2) (F_U_fillL_6 n p1 x4) (fun rec6 hrec6 q => ?_) n
    obtain ⟨qv0, qv1⟩ := q
    show sS Zc M V (sEb sOv) 6 [(0, .ref 40), (1, .long p1), (3, .int qv0), (4, .int x4)] [] qv1 _
    unfold F_U_fillL_6
    try dsimp only
    refine r_iload_n (pc := 6) O d_U_fillL_6 2 rfl ?_
    refine r_iload (pc := 7) O d_U_fillL_7 3 rfl ?_
    refine r_icmp_ge (tgt := 22) (pc := 9) O d_U_fillL_9 (by decide) (fun q9 => ?_) (fun q9 => ?_)
    · exact r_vret (pc := 22) O rfl d_U_fillL_22
    · refine r_aload_n (pc := 12) O d_U_fillL_12 0 rfl ?_
      refine r_iload_n (pc := 13) O d_U_fillL_13 2 rfl ?_
      refine r_lload_n (pc := 14) O d_U_fillL_14 1 rfl ?_
      refine r_last (pc := 15) O rfl d_U_fillL_15 ?_
      refine r_iinc (lv' := [(3, .int (qv0 + 1)), (0, .ref 40), (1, .long p1), (4, .int x4)]) (pc := 16) O d_U_fillL_16 2 rfl (congrArg (HAdd.hAdd _) ic_1) (by decide) rfl ?_
      refine r_goto (pc := 19) O d_U_fillL_19 (tgt := 6) (by decide) ?_
      exact r_lv [1, 2, 0, 3] rfl (hrec6 ((qv0 + 1), (pL qv1 40 (ix qv0) p1)))
  refine r_iconst (pc := 0) O d_U_fillL_0 ic_0 ?_
  refine r_istore_n (lv' := [(3, .int 0), (0, .ref 40), (1, .long p1)]) (pc := 1) O d_U_fillL_1 rfl (by decide) rfl ?_
  refine r_aload_n (pc := 2) O d_U_fillL_2 1 rfl ?_
  refine r_alen (pc := 3) O rfl (by decide) nc_3 d_U_fillL_3 ?_
  refine r_istore (lv' := [(4, .int 3), (3, .int 0), (0, .ref 40), (1, .long p1)]) (pc := 4) O d_U_fillL_4 (by decide) rfl ?_
  exact r_lv [2, 3, 1, 0] rfl (hL6 3 (0, h))
def J_A_isHopeful (n : Nat) (p1 : Int32) (h : sHp) : Option Int32 :=
  sGd (sIn (p1 / 64) 3) (if (lg_cmp ((jLushr (h.2 40 (ix (p1 / 64))) (jRem p1 64)) &&& 1) 0) = 0 then (some 0) else (some 1))
set_option maxRecDepth 20000 in
set_option maxHeartbeats 4000000 in
theorem R_A_isHopeful (n : Nat) (p1 : Int32) (h : sHp) : sM Zc (sPi h) y_A_isHopeful prog_2_method_14_code 2 (some .boolean) rm_A_isHopeful [.ref 6, .int p1] h (J_A_isHopeful n p1 h) := by
  refine sM_of (own := "StoryStates$Atlas") rfl (by decide) (Nat.le_of_ble_eq_true rfl) (fun M V O => ?_)
  unfold J_A_isHopeful
  refine r_lv (lv' := [(0, .ref 6), (1, .int p1)]) [0, 1] rfl ?_
  refine r_aload_n (pc := 0) O d_A_isHopeful_0 0 rfl ?_
  refine r_getR (pc := 1) O gf_c_A_31_6 d_A_isHopeful_1 ?_
  refine r_iload_n (pc := 4) O d_A_isHopeful_4 1 rfl ?_
  refine r_bipush (pc := 5) O d_A_isHopeful_5 bc_64 ?_
  refine r_idiv (pc := 7) O d_A_isHopeful_7 (by decide) ?_
  refine r_lald (x := (h.2 40 (ix (p1 / 64)))) (pc := 8) O rfl d_A_isHopeful_8 rfl ?_
  refine r_iload_n (pc := 9) O d_A_isHopeful_9 1 rfl ?_
  refine r_bipush (pc := 10) O d_A_isHopeful_10 bc_64 ?_
  refine r_irem (pc := 12) O d_A_isHopeful_12 (by decide) ?_
  refine r_lushr (pc := 13) O d_A_isHopeful_13 ?_
  refine r_lconst (pc := 14) O d_A_isHopeful_14 lc_1 ?_
  refine r_land (pc := 15) O d_A_isHopeful_15 ?_
  refine r_lconst (pc := 16) O d_A_isHopeful_16 lc_0 ?_
  refine r_lcmp (pc := 17) O d_A_isHopeful_17 ?_
  refine r_if_eq (tgt := 25) (pc := 18) O d_A_isHopeful_18 (by decide) (fun q18 => ?_) (fun q18 => ?_)
  · refine r_iconst (pc := 25) O d_A_isHopeful_25 ic_0 ?_
    exact r_zret (pc := 26) O rfl d_A_isHopeful_26 nb_0
  · refine r_iconst (pc := 21) O d_A_isHopeful_21 ic_1 ?_
    refine r_goto (pc := 22) O d_A_isHopeful_22 (tgt := 26) (by decide) ?_
    exact r_zret (pc := 26) O rfl d_A_isHopeful_26 nb_1
def J_A_isWon (n : Nat) (p1 : Int32) (h : sHp) : Option Int32 :=
  sGd (sIn p1 160) ((J_B_endingOf n (h.2 35 (ix p1)) h).bind fun v6 =>
  (J_W_hasEnding n v6 h).bind fun v12 =>
  if v12 = 0 then (some 0) else (sGd (sIn v6 4) (if (h.1 16 (ix v6)) = 0 then (some 0) else (some 1))))
set_option maxRecDepth 20000 in
set_option maxHeartbeats 4000000 in
theorem R_A_isWon (n : Nat) (p1 : Int32) (h : sHp) : sM Zc (sPi h) y_A_isWon prog_2_method_12_code 4 (some .boolean) rm_A_isWon [.ref 6, .int p1, .ref 2] h (J_A_isWon n p1 h) := by
  refine sM_of (own := "StoryStates$Atlas") rfl (by decide) (Nat.le_of_ble_eq_true rfl) (fun M V O => ?_)
  unfold J_A_isWon
  refine r_lv (lv' := [(0, .ref 6), (1, .int p1), (2, .ref 2)]) [0, 1, 2] rfl ?_
  refine r_aload_n (pc := 0) O d_A_isWon_0 0 rfl ?_
  refine r_getR (pc := 1) O gf_c_A_15_6 d_A_isWon_1 ?_
  refine r_iload_n (pc := 4) O d_A_isWon_4 1 rfl ?_
  refine r_lald (x := (h.2 35 (ix p1))) (pc := 5) O rfl d_A_isWon_5 rfl ?_
  refine r_callSip (pc := 6) O [.long (h.2 35 (ix p1))] (R_B_endingOf n (h.2 35 (ix p1)) h) cw_A_isWon_6 wm_604 rfl (Nat.le_of_ble_eq_true rfl) d_A_isWon_6 rfl (fun v6 => ?_)
  refine r_istore_n (lv' := [(3, .int v6), (0, .ref 6), (1, .int p1), (2, .ref 2)]) (pc := 9) O d_A_isWon_9 rfl (by decide) rfl ?_
  refine r_aload_n (pc := 10) O d_A_isWon_10 3 rfl ?_
  refine r_iload_n (pc := 11) O d_A_isWon_11 0 rfl ?_
  refine r_callVip (pc := 12) O [.int v6] rfl rfl (R_W_hasEnding n v6 h) cw_A_isWon_12 wm_550 wm_551 rfl (Nat.le_of_ble_eq_true rfl) d_A_isWon_12 rfl (fun v12 => ?_)
  refine r_if_eq (tgt := 31) (pc := 15) O d_A_isWon_15 (by decide) (fun q15 => ?_) (fun q15 => ?_)
  · refine r_iconst (pc := 31) O d_A_isWon_31 ic_0 ?_
    exact r_zret (pc := 32) O rfl d_A_isWon_32 nb_0
  · refine r_aload_n (pc := 18) O d_A_isWon_18 3 rfl ?_
    refine r_getR (pc := 19) O gf_c_A_152_2 d_A_isWon_19 ?_
    refine r_iload_n (pc := 22) O d_A_isWon_22 0 rfl ?_
    refine r_zald (x := (h.1 16 (ix v6))) (pc := 23) O rfl d_A_isWon_23 rfl ?_
    refine r_if_eq (tgt := 31) (pc := 24) O d_A_isWon_24 (by decide) (fun q24 => ?_) (fun q24 => ?_)
    · refine r_iconst (pc := 31) O d_A_isWon_31 ic_0 ?_
      exact r_zret (pc := 32) O rfl d_A_isWon_32 nb_0
    · refine r_iconst (pc := 27) O d_A_isWon_27 ic_1 ?_
      refine r_goto (pc := 28) O d_A_isWon_28 (tgt := 32) (by decide) ?_
      exact r_zret (pc := 32) O rfl d_A_isWon_32 nb_1
def F_A_leadsToHope_2 (n : Nat) (p1 : Int32) (h : sHp) (rec2 : Int32 → Option Int32) (q : Int32) : Option Int32 :=
  if 3 ≤ q then (some 0) else (sGd (sIn ((p1 * 3) + q) 480) (sGd (sIn q 3) (if (lg_cmp ((h.2 39 (ix ((p1 * 3) + q))) &&& (h.2 40 (ix q))) 0) = 0 then (rec2 (q + 1)) else (some 1))))
def J_A_leadsToHope (n : Nat) (p1 : Int32) (h : sHp) : Option Int32 :=
  sFx (F_A_leadsToHope_2 n p1 h ) n 0
set_option maxRecDepth 20000 in
set_option maxHeartbeats 4000000 in
theorem R_A_leadsToHope (n : Nat) (p1 : Int32) (h : sHp) : sM Zc (sPi h) y_A_leadsToHope prog_2_method_13_code 3 (some .boolean) rm_A_leadsToHope [.ref 6, .int p1] h (J_A_leadsToHope n p1 h) := by
  refine sM_of (own := "StoryStates$Atlas") rfl (by decide) (Nat.le_of_ble_eq_true rfl) (fun M V O => ?_)
  unfold J_A_leadsToHope
  refine r_lv (lv' := [(0, .ref 6), (1, .int p1)]) [0, 1] rfl ?_
  have hL2 : ∀ (q : Int32), sS Zc M V (sEb (sPi h)) 2 [(0, .ref 6), (1, .int p1), (2, .int q)] [] h (sFx (F_A_leadsToHope_2 n p1 h ) n q) := by
    skip
    refine r_fx (fun q => [(0, .ref 6), (1, .int p1), (2, .int q)]) (fun q => h) (F_A_leadsToHope_2 n p1 h ) (fun rec2 hrec2 q => ?_) n
    skip
    show sS Zc M V (sEb (sPi h)) 2 [(0, .ref 6), (1, .int p1), (2, .int q)] [] h _
    unfold F_A_leadsToHope_2
    try dsimp only
    refine r_iload_n (pc := 2) O d_A_leadsToHope_2 2 rfl ?_
    refine r_iconst (pc := 3) O d_A_leadsToHope_3 ic_3 ?_
    refine r_icmp_ge (tgt := 37) (pc := 4) O d_A_leadsToHope_4 (by decide) (fun q4 => ?_) (fun q4 => ?_)
    · refine r_iconst (pc := 37) O d_A_leadsToHope_37 ic_0 ?_
      exact r_zret (pc := 38) O rfl d_A_leadsToHope_38 nb_0
    · refine r_aload_n (pc := 7) O d_A_leadsToHope_7 0 rfl ?_
      refine r_getR (pc := 8) O gf_c_A_28_6 d_A_leadsToHope_8 ?_
      refine r_iload_n (pc := 11) O d_A_leadsToHope_11 1 rfl ?_
      refine r_iconst (pc := 12) O d_A_leadsToHope_12 ic_3 ?_
      refine r_imul (pc := 13) O d_A_leadsToHope_13 ?_
      refine r_iload_n (pc := 14) O d_A_leadsToHope_14 2 rfl ?_
      refine r_iadd (pc := 15) O d_A_leadsToHope_15 ?_
      refine r_lald (x := (h.2 39 (ix ((p1 * 3) + q)))) (pc := 16) O rfl d_A_leadsToHope_16 rfl ?_
      refine r_aload_n (pc := 17) O d_A_leadsToHope_17 0 rfl ?_
      refine r_getR (pc := 18) O gf_c_A_31_6 d_A_leadsToHope_18 ?_
      refine r_iload_n (pc := 21) O d_A_leadsToHope_21 2 rfl ?_
      refine r_lald (x := (h.2 40 (ix q))) (pc := 22) O rfl d_A_leadsToHope_22 rfl ?_
      refine r_land (pc := 23) O d_A_leadsToHope_23 ?_
      refine r_lconst (pc := 24) O d_A_leadsToHope_24 lc_0 ?_
      refine r_lcmp (pc := 25) O d_A_leadsToHope_25 ?_
      refine r_if_eq (tgt := 31) (pc := 26) O d_A_leadsToHope_26 (by decide) (fun q26 => ?_) (fun q26 => ?_)
      · refine r_iinc (lv' := [(2, .int (q + 1)), (0, .ref 6), (1, .int p1)]) (pc := 31) O d_A_leadsToHope_31 2 rfl (congrArg (HAdd.hAdd _) ic_1) (by decide) rfl ?_
        refine r_goto (pc := 34) O d_A_leadsToHope_34 (tgt := 2) (by decide) ?_
        exact r_lv [1, 2, 0] rfl (hrec2 (q + 1))
      · refine r_iconst (pc := 29) O d_A_leadsToHope_29 ic_1 ?_
        exact r_zret (pc := 30) O rfl d_A_leadsToHope_30 nb_1
  refine r_iconst (pc := 0) O d_A_leadsToHope_0 ic_0 ?_
  refine r_istore_n (lv' := [(2, .int 0), (0, .ref 6), (1, .int p1)]) (pc := 1) O d_A_leadsToHope_1 rfl (by decide) rfl ?_
  exact r_lv [1, 2, 0] rfl (hL2 0)
def J_A_addTo_1 (n : Nat) (p1 : Int32) (p2 : Int32) (h : sHp) : Option sHp :=
  sGd (sIn (p1 + (p2 / 64)) 3) (sGd (sIn (p1 + (p2 / 64)) 3) (some (pL h 40 (ix (p1 + (p2 / 64))) ((h.2 40 (ix (p1 + (p2 / 64)))) ||| (jLshl 1 (jRem p2 64))))))
set_option maxRecDepth 20000 in
set_option maxHeartbeats 4000000 in
theorem R_A_addTo_1 (n : Nat) (p1 : Int32) (p2 : Int32) (h : sHp) : sM Zc sOv y_A_addTo prog_2_method_15_code 3 none rm_A_addTo_1 [.ref 40, .int p1, .int p2] h (J_A_addTo_1 n p1 p2 h) := by
  refine sM_of (own := "StoryStates$Atlas") rfl (by decide) (Nat.le_of_ble_eq_true rfl) (fun M V O => ?_)
  unfold J_A_addTo_1
  refine r_lv (lv' := [(0, .ref 40), (1, .int p1), (2, .int p2)]) [0, 1, 2] rfl ?_
  refine r_aload_n (pc := 0) O d_A_addTo_0 0 rfl ?_
  refine r_iload_n (pc := 1) O d_A_addTo_1 1 rfl ?_
  refine r_iload_n (pc := 2) O d_A_addTo_2 2 rfl ?_
  refine r_bipush (pc := 3) O d_A_addTo_3 bc_64 ?_
  refine r_idiv (pc := 5) O d_A_addTo_5 (by decide) ?_
  refine r_iadd (pc := 6) O d_A_addTo_6 ?_
  refine r_dup2_11 (pc := 7) O d_A_addTo_7 rfl rfl ?_
  refine r_lald (x := (h.2 40 (ix (p1 + (p2 / 64))))) (pc := 8) O rfl d_A_addTo_8 rfl ?_
  refine r_lconst (pc := 9) O d_A_addTo_9 lc_1 ?_
  refine r_iload_n (pc := 10) O d_A_addTo_10 2 rfl ?_
  refine r_bipush (pc := 11) O d_A_addTo_11 bc_64 ?_
  refine r_irem (pc := 13) O d_A_addTo_13 (by decide) ?_
  refine r_lshl (pc := 14) O d_A_addTo_14 ?_
  refine r_lor (pc := 15) O d_A_addTo_15 ?_
  refine r_last (pc := 16) O rfl d_A_addTo_16 ?_
  exact r_vret (pc := 17) O rfl d_A_addTo_17
def K_A_findHope_66 (n : Nat) (rec12 : (Int32 × Int32 × sHp → Option sHp)) (rec33 : (Int32 × Int32 × sHp → Option sHp)) (x3 : Int32) (x4 : Int32) (h : sHp) : Option sHp :=
  (J_A_addTo_1 n 0 x4 h).bind fun v73 =>
  rec33 (1, (x4 + (-1)), v73)
def F_A_findHope_33 (n : Nat) (rec12 : (Int32 × Int32 × sHp → Option sHp)) (x3 : Int32) (rec33 : Int32 × Int32 × sHp → Option sHp) (q : Int32 × Int32 × sHp) : Option sHp :=
  if q.2.1 < 0 then (rec12 (q.1, (x3 + 1), q.2.2)) else ((J_A_isHopeful n q.2.1 q.2.2).bind fun v41 =>
  if v41 = 0 then ((J_A_isWon n q.2.1 q.2.2).bind fun v51 =>
  if v51 = 0 then ((J_A_leadsToHope n q.2.1 q.2.2).bind fun v60 =>
  if v60 = 0 then (rec33 (q.1, (q.2.1 + (-1)), q.2.2)) else (K_A_findHope_66 n rec12 rec33 x3 q.2.1 q.2.2)) else (K_A_findHope_66 n rec12 rec33 x3 q.2.1 q.2.2)) else (rec33 (q.1, (q.2.1 + (-1)), q.2.2)))
def F_A_findHope_12 (n : Nat) (rec12 : Int32 × Int32 × sHp → Option sHp) (q : Int32 × Int32 × sHp) : Option sHp :=
  if 160 < q.2.1 then (some q.2.2) else (if q.1 = 0 then (some q.2.2) else (sFx (F_A_findHope_33 n rec12 q.2.1) n (0, ((q.2.2.1 6 10) - 1), q.2.2)))
def J_A_findHope (n : Nat)  (h : sHp) : Option sHp :=
  (J_U_fillL n 0 h).bind fun v5 =>
  sFx (F_A_findHope_12 n ) n (1, 0, v5)
set_option maxRecDepth 20000 in
set_option maxHeartbeats 4000000 in
theorem R_A_findHope (n : Nat)  (h : sHp) : sM Zc sOv y_A_findHope prog_2_method_11_code 5 none rm_A_findHope [.ref 6, .ref 2] h (J_A_findHope n  h) := by
  refine sM_of (own := "StoryStates$Atlas") rfl (by decide) (Nat.le_of_ble_eq_true rfl) (fun M V O => ?_)
  unfold J_A_findHope
  refine r_lv (lv' := [(0, .ref 6), (1, .ref 2)]) [0, 1] rfl ?_
  have hL12 : ∀ (q : Int32 × Int32 × sHp), sS Zc M V (sEb sOv) 12 [(0, .ref 6), (1, .ref 2), (2, .int q.1), (3, .int q.2.1)] [] q.2.2 (sFx (F_A_findHope_12 n ) n q) := by
    skip
    refine r_fx (fun q => [(0, .ref 6), (1, .ref 2), (2, .int q.1), (3, .int q.2.1)]) (fun q => q.2.2) (F_A_findHope_12 n ) (fun rec12 hrec12 q => ?_) n
    obtain ⟨qv0, qv1, qv2⟩ := q
    show sS Zc M V (sEb sOv) 12 [(0, .ref 6), (1, .ref 2), (2, .int qv0), (3, .int qv1)] [] qv2 _
    unfold F_A_findHope_12
    try dsimp only
    have hL33 : ∀ (x3 : Int32) (q : Int32 × Int32 × sHp), sS Zc M V (sEb sOv) 33 [(0, .ref 6), (1, .ref 2), (2, .int q.1), (3, .int x3), (4, .int q.2.1)] [] q.2.2 (sFx (F_A_findHope_33 n rec12 x3) n q) := by
      intro x3
      refine r_fx (fun q => [(0, .ref 6), (1, .ref 2), (2, .int q.1), (3, .int x3), (4, .int q.2.1)]) (fun q => q.2.2) (F_A_findHope_33 n rec12 x3) (fun rec33 hrec33 q => ?_) n
      obtain ⟨qv0, qv1, qv2⟩ := q
      show sS Zc M V (sEb sOv) 33 [(0, .ref 6), (1, .ref 2), (2, .int qv0), (3, .int x3), (4, .int qv1)] [] qv2 _
      unfold F_A_findHope_33
      try dsimp only
      have hK66 : ∀ (x4 : Int32) (h : sHp), sS Zc M V (sEb sOv) 66 [(0, .ref 6), (1, .ref 2), (3, .int x3), (4, .int x4)] [] h (K_A_findHope_66 n rec12 rec33 x3 x4 h) := by
        intro x4 h
        unfold K_A_findHope_66
        refine r_aload_n (pc := 66) O d_A_findHope_66 0 rfl ?_
        refine r_getR (pc := 67) O gf_c_A_31_6 d_A_findHope_67 ?_
        refine r_iconst (pc := 70) O d_A_findHope_70 ic_0 ?_
        refine r_iload (pc := 71) O d_A_findHope_71 3 rfl ?_
        refine r_callSv (pc := 73) O [.ref 40, .int 0, .int x4] (R_A_addTo_1 n 0 x4 h) cw_A_findHope_73 wm_806 rfl (Nat.le_of_ble_eq_true rfl) d_A_findHope_73 rfl (fun v73 => ?_)
        refine r_iconst (pc := 76) O d_A_findHope_76 ic_1 ?_
        refine r_istore_n (lv' := [(2, .int 1), (0, .ref 6), (1, .ref 2), (3, .int x3), (4, .int x4)]) (pc := 77) O d_A_findHope_77 rfl (by decide) rfl ?_
        refine r_iinc (lv' := [(4, .int (x4 + (-1))), (2, .int 1), (0, .ref 6), (1, .ref 2), (3, .int x3)]) (pc := 78) O d_A_findHope_78 4 rfl (congrArg (HAdd.hAdd _) ic_m1) (by decide) rfl ?_
        refine r_goto (pc := 81) O d_A_findHope_81 (tgt := 33) (by decide) ?_
        exact r_lv [2, 3, 1, 4, 0] rfl (hrec33 (1, (x4 + (-1)), v73))
      refine r_iload (pc := 33) O d_A_findHope_33 4 rfl ?_
      refine r_if_lt (tgt := 84) (pc := 35) O d_A_findHope_35 (by decide) (fun q35 => ?_) (fun q35 => ?_)
      · refine r_iinc (lv' := [(3, .int (x3 + 1)), (0, .ref 6), (1, .ref 2), (2, .int qv0), (4, .int qv1)]) (pc := 84) O d_A_findHope_84 3 rfl (congrArg (HAdd.hAdd _) ic_1) (by decide) rfl ?_
        refine r_goto (pc := 87) O d_A_findHope_87 (tgt := 12) (by decide) ?_
        exact r_lv [1, 2, 3, 0] rfl (hrec12 (qv0, (x3 + 1), qv2))
      · refine r_aload_n (pc := 38) O d_A_findHope_38 0 rfl ?_
        refine r_iload (pc := 39) O d_A_findHope_39 4 rfl ?_
        refine r_callVip (pc := 41) O [.int qv1] rfl rfl (R_A_isHopeful n qv1 qv2) cw_A_findHope_41 wm_821 ws_A_isHopeful rfl (Nat.le_of_ble_eq_true rfl) d_A_findHope_41 rfl (fun v41 => ?_)
        refine r_if_ne (tgt := 78) (pc := 44) O d_A_findHope_44 (by decide) (fun q44 => ?_) (fun q44 => ?_)
        · refine r_iinc (lv' := [(4, .int (qv1 + (-1))), (0, .ref 6), (1, .ref 2), (2, .int qv0), (3, .int x3)]) (pc := 78) O d_A_findHope_78 4 rfl (congrArg (HAdd.hAdd _) ic_m1) (by decide) rfl ?_
          refine r_goto (pc := 81) O d_A_findHope_81 (tgt := 33) (by decide) ?_
          exact r_lv [1, 2, 3, 4, 0] rfl (hrec33 (qv0, (qv1 + (-1)), qv2))
        · refine r_aload_n (pc := 47) O d_A_findHope_47 0 rfl ?_
          refine r_iload (pc := 48) O d_A_findHope_48 4 rfl ?_
          refine r_aload_n (pc := 50) O d_A_findHope_50 1 rfl ?_
          refine r_callVip (pc := 51) O [.int qv1, .ref 2] rfl rfl (R_A_isWon n qv1 qv2) cw_A_findHope_51 wm_825 ws_A_isWon rfl (Nat.le_of_ble_eq_true rfl) d_A_findHope_51 rfl (fun v51 => ?_)
          refine r_if_ne (tgt := 66) (pc := 54) O d_A_findHope_54 (by decide) (fun q54 => ?_) (fun q54 => ?_)
          · exact r_lv [0, 1, 3, 4] rfl (hK66 qv1 qv2)
          · refine r_aload_n (pc := 57) O d_A_findHope_57 0 rfl ?_
            refine r_iload (pc := 58) O d_A_findHope_58 4 rfl ?_
            refine r_callVip (pc := 60) O [.int qv1] rfl rfl (R_A_leadsToHope n qv1 qv2) cw_A_findHope_60 wm_831 ws_A_leadsToHope rfl (Nat.le_of_ble_eq_true rfl) d_A_findHope_60 rfl (fun v60 => ?_)
            refine r_if_eq (tgt := 78) (pc := 63) O d_A_findHope_63 (by decide) (fun q63 => ?_) (fun q63 => ?_)
            · refine r_iinc (lv' := [(4, .int (qv1 + (-1))), (0, .ref 6), (1, .ref 2), (2, .int qv0), (3, .int x3)]) (pc := 78) O d_A_findHope_78 4 rfl (congrArg (HAdd.hAdd _) ic_m1) (by decide) rfl ?_
              refine r_goto (pc := 81) O d_A_findHope_81 (tgt := 33) (by decide) ?_
              exact r_lv [1, 2, 3, 4, 0] rfl (hrec33 (qv0, (qv1 + (-1)), qv2))
            · exact r_lv [0, 1, 3, 4] rfl (hK66 qv1 qv2)
    refine r_iload_n (pc := 12) O d_A_findHope_12 3 rfl ?_
    refine r_sipush (pc := 13) O d_A_findHope_13 sc_160 ?_
    refine r_icmp_gt (tgt := 90) (pc := 16) O d_A_findHope_16 (by decide) (fun q16 => ?_) (fun q16 => ?_)
    · exact r_vret (pc := 90) O rfl d_A_findHope_90
    · refine r_iload_n (pc := 19) O d_A_findHope_19 2 rfl ?_
      refine r_if_eq (tgt := 90) (pc := 20) O d_A_findHope_20 (by decide) (fun q20 => ?_) (fun q20 => ?_)
      · exact r_vret (pc := 90) O rfl d_A_findHope_90
      · refine r_iconst (pc := 23) O d_A_findHope_23 ic_0 ?_
        refine r_istore_n (lv' := [(2, .int 0), (0, .ref 6), (1, .ref 2), (3, .int qv1)]) (pc := 24) O d_A_findHope_24 rfl (by decide) rfl ?_
        refine r_aload_n (pc := 25) O d_A_findHope_25 1 rfl ?_
        refine r_getI (x := (qv2.1 6 10)) (pc := 26) O gf_c_A_34_6 d_A_findHope_26 rfl ?_
        refine r_iconst (pc := 29) O d_A_findHope_29 ic_1 ?_
        refine r_isub (pc := 30) O d_A_findHope_30 ?_
        refine r_istore (lv' := [(4, .int ((qv2.1 6 10) - 1)), (2, .int 0), (0, .ref 6), (1, .ref 2), (3, .int qv1)]) (pc := 31) O d_A_findHope_31 (by decide) rfl ?_
        exact r_lv [2, 3, 1, 4, 0] rfl (hL33 qv1 (0, ((qv2.1 6 10) - 1), qv2))
  refine r_aload_n (pc := 0) O d_A_findHope_0 0 rfl ?_
  refine r_getR (pc := 1) O gf_c_A_31_6 d_A_findHope_1 ?_
  refine r_lconst (pc := 4) O d_A_findHope_4 lc_0 ?_
  refine r_callSv (pc := 5) O [.ref 40, .long 0] (R_U_fillL n 0 h) cw_A_findHope_5 wm_817 rfl (Nat.le_of_ble_eq_true rfl) d_A_findHope_5 rfl (fun v5 => ?_)
  refine r_iconst (pc := 8) O d_A_findHope_8 ic_1 ?_
  refine r_istore_n (lv' := [(2, .int 1), (0, .ref 6), (1, .ref 2)]) (pc := 9) O d_A_findHope_9 rfl (by decide) rfl ?_
  refine r_iconst (pc := 10) O d_A_findHope_10 ic_0 ?_
  refine r_istore_n (lv' := [(3, .int 0), (2, .int 1), (0, .ref 6), (1, .ref 2)]) (pc := 11) O d_A_findHope_11 rfl (by decide) rfl ?_
  exact r_lv [2, 3, 1, 0] rfl (hL12 (1, 0, v5))
def K_A_goThroughNext_110 (n : Nat) (h : sHp) : Option sHp :=
  if (h.1 6 11) = 0 then ((J_A_isFinished n (pI h 6 9 ((h.1 6 9) + 1))).bind fun v128 =>
  if v128 = 0 then (some (pI h 6 9 ((h.1 6 9) + 1))) else ((J_A_findHope n (pI h 6 9 ((h.1 6 9) + 1))).bind fun v139 =>
  some v139)) else ((J_A_isFinished n h).bind fun v128 =>
  if v128 = 0 then (some h) else ((J_A_findHope n h).bind fun v139 =>
  some v139))
def F_A_goThroughNext_38 (n : Nat) (x2 : Int64) (x4 : Int32) (rec38 : Int32 × sHp → Option sHp) (q : Int32 × sHp) : Option sHp :=
  if x4 ≤ q.1 then (K_A_goThroughNext_110 n q.2) else (if (q.2.1 6 11) = 0 then (sGd (sIn q.1 163) ((J_D_verbOf n (q.2.1 34 (ix q.1)) q.2).bind fun v65 =>
  (J_D_firstOf n (q.2.1 34 (ix q.1)) q.2).bind fun v70 =>
  (J_D_secondOf n (q.2.1 34 (ix q.1)) q.2).bind fun v75 =>
  (J_E_take n x2 v65 v70 v75 q.2).bind fun v78 =>
  (J_A_note n v78.1 (q.2.1 34 (ix q.1)) (pI v78.2 6 8 ((v78.2.1 6 8) ||| (v78.2.1 1 3)))).bind fun v101 =>
  rec38 ((q.1 + 1), v101))) else (K_A_goThroughNext_110 n q.2))
def K_A_goThroughNext_33 (n : Nat) (x2 : Int64) (t0 : Int32) (h : sHp) : Option sHp :=
  sFx (F_A_goThroughNext_38 n x2 t0) n (0, h)
def J_A_goThroughNext (n : Nat)  (h : sHp) : Option sHp :=
  (J_A_hasMore n h).bind fun v1 =>
  if v1 = 0 then (some h) else (sGd (sIn (h.1 6 9) 160) ((J_B_isOver n (h.2 35 (ix (h.1 6 9))) h).bind fun v19 =>
  if v19 = 0 then (K_A_goThroughNext_33 n (h.2 35 (ix (h.1 6 9))) (h.1 6 1) h) else (K_A_goThroughNext_33 n (h.2 35 (ix (h.1 6 9))) 0 h)))
set_option maxRecDepth 20000 in
set_option maxHeartbeats 4000000 in
theorem R_A_goThroughNext (n : Nat)  (h : sHp) : sM Zc sOv y_A_goThroughNext prog_2_method_7_code 9 none rm_A_goThroughNext [.ref 6, .ref 1] h (J_A_goThroughNext n  h) := by
  refine sM_of (own := "StoryStates$Atlas") rfl (by decide) (Nat.le_of_ble_eq_true rfl) (fun M V O => ?_)
  unfold J_A_goThroughNext
  refine r_lv (lv' := [(0, .ref 6), (1, .ref 1)]) [0, 1] rfl ?_
  have hK110 : ∀ (h : sHp), sS Zc M V (sEb sOv) 110 [(0, .ref 6), (1, .ref 1)] [] h (K_A_goThroughNext_110 n h) := by
    intro h
    unfold K_A_goThroughNext_110
    refine r_aload_n (pc := 110) O d_A_goThroughNext_110 0 rfl ?_
    refine r_getI (x := (h.1 6 11)) (pc := 111) O gf_c_A_41_6 d_A_goThroughNext_111 rfl ?_
    refine r_if_ne (tgt := 127) (pc := 114) O d_A_goThroughNext_114 (by decide) (fun q114 => ?_) (fun q114 => ?_)
    · refine r_aload_n (pc := 127) O d_A_goThroughNext_127 0 rfl ?_
      refine r_callVip (pc := 128) O [] rfl rfl (R_A_isFinished n  h) cw_A_goThroughNext_128 wm_809 wm_810 rfl (Nat.le_of_ble_eq_true rfl) d_A_goThroughNext_128 rfl (fun v128 => ?_)
      refine r_if_eq (tgt := 142) (pc := 131) O d_A_goThroughNext_131 (by decide) (fun q131 => ?_) (fun q131 => ?_)
      · exact r_vret (pc := 142) O rfl d_A_goThroughNext_142
      · refine r_aload_n (pc := 134) O d_A_goThroughNext_134 0 rfl ?_
        refine r_aload_n (pc := 135) O d_A_goThroughNext_135 1 rfl ?_
        refine r_getR (pc := 136) O gf_c_A_119_1 d_A_goThroughNext_136 ?_
        refine r_callVv (pc := 139) O [.ref 2] rfl rfl (R_A_findHope n  h) cw_A_goThroughNext_139 wm_814 ws_A_findHope rfl (Nat.le_of_ble_eq_true rfl) d_A_goThroughNext_139 rfl (fun v139 => ?_)
        exact r_vret (pc := 142) O rfl d_A_goThroughNext_142
    · refine r_aload_n (pc := 117) O d_A_goThroughNext_117 0 rfl ?_
      refine r_dup (pc := 118) O d_A_goThroughNext_118 rfl ?_
      refine r_getI (x := (h.1 6 9)) (pc := 119) O gf_c_A_38_6 d_A_goThroughNext_119 rfl ?_
      refine r_iconst (pc := 122) O d_A_goThroughNext_122 ic_1 ?_
      refine r_iadd (pc := 123) O d_A_goThroughNext_123 ?_
      refine r_putI (pc := 124) O pf_c_A_38_6 d_A_goThroughNext_124 ?_
      refine r_aload_n (pc := 127) O d_A_goThroughNext_127 0 rfl ?_
      refine r_callVip (pc := 128) O [] rfl rfl (R_A_isFinished n  (pI h 6 9 ((h.1 6 9) + 1))) cw_A_goThroughNext_128 wm_809 wm_810 rfl (Nat.le_of_ble_eq_true rfl) d_A_goThroughNext_128 rfl (fun v128 => ?_)
      refine r_if_eq (tgt := 142) (pc := 131) O d_A_goThroughNext_131 (by decide) (fun q131 => ?_) (fun q131 => ?_)
      · exact r_vret (pc := 142) O rfl d_A_goThroughNext_142
      · refine r_aload_n (pc := 134) O d_A_goThroughNext_134 0 rfl ?_
        refine r_aload_n (pc := 135) O d_A_goThroughNext_135 1 rfl ?_
        refine r_getR (pc := 136) O gf_c_A_119_1 d_A_goThroughNext_136 ?_
        refine r_callVv (pc := 139) O [.ref 2] rfl rfl (R_A_findHope n  (pI h 6 9 ((h.1 6 9) + 1))) cw_A_goThroughNext_139 wm_814 ws_A_findHope rfl (Nat.le_of_ble_eq_true rfl) d_A_goThroughNext_139 rfl (fun v139 => ?_)
        exact r_vret (pc := 142) O rfl d_A_goThroughNext_142
  have hL38 : ∀ (x2 : Int64) (x4 : Int32) (q : Int32 × sHp), sS Zc M V (sEb sOv) 38 [(0, .ref 6), (1, .ref 1), (2, .long x2), (4, .int x4), (5, .int q.1)] [] q.2 (sFx (F_A_goThroughNext_38 n x2 x4) n q) := by
    intro x2 x4
    refine r_fx (fun q => [(0, .ref 6), (1, .ref 1), (2, .long x2), (4, .int x4), (5, .int q.1)]) (fun q => q.2) (F_A_goThroughNext_38 n x2 x4) (fun rec38 hrec38 q => ?_) n
    obtain ⟨qv0, qv1⟩ := q
    show sS Zc M V (sEb sOv) 38 [(0, .ref 6), (1, .ref 1), (2, .long x2), (4, .int x4), (5, .int qv0)] [] qv1 _
    unfold F_A_goThroughNext_38
    try dsimp only
    refine r_iload (pc := 38) O d_A_goThroughNext_38 4 rfl ?_
    refine r_iload (pc := 40) O d_A_goThroughNext_40 3 rfl ?_
    refine r_icmp_ge (tgt := 110) (pc := 42) O d_A_goThroughNext_42 (by decide) (fun q42 => ?_) (fun q42 => ?_)
    · exact r_lv [0, 1] rfl (hK110 qv1)
    · refine r_aload_n (pc := 45) O d_A_goThroughNext_45 0 rfl ?_
      refine r_getI (x := (qv1.1 6 11)) (pc := 46) O gf_c_A_41_6 d_A_goThroughNext_46 rfl ?_
      refine r_if_ne (tgt := 110) (pc := 49) O d_A_goThroughNext_49 (by decide) (fun q49 => ?_) (fun q49 => ?_)
      · exact r_lv [0, 1] rfl (hK110 qv1)
      · refine r_aload_n (pc := 52) O d_A_goThroughNext_52 0 rfl ?_
        refine r_getR (pc := 53) O gf_c_A_11_6 d_A_goThroughNext_53 ?_
        refine r_iload (pc := 56) O d_A_goThroughNext_56 4 rfl ?_
        refine r_iald (x := (qv1.1 34 (ix qv0))) (pc := 58) O rfl d_A_goThroughNext_58 rfl ?_
        refine r_istore (lv' := [(6, .int (qv1.1 34 (ix qv0))), (0, .ref 6), (1, .ref 1), (2, .long x2), (4, .int x4), (5, .int qv0)]) (pc := 59) O d_A_goThroughNext_59 (by decide) rfl ?_
        refine r_aload_n (pc := 61) O d_A_goThroughNext_61 2 rfl ?_
        refine r_lload_n (pc := 62) O d_A_goThroughNext_62 3 rfl ?_
        refine r_iload (pc := 63) O d_A_goThroughNext_63 0 rfl ?_
        refine r_callSip (pc := 65) O [.int (qv1.1 34 (ix qv0))] (R_D_verbOf n (qv1.1 34 (ix qv0)) qv1) cw_A_goThroughNext_65 wm_792 rfl (Nat.le_of_ble_eq_true rfl) d_A_goThroughNext_65 rfl (fun v65 => ?_)
        refine r_iload (pc := 68) O d_A_goThroughNext_68 0 rfl ?_
        refine r_callSip (pc := 70) O [.int (qv1.1 34 (ix qv0))] (R_D_firstOf n (qv1.1 34 (ix qv0)) qv1) cw_A_goThroughNext_70 wm_795 rfl (Nat.le_of_ble_eq_true rfl) d_A_goThroughNext_70 rfl (fun v70 => ?_)
        refine r_iload (pc := 73) O d_A_goThroughNext_73 0 rfl ?_
        refine r_callSip (pc := 75) O [.int (qv1.1 34 (ix qv0))] (R_D_secondOf n (qv1.1 34 (ix qv0)) qv1) cw_A_goThroughNext_75 wm_798 rfl (Nat.le_of_ble_eq_true rfl) d_A_goThroughNext_75 rfl (fun v75 => ?_)
        refine r_callVl (pc := 78) O [.long x2, .int v65, .int v70, .int v75] rfl rfl (R_E_take n x2 v65 v70 v75 qv1) cw_A_goThroughNext_78 wm_607 wm_608 rfl (Nat.le_of_ble_eq_true rfl) d_A_goThroughNext_78 rfl (fun v78 => ?_)
        refine r_lstore (lv' := [(7, .long v78.1), (6, .int (qv1.1 34 (ix qv0))), (0, .ref 6), (1, .ref 1), (2, .long x2), (4, .int x4), (5, .int qv0)]) (pc := 81) O d_A_goThroughNext_81 (by decide) rfl ?_
        refine r_aload_n (pc := 83) O d_A_goThroughNext_83 2 rfl ?_
        refine r_dup (pc := 84) O d_A_goThroughNext_84 rfl ?_
        refine r_getI (x := (v78.2.1 6 8)) (pc := 85) O gf_c_A_45_6 d_A_goThroughNext_85 rfl ?_
        refine r_aload_n (pc := 88) O d_A_goThroughNext_88 3 rfl ?_
        refine r_getI (x := (v78.2.1 1 3)) (pc := 89) O gf_c_A_111_1 d_A_goThroughNext_89 rfl ?_
        refine r_ior (pc := 92) O d_A_goThroughNext_92 ?_
        refine r_putI (pc := 93) O pf_c_A_45_6 d_A_goThroughNext_93 ?_
        refine r_aload_n (pc := 96) O d_A_goThroughNext_96 2 rfl ?_
        refine r_lload (pc := 97) O d_A_goThroughNext_97 0 rfl ?_
        refine r_iload (pc := 99) O d_A_goThroughNext_99 1 rfl ?_
        refine r_callVv (pc := 101) O [.long v78.1, .int (qv1.1 34 (ix qv0))] rfl rfl (R_A_note n v78.1 (qv1.1 34 (ix qv0)) (pI v78.2 6 8 ((v78.2.1 6 8) ||| (v78.2.1 1 3)))) cw_A_goThroughNext_101 wm_803 ws_A_note rfl (Nat.le_of_ble_eq_true rfl) d_A_goThroughNext_101 rfl (fun v101 => ?_)
        refine r_iinc (lv' := [(5, .int (qv0 + 1)), (7, .long v78.1), (6, .int (qv1.1 34 (ix qv0))), (0, .ref 6), (1, .ref 1), (2, .long x2), (4, .int x4)]) (pc := 104) O d_A_goThroughNext_104 6 rfl (congrArg (HAdd.hAdd _) ic_1) (by decide) rfl ?_
        refine r_goto (pc := 107) O d_A_goThroughNext_107 (tgt := 38) (by decide) ?_
        exact r_lv [3, 4, 5, 6, 0] rfl (hrec38 ((qv0 + 1), v101))
  have hK33 : ∀ (x2 : Int64) (t0 : Int32) (h : sHp), sS Zc M V (sEb sOv) 33 [(0, .ref 6), (1, .ref 1), (2, .long x2)] [.int t0] h (K_A_goThroughNext_33 n x2 t0 h) := by
    intro x2 t0 h
    unfold K_A_goThroughNext_33
    refine r_istore (lv' := [(4, .int t0), (0, .ref 6), (1, .ref 1), (2, .long x2)]) (pc := 33) O d_A_goThroughNext_33 (by decide) rfl ?_
    refine r_iconst (pc := 35) O d_A_goThroughNext_35 ic_0 ?_
    refine r_istore (lv' := [(5, .int 0), (4, .int t0), (0, .ref 6), (1, .ref 1), (2, .long x2)]) (pc := 36) O d_A_goThroughNext_36 (by decide) rfl ?_
    exact r_lv [2, 3, 4, 1, 0] rfl (hL38 x2 t0 (0, h))
  refine r_aload_n (pc := 0) O d_A_goThroughNext_0 0 rfl ?_
  refine r_callVip (pc := 1) O [] rfl rfl (R_A_hasMore n  h) cw_A_goThroughNext_1 wm_782 wm_783 rfl (Nat.le_of_ble_eq_true rfl) d_A_goThroughNext_1 rfl (fun v1 => ?_)
  refine r_if_ne (tgt := 8) (pc := 4) O d_A_goThroughNext_4 (by decide) (fun q4 => ?_) (fun q4 => ?_)
  · refine r_aload_n (pc := 8) O d_A_goThroughNext_8 0 rfl ?_
    refine r_getR (pc := 9) O gf_c_A_15_6 d_A_goThroughNext_9 ?_
    refine r_aload_n (pc := 12) O d_A_goThroughNext_12 0 rfl ?_
    refine r_getI (x := (h.1 6 9)) (pc := 13) O gf_c_A_38_6 d_A_goThroughNext_13 rfl ?_
    refine r_lald (x := (h.2 35 (ix (h.1 6 9)))) (pc := 16) O rfl d_A_goThroughNext_16 rfl ?_
    refine r_lstore_n (lv' := [(2, .long (h.2 35 (ix (h.1 6 9)))), (0, .ref 6), (1, .ref 1)]) (pc := 17) O d_A_goThroughNext_17 rfl (by decide) rfl ?_
    refine r_lload_n (pc := 18) O d_A_goThroughNext_18 0 rfl ?_
    refine r_callSip (pc := 19) O [.long (h.2 35 (ix (h.1 6 9)))] (R_B_isOver n (h.2 35 (ix (h.1 6 9))) h) cw_A_goThroughNext_19 wm_601 rfl (Nat.le_of_ble_eq_true rfl) d_A_goThroughNext_19 rfl (fun v19 => ?_)
    refine r_if_eq (tgt := 29) (pc := 22) O d_A_goThroughNext_22 (by decide) (fun q22 => ?_) (fun q22 => ?_)
    · refine r_aload_n (pc := 29) O d_A_goThroughNext_29 1 rfl ?_
      refine r_getI (x := (h.1 6 1)) (pc := 30) O gf_c_A_72_6 d_A_goThroughNext_30 rfl ?_
      exact r_lv [1, 2, 0] rfl (hK33 (h.2 35 (ix (h.1 6 9))) (h.1 6 1) h)
    · refine r_iconst (pc := 25) O d_A_goThroughNext_25 ic_0 ?_
      refine r_goto (pc := 26) O d_A_goThroughNext_26 (tgt := 33) (by decide) ?_
      exact r_lv [1, 2, 0] rfl (hK33 (h.2 35 (ix (h.1 6 9))) 0 h)
  · exact r_vret (pc := 7) O rfl d_A_goThroughNext_7
def J_A_isHopeless (n : Nat) (p1 : Int64) (h : sHp) : Option Int32 :=
  (J_A_slotOf n p1 h).bind fun v6 =>
  sGd (sIn v6 512) (if ((h.1 38 (ix v6)) - 1) = (-1) then (some 1) else ((J_A_isHopeful n ((h.1 38 (ix v6)) - 1) h).bind fun v20 =>
  if v20 = 0 then (some 1) else (some 0)))
set_option maxRecDepth 20000 in
set_option maxHeartbeats 4000000 in
theorem R_A_isHopeless (n : Nat) (p1 : Int64) (h : sHp) : sM Zc (sPi h) y_A_isHopeless prog_2_method_16_code 4 (some .boolean) rm_A_isHopeless [.ref 6, .long p1] h (J_A_isHopeless n p1 h) := by
  refine sM_of (own := "StoryStates$Atlas") rfl (by decide) (Nat.le_of_ble_eq_true rfl) (fun M V O => ?_)
  unfold J_A_isHopeless
  refine r_lv (lv' := [(0, .ref 6), (1, .long p1)]) [0, 1] rfl ?_
  refine r_aload_n (pc := 0) O d_A_isHopeless_0 0 rfl ?_
  refine r_getR (pc := 1) O gf_c_A_25_6 d_A_isHopeless_1 ?_
  refine r_aload_n (pc := 4) O d_A_isHopeless_4 0 rfl ?_
  refine r_lload_n (pc := 5) O d_A_isHopeless_5 1 rfl ?_
  refine r_callVip (pc := 6) O [.long p1] rfl rfl (R_A_slotOf n p1 h) cw_A_isHopeless_6 wm_774 ws_A_slotOf rfl (Nat.le_of_ble_eq_true rfl) d_A_isHopeless_6 rfl (fun v6 => ?_)
  refine r_iald (x := (h.1 38 (ix v6))) (pc := 9) O rfl d_A_isHopeless_9 rfl ?_
  refine r_iconst (pc := 10) O d_A_isHopeless_10 ic_1 ?_
  refine r_isub (pc := 11) O d_A_isHopeless_11 ?_
  refine r_istore_n (lv' := [(3, .int ((h.1 38 (ix v6)) - 1)), (0, .ref 6), (1, .long p1)]) (pc := 12) O d_A_isHopeless_12 rfl (by decide) rfl ?_
  refine r_iload_n (pc := 13) O d_A_isHopeless_13 0 rfl ?_
  refine r_iconst (pc := 14) O d_A_isHopeless_14 ic_m1 ?_
  refine r_icmp_eq (tgt := 26) (pc := 15) O d_A_isHopeless_15 (by decide) (fun q15 => ?_) (fun q15 => ?_)
  · refine r_iconst (pc := 26) O d_A_isHopeless_26 ic_1 ?_
    refine r_goto (pc := 27) O d_A_isHopeless_27 (tgt := 31) (by decide) ?_
    exact r_zret (pc := 31) O rfl d_A_isHopeless_31 nb_1
  · refine r_aload_n (pc := 18) O d_A_isHopeless_18 1 rfl ?_
    refine r_iload_n (pc := 19) O d_A_isHopeless_19 0 rfl ?_
    refine r_callVip (pc := 20) O [.int ((h.1 38 (ix v6)) - 1)] rfl rfl (R_A_isHopeful n ((h.1 38 (ix v6)) - 1) h) cw_A_isHopeless_20 wm_821 ws_A_isHopeful rfl (Nat.le_of_ble_eq_true rfl) d_A_isHopeless_20 rfl (fun v20 => ?_)
    refine r_if_ne (tgt := 30) (pc := 23) O d_A_isHopeless_23 (by decide) (fun q23 => ?_) (fun q23 => ?_)
    · refine r_iconst (pc := 30) O d_A_isHopeless_30 ic_0 ?_
      exact r_zret (pc := 31) O rfl d_A_isHopeless_31 nb_0
    · refine r_iconst (pc := 26) O d_A_isHopeless_26 ic_1 ?_
      refine r_goto (pc := 27) O d_A_isHopeless_27 (tgt := 31) (by decide) ?_
      exact r_zret (pc := 31) O rfl d_A_isHopeless_31 nb_1
def K_A_leadsOnlyToItself_25 (n : Nat) (p1 : Int32) (h : sHp) (rec2 : (Int32 → Option Int32)) (x2 : Int32) (t0 : Int64) : Option Int32 :=
  sGd (sIn ((p1 * 3) + x2) 480) (if (lg_cmp (h.2 39 (ix ((p1 * 3) + x2))) t0) = 0 then (rec2 (x2 + 1)) else (some 0))
def F_A_leadsOnlyToItself_2 (n : Nat) (p1 : Int32) (h : sHp) (rec2 : Int32 → Option Int32) (q : Int32) : Option Int32 :=
  if 3 ≤ q then (some 1) else (if q = (p1 / 64) then (K_A_leadsOnlyToItself_25 n p1 h rec2 q (jLshl 1 (jRem p1 64))) else (K_A_leadsOnlyToItself_25 n p1 h rec2 q 0))
def J_A_leadsOnlyToItself (n : Nat) (p1 : Int32) (h : sHp) : Option Int32 :=
  sFx (F_A_leadsOnlyToItself_2 n p1 h ) n 0
set_option maxRecDepth 20000 in
set_option maxHeartbeats 4000000 in
theorem R_A_leadsOnlyToItself (n : Nat) (p1 : Int32) (h : sHp) : sM Zc (sPi h) y_A_leadsOnlyToItself prog_2_method_18_code 5 (some .boolean) rm_A_leadsOnlyToItself [.ref 6, .int p1] h (J_A_leadsOnlyToItself n p1 h) := by
  refine sM_of (own := "StoryStates$Atlas") rfl (by decide) (Nat.le_of_ble_eq_true rfl) (fun M V O => ?_)
  unfold J_A_leadsOnlyToItself
  refine r_lv (lv' := [(0, .ref 6), (1, .int p1)]) [0, 1] rfl ?_
  have hL2 : ∀ (q : Int32), sS Zc M V (sEb (sPi h)) 2 [(0, .ref 6), (1, .int p1), (2, .int q)] [] h (sFx (F_A_leadsOnlyToItself_2 n p1 h ) n q) := by
    skip
    refine r_fx (fun q => [(0, .ref 6), (1, .int p1), (2, .int q)]) (fun q => h) (F_A_leadsOnlyToItself_2 n p1 h ) (fun rec2 hrec2 q => ?_) n
    skip
    show sS Zc M V (sEb (sPi h)) 2 [(0, .ref 6), (1, .int p1), (2, .int q)] [] h _
    unfold F_A_leadsOnlyToItself_2
    try dsimp only
    have hK25 : ∀ (x2 : Int32) (t0 : Int64), sS Zc M V (sEb (sPi h)) 25 [(0, .ref 6), (1, .int p1), (2, .int x2)] [.long t0] h (K_A_leadsOnlyToItself_25 n p1 h rec2 x2 t0) := by
      intro x2 t0
      unfold K_A_leadsOnlyToItself_25
      refine r_lstore_n (lv' := [(3, .long t0), (0, .ref 6), (1, .int p1), (2, .int x2)]) (pc := 25) O d_A_leadsOnlyToItself_25 rfl (by decide) rfl ?_
      refine r_aload_n (pc := 26) O d_A_leadsOnlyToItself_26 1 rfl ?_
      refine r_getR (pc := 27) O gf_c_A_28_6 d_A_leadsOnlyToItself_27 ?_
      refine r_iload_n (pc := 30) O d_A_leadsOnlyToItself_30 2 rfl ?_
      refine r_iconst (pc := 31) O d_A_leadsOnlyToItself_31 ic_3 ?_
      refine r_imul (pc := 32) O d_A_leadsOnlyToItself_32 ?_
      refine r_iload_n (pc := 33) O d_A_leadsOnlyToItself_33 3 rfl ?_
      refine r_iadd (pc := 34) O d_A_leadsOnlyToItself_34 ?_
      refine r_lald (x := (h.2 39 (ix ((p1 * 3) + x2)))) (pc := 35) O rfl d_A_leadsOnlyToItself_35 rfl ?_
      refine r_lload_n (pc := 36) O d_A_leadsOnlyToItself_36 0 rfl ?_
      refine r_lcmp (pc := 37) O d_A_leadsOnlyToItself_37 ?_
      refine r_if_eq (tgt := 43) (pc := 38) O d_A_leadsOnlyToItself_38 (by decide) (fun q38 => ?_) (fun q38 => ?_)
      · refine r_iinc (lv' := [(2, .int (x2 + 1)), (3, .long t0), (0, .ref 6), (1, .int p1)]) (pc := 43) O d_A_leadsOnlyToItself_43 3 rfl (congrArg (HAdd.hAdd _) ic_1) (by decide) rfl ?_
        refine r_goto (pc := 46) O d_A_leadsOnlyToItself_46 (tgt := 2) (by decide) ?_
        exact r_lv [2, 3, 0] rfl (hrec2 (x2 + 1))
      · refine r_iconst (pc := 41) O d_A_leadsOnlyToItself_41 ic_0 ?_
        exact r_zret (pc := 42) O rfl d_A_leadsOnlyToItself_42 nb_0
    refine r_iload_n (pc := 2) O d_A_leadsOnlyToItself_2 2 rfl ?_
    refine r_iconst (pc := 3) O d_A_leadsOnlyToItself_3 ic_3 ?_
    refine r_icmp_ge (tgt := 49) (pc := 4) O d_A_leadsOnlyToItself_4 (by decide) (fun q4 => ?_) (fun q4 => ?_)
    · refine r_iconst (pc := 49) O d_A_leadsOnlyToItself_49 ic_1 ?_
      exact r_zret (pc := 50) O rfl d_A_leadsOnlyToItself_50 nb_1
    · refine r_iload_n (pc := 7) O d_A_leadsOnlyToItself_7 2 rfl ?_
      refine r_iload_n (pc := 8) O d_A_leadsOnlyToItself_8 1 rfl ?_
      refine r_bipush (pc := 9) O d_A_leadsOnlyToItself_9 bc_64 ?_
      refine r_idiv (pc := 11) O d_A_leadsOnlyToItself_11 (by decide) ?_
      refine r_icmp_ne (tgt := 24) (pc := 12) O d_A_leadsOnlyToItself_12 (by decide) (fun q12 => ?_) (fun q12 => ?_)
      · refine r_lconst (pc := 24) O d_A_leadsOnlyToItself_24 lc_0 ?_
        exact (hK25 q 0)
      · refine r_lconst (pc := 15) O d_A_leadsOnlyToItself_15 lc_1 ?_
        refine r_iload_n (pc := 16) O d_A_leadsOnlyToItself_16 1 rfl ?_
        refine r_bipush (pc := 17) O d_A_leadsOnlyToItself_17 bc_64 ?_
        refine r_irem (pc := 19) O d_A_leadsOnlyToItself_19 (by decide) ?_
        refine r_lshl (pc := 20) O d_A_leadsOnlyToItself_20 ?_
        refine r_goto (pc := 21) O d_A_leadsOnlyToItself_21 (tgt := 25) (by decide) ?_
        exact (hK25 q (jLshl 1 (jRem p1 64)))
  refine r_iconst (pc := 0) O d_A_leadsOnlyToItself_0 ic_0 ?_
  refine r_istore_n (lv' := [(2, .int 0), (0, .ref 6), (1, .int p1)]) (pc := 1) O d_A_leadsOnlyToItself_1 rfl (by decide) rfl ?_
  exact r_lv [1, 2, 0] rfl (hL2 0)
def F_A_countStuck_4 (n : Nat) (h : sHp) (rec4 : Int32 × Int32 → Option Int32) (q : Int32 × Int32) : Option Int32 :=
  if (h.1 6 10) ≤ q.2 then (some q.1) else (sGd (sIn q.2 160) ((J_B_isOver n (h.2 35 (ix q.2)) h).bind fun v18 =>
  if v18 = 0 then ((J_A_leadsOnlyToItself n q.2 h).bind fun v26 =>
  if v26 = 0 then (rec4 (q.1, (q.2 + 1))) else (rec4 ((q.1 + 1), (q.2 + 1)))) else (rec4 (q.1, (q.2 + 1)))))
def J_A_countStuck (n : Nat)  (h : sHp) : Option Int32 :=
  sFx (F_A_countStuck_4 n h ) n (0, 0)
set_option maxRecDepth 20000 in
set_option maxHeartbeats 4000000 in
theorem R_A_countStuck (n : Nat)  (h : sHp) : sM Zc (sPi h) y_A_countStuck prog_2_method_17_code 3 (some .int) rm_A_countStuck [.ref 6] h (J_A_countStuck n  h) := by
  refine sM_of (own := "StoryStates$Atlas") rfl (by decide) (Nat.le_of_ble_eq_true rfl) (fun M V O => ?_)
  unfold J_A_countStuck
  refine r_lv (lv' := [(0, .ref 6)]) [0] rfl ?_
  have hL4 : ∀ (q : Int32 × Int32), sS Zc M V (sEb (sPi h)) 4 [(0, .ref 6), (1, .int q.1), (2, .int q.2)] [] h (sFx (F_A_countStuck_4 n h ) n q) := by
    skip
    refine r_fx (fun q => [(0, .ref 6), (1, .int q.1), (2, .int q.2)]) (fun q => h) (F_A_countStuck_4 n h ) (fun rec4 hrec4 q => ?_) n
    obtain ⟨qv0, qv1⟩ := q
    show sS Zc M V (sEb (sPi h)) 4 [(0, .ref 6), (1, .int qv0), (2, .int qv1)] [] h _
    unfold F_A_countStuck_4
    try dsimp only
    refine r_iload_n (pc := 4) O d_A_countStuck_4 2 rfl ?_
    refine r_aload_n (pc := 5) O d_A_countStuck_5 0 rfl ?_
    refine r_getI (x := (h.1 6 10)) (pc := 6) O gf_c_A_34_6 d_A_countStuck_6 rfl ?_
    refine r_icmp_ge (tgt := 41) (pc := 9) O d_A_countStuck_9 (by decide) (fun q9 => ?_) (fun q9 => ?_)
    · refine r_iload_n (pc := 41) O d_A_countStuck_41 1 rfl ?_
      exact r_iret (pc := 42) O rfl d_A_countStuck_42
    · refine r_aload_n (pc := 12) O d_A_countStuck_12 0 rfl ?_
      refine r_getR (pc := 13) O gf_c_A_15_6 d_A_countStuck_13 ?_
      refine r_iload_n (pc := 16) O d_A_countStuck_16 2 rfl ?_
      refine r_lald (x := (h.2 35 (ix qv1))) (pc := 17) O rfl d_A_countStuck_17 rfl ?_
      refine r_callSip (pc := 18) O [.long (h.2 35 (ix qv1))] (R_B_isOver n (h.2 35 (ix qv1)) h) cw_A_countStuck_18 wm_601 rfl (Nat.le_of_ble_eq_true rfl) d_A_countStuck_18 rfl (fun v18 => ?_)
      refine r_if_ne (tgt := 35) (pc := 21) O d_A_countStuck_21 (by decide) (fun q21 => ?_) (fun q21 => ?_)
      · refine r_iinc (lv' := [(2, .int (qv1 + 1)), (0, .ref 6), (1, .int qv0)]) (pc := 35) O d_A_countStuck_35 2 rfl (congrArg (HAdd.hAdd _) ic_1) (by decide) rfl ?_
        refine r_goto (pc := 38) O d_A_countStuck_38 (tgt := 4) (by decide) ?_
        exact r_lv [1, 2, 0] rfl (hrec4 (qv0, (qv1 + 1)))
      · refine r_aload_n (pc := 24) O d_A_countStuck_24 0 rfl ?_
        refine r_iload_n (pc := 25) O d_A_countStuck_25 2 rfl ?_
        refine r_callVip (pc := 26) O [.int qv1] rfl rfl (R_A_leadsOnlyToItself n qv1 h) cw_A_countStuck_26 wm_886 ws_A_leadsOnlyToItself rfl (Nat.le_of_ble_eq_true rfl) d_A_countStuck_26 rfl (fun v26 => ?_)
        refine r_if_eq (tgt := 35) (pc := 29) O d_A_countStuck_29 (by decide) (fun q29 => ?_) (fun q29 => ?_)
        · refine r_iinc (lv' := [(2, .int (qv1 + 1)), (0, .ref 6), (1, .int qv0)]) (pc := 35) O d_A_countStuck_35 2 rfl (congrArg (HAdd.hAdd _) ic_1) (by decide) rfl ?_
          refine r_goto (pc := 38) O d_A_countStuck_38 (tgt := 4) (by decide) ?_
          exact r_lv [1, 2, 0] rfl (hrec4 (qv0, (qv1 + 1)))
        · refine r_iinc (lv' := [(1, .int (qv0 + 1)), (0, .ref 6), (2, .int qv1)]) (pc := 32) O d_A_countStuck_32 1 rfl (congrArg (HAdd.hAdd _) ic_1) (by decide) rfl ?_
          refine r_iinc (lv' := [(2, .int (qv1 + 1)), (1, .int (qv0 + 1)), (0, .ref 6)]) (pc := 35) O d_A_countStuck_35 2 rfl (congrArg (HAdd.hAdd _) ic_1) (by decide) rfl ?_
          refine r_goto (pc := 38) O d_A_countStuck_38 (tgt := 4) (by decide) ?_
          exact r_lv [2, 1, 0] rfl (hrec4 ((qv0 + 1), (qv1 + 1)))
  refine r_iconst (pc := 0) O d_A_countStuck_0 ic_0 ?_
  refine r_istore_n (lv' := [(1, .int 0), (0, .ref 6)]) (pc := 1) O d_A_countStuck_1 rfl (by decide) rfl ?_
  refine r_iconst (pc := 2) O d_A_countStuck_2 ic_0 ?_
  refine r_istore_n (lv' := [(2, .int 0), (1, .int 0), (0, .ref 6)]) (pc := 3) O d_A_countStuck_3 rfl (by decide) rfl ?_
  exact r_lv [2, 1, 0] rfl (hL4 (0, 0))
def F_A_idleRule_5 (n : Nat) (p1 : Int32) (p2 : Int32) (h : sHp) (rec5 : Int32 × Int32 → Option Int32) (q : Int32 × Int32) : Option Int32 :=
  if p2 ≤ q.2 then (some (-1)) else (if ((jIshr (h.1 6 8) q.2) &&& 1) = 0 then (if q.1 = p1 then (some q.2) else (rec5 ((q.1 + 1), (q.2 + 1)))) else (rec5 (q.1, (q.2 + 1))))
def J_A_idleRule (n : Nat) (p1 : Int32) (p2 : Int32) (h : sHp) : Option Int32 :=
  sFx (F_A_idleRule_5 n p1 p2 h ) n (0, 0)
set_option maxRecDepth 20000 in
set_option maxHeartbeats 4000000 in
theorem R_A_idleRule (n : Nat) (p1 : Int32) (p2 : Int32) (h : sHp) : sM Zc (sPi h) y_A_idleRule prog_2_method_19_code 5 (some .int) rm_A_idleRule [.ref 6, .int p1, .int p2] h (J_A_idleRule n p1 p2 h) := by
  refine sM_of (own := "StoryStates$Atlas") rfl (by decide) (Nat.le_of_ble_eq_true rfl) (fun M V O => ?_)
  unfold J_A_idleRule
  refine r_lv (lv' := [(0, .ref 6), (1, .int p1), (2, .int p2)]) [0, 1, 2] rfl ?_
  have hL5 : ∀ (q : Int32 × Int32), sS Zc M V (sEb (sPi h)) 5 [(0, .ref 6), (1, .int p1), (2, .int p2), (3, .int q.1), (4, .int q.2)] [] h (sFx (F_A_idleRule_5 n p1 p2 h ) n q) := by
    skip
    refine r_fx (fun q => [(0, .ref 6), (1, .int p1), (2, .int p2), (3, .int q.1), (4, .int q.2)]) (fun q => h) (F_A_idleRule_5 n p1 p2 h ) (fun rec5 hrec5 q => ?_) n
    obtain ⟨qv0, qv1⟩ := q
    show sS Zc M V (sEb (sPi h)) 5 [(0, .ref 6), (1, .int p1), (2, .int p2), (3, .int qv0), (4, .int qv1)] [] h _
    unfold F_A_idleRule_5
    try dsimp only
    refine r_iload (pc := 5) O d_A_idleRule_5 4 rfl ?_
    refine r_iload_n (pc := 7) O d_A_idleRule_7 2 rfl ?_
    refine r_icmp_ge (tgt := 40) (pc := 8) O d_A_idleRule_8 (by decide) (fun q8 => ?_) (fun q8 => ?_)
    · refine r_iconst (pc := 40) O d_A_idleRule_40 ic_m1 ?_
      exact r_iret (pc := 41) O rfl d_A_idleRule_41
    · refine r_aload_n (pc := 11) O d_A_idleRule_11 0 rfl ?_
      refine r_getI (x := (h.1 6 8)) (pc := 12) O gf_c_A_45_6 d_A_idleRule_12 rfl ?_
      refine r_iload (pc := 15) O d_A_idleRule_15 4 rfl ?_
      refine r_ishr (pc := 17) O d_A_idleRule_17 ?_
      refine r_iconst (pc := 18) O d_A_idleRule_18 ic_1 ?_
      refine r_iand (pc := 19) O d_A_idleRule_19 ?_
      refine r_if_ne (tgt := 34) (pc := 20) O d_A_idleRule_20 (by decide) (fun q20 => ?_) (fun q20 => ?_)
      · refine r_iinc (lv' := [(4, .int (qv1 + 1)), (0, .ref 6), (1, .int p1), (2, .int p2), (3, .int qv0)]) (pc := 34) O d_A_idleRule_34 4 rfl (congrArg (HAdd.hAdd _) ic_1) (by decide) rfl ?_
        refine r_goto (pc := 37) O d_A_idleRule_37 (tgt := 5) (by decide) ?_
        exact r_lv [1, 2, 3, 4, 0] rfl (hrec5 (qv0, (qv1 + 1)))
      · refine r_iload_n (pc := 23) O d_A_idleRule_23 3 rfl ?_
        refine r_iload_n (pc := 24) O d_A_idleRule_24 1 rfl ?_
        refine r_icmp_ne (tgt := 31) (pc := 25) O d_A_idleRule_25 (by decide) (fun q25 => ?_) (fun q25 => ?_)
        · refine r_iinc (lv' := [(3, .int (qv0 + 1)), (0, .ref 6), (1, .int p1), (2, .int p2), (4, .int qv1)]) (pc := 31) O d_A_idleRule_31 3 rfl (congrArg (HAdd.hAdd _) ic_1) (by decide) rfl ?_
          refine r_iinc (lv' := [(4, .int (qv1 + 1)), (3, .int (qv0 + 1)), (0, .ref 6), (1, .int p1), (2, .int p2)]) (pc := 34) O d_A_idleRule_34 4 rfl (congrArg (HAdd.hAdd _) ic_1) (by decide) rfl ?_
          refine r_goto (pc := 37) O d_A_idleRule_37 (tgt := 5) (by decide) ?_
          exact r_lv [2, 3, 4, 1, 0] rfl (hrec5 ((qv0 + 1), (qv1 + 1)))
        · refine r_iload (pc := 28) O d_A_idleRule_28 4 rfl ?_
          exact r_iret (pc := 30) O rfl d_A_idleRule_30
  refine r_iconst (pc := 0) O d_A_idleRule_0 ic_0 ?_
  refine r_istore_n (lv' := [(3, .int 0), (0, .ref 6), (1, .int p1), (2, .int p2)]) (pc := 1) O d_A_idleRule_1 rfl (by decide) rfl ?_
  refine r_iconst (pc := 2) O d_A_idleRule_2 ic_0 ?_
  refine r_istore (lv' := [(4, .int 0), (3, .int 0), (0, .ref 6), (1, .int p1), (2, .int p2)]) (pc := 3) O d_A_idleRule_3 (by decide) rfl ?_
  exact r_lv [2, 3, 4, 1, 0] rfl (hL5 (0, 0))
def F_A_firstOverWith_2 (n : Nat) (p1 : Int32) (h : sHp) (rec2 : Int32 → Option Int32) (q : Int32) : Option Int32 :=
  if (h.1 6 10) ≤ q then (some (-1)) else (sGd (sIn q 160) ((J_B_endingOf n (h.2 35 (ix q)) h).bind fun v16 =>
  if v16 = p1 then (some q) else (rec2 (q + 1))))
def J_A_firstOverWith (n : Nat) (p1 : Int32) (h : sHp) : Option Int32 :=
  sFx (F_A_firstOverWith_2 n p1 h ) n 0
set_option maxRecDepth 20000 in
set_option maxHeartbeats 4000000 in
theorem R_A_firstOverWith (n : Nat) (p1 : Int32) (h : sHp) : sM Zc (sPi h) y_A_firstOverWith prog_2_method_20_code 3 (some .int) rm_A_firstOverWith [.ref 6, .int p1] h (J_A_firstOverWith n p1 h) := by
  refine sM_of (own := "StoryStates$Atlas") rfl (by decide) (Nat.le_of_ble_eq_true rfl) (fun M V O => ?_)
  unfold J_A_firstOverWith
  refine r_lv (lv' := [(0, .ref 6), (1, .int p1)]) [0, 1] rfl ?_
  have hL2 : ∀ (q : Int32), sS Zc M V (sEb (sPi h)) 2 [(0, .ref 6), (1, .int p1), (2, .int q)] [] h (sFx (F_A_firstOverWith_2 n p1 h ) n q) := by
    skip
    refine r_fx (fun q => [(0, .ref 6), (1, .int p1), (2, .int q)]) (fun q => h) (F_A_firstOverWith_2 n p1 h ) (fun rec2 hrec2 q => ?_) n
    skip
    show sS Zc M V (sEb (sPi h)) 2 [(0, .ref 6), (1, .int p1), (2, .int q)] [] h _
    unfold F_A_firstOverWith_2
    try dsimp only
    refine r_iload_n (pc := 2) O d_A_firstOverWith_2 2 rfl ?_
    refine r_aload_n (pc := 3) O d_A_firstOverWith_3 0 rfl ?_
    refine r_getI (x := (h.1 6 10)) (pc := 4) O gf_c_A_34_6 d_A_firstOverWith_4 rfl ?_
    refine r_icmp_ge (tgt := 31) (pc := 7) O d_A_firstOverWith_7 (by decide) (fun q7 => ?_) (fun q7 => ?_)
    · refine r_iconst (pc := 31) O d_A_firstOverWith_31 ic_m1 ?_
      exact r_iret (pc := 32) O rfl d_A_firstOverWith_32
    · refine r_aload_n (pc := 10) O d_A_firstOverWith_10 0 rfl ?_
      refine r_getR (pc := 11) O gf_c_A_15_6 d_A_firstOverWith_11 ?_
      refine r_iload_n (pc := 14) O d_A_firstOverWith_14 2 rfl ?_
      refine r_lald (x := (h.2 35 (ix q))) (pc := 15) O rfl d_A_firstOverWith_15 rfl ?_
      refine r_callSip (pc := 16) O [.long (h.2 35 (ix q))] (R_B_endingOf n (h.2 35 (ix q)) h) cw_A_firstOverWith_16 wm_604 rfl (Nat.le_of_ble_eq_true rfl) d_A_firstOverWith_16 rfl (fun v16 => ?_)
      refine r_iload_n (pc := 19) O d_A_firstOverWith_19 1 rfl ?_
      refine r_icmp_ne (tgt := 25) (pc := 20) O d_A_firstOverWith_20 (by decide) (fun q20 => ?_) (fun q20 => ?_)
      · refine r_iinc (lv' := [(2, .int (q + 1)), (0, .ref 6), (1, .int p1)]) (pc := 25) O d_A_firstOverWith_25 2 rfl (congrArg (HAdd.hAdd _) ic_1) (by decide) rfl ?_
        refine r_goto (pc := 28) O d_A_firstOverWith_28 (tgt := 2) (by decide) ?_
        exact r_lv [1, 2, 0] rfl (hrec2 (q + 1))
      · refine r_iload_n (pc := 23) O d_A_firstOverWith_23 2 rfl ?_
        exact r_iret (pc := 24) O rfl d_A_firstOverWith_24
  refine r_iconst (pc := 0) O d_A_firstOverWith_0 ic_0 ?_
  refine r_istore_n (lv' := [(2, .int 0), (0, .ref 6), (1, .int p1)]) (pc := 1) O d_A_firstOverWith_1 rfl (by decide) rfl ?_
  exact r_lv [1, 2, 0] rfl (hL2 0)
def F_A_depthOf_4 (n : Nat) (p1 : Int32) (h : sHp) (rec4 : Int32 × Int32 → Option Int32) (q : Int32 × Int32) : Option Int32 :=
  if q.2 ≤ 0 then (some q.1) else (if 160 ≤ q.1 then (some q.1) else (sGd (sIn q.2 160) (rec4 ((q.1 + 1), (h.1 36 (ix q.2))))))
def J_A_depthOf (n : Nat) (p1 : Int32) (h : sHp) : Option Int32 :=
  sFx (F_A_depthOf_4 n p1 h ) n (0, p1)
set_option maxRecDepth 20000 in
set_option maxHeartbeats 4000000 in
theorem R_A_depthOf (n : Nat) (p1 : Int32) (h : sHp) : sM Zc (sPi h) y_A_depthOf prog_2_method_21_code 4 (some .int) rm_A_depthOf [.ref 6, .int p1] h (J_A_depthOf n p1 h) := by
  refine sM_of (own := "StoryStates$Atlas") rfl (by decide) (Nat.le_of_ble_eq_true rfl) (fun M V O => ?_)
  unfold J_A_depthOf
  refine r_lv (lv' := [(0, .ref 6), (1, .int p1)]) [0, 1] rfl ?_
  have hL4 : ∀ (q : Int32 × Int32), sS Zc M V (sEb (sPi h)) 4 [(0, .ref 6), (2, .int q.1), (3, .int q.2)] [] h (sFx (F_A_depthOf_4 n p1 h ) n q) := by
    skip
    refine r_fx (fun q => [(0, .ref 6), (2, .int q.1), (3, .int q.2)]) (fun q => h) (F_A_depthOf_4 n p1 h ) (fun rec4 hrec4 q => ?_) n
    obtain ⟨qv0, qv1⟩ := q
    show sS Zc M V (sEb (sPi h)) 4 [(0, .ref 6), (2, .int qv0), (3, .int qv1)] [] h _
    unfold F_A_depthOf_4
    try dsimp only
    refine r_iload_n (pc := 4) O d_A_depthOf_4 2 rfl ?_
    refine r_if_le (tgt := 28) (pc := 5) O d_A_depthOf_5 (by decide) (fun q5 => ?_) (fun q5 => ?_)
    · refine r_iload_n (pc := 28) O d_A_depthOf_28 1 rfl ?_
      exact r_iret (pc := 29) O rfl d_A_depthOf_29
    · refine r_iload_n (pc := 8) O d_A_depthOf_8 1 rfl ?_
      refine r_sipush (pc := 9) O d_A_depthOf_9 sc_160 ?_
      refine r_icmp_ge (tgt := 28) (pc := 12) O d_A_depthOf_12 (by decide) (fun q12 => ?_) (fun q12 => ?_)
      · refine r_iload_n (pc := 28) O d_A_depthOf_28 1 rfl ?_
        exact r_iret (pc := 29) O rfl d_A_depthOf_29
      · refine r_iinc (lv' := [(2, .int (qv0 + 1)), (0, .ref 6), (3, .int qv1)]) (pc := 15) O d_A_depthOf_15 1 rfl (congrArg (HAdd.hAdd _) ic_1) (by decide) rfl ?_
        refine r_aload_n (pc := 18) O d_A_depthOf_18 1 rfl ?_
        refine r_getR (pc := 19) O gf_c_A_19_6 d_A_depthOf_19 ?_
        refine r_iload_n (pc := 22) O d_A_depthOf_22 2 rfl ?_
        refine r_iald (x := (h.1 36 (ix qv1))) (pc := 23) O rfl d_A_depthOf_23 rfl ?_
        refine r_istore_n (lv' := [(3, .int (h.1 36 (ix qv1))), (2, .int (qv0 + 1)), (0, .ref 6)]) (pc := 24) O d_A_depthOf_24 rfl (by decide) rfl ?_
        refine r_goto (pc := 25) O d_A_depthOf_25 (tgt := 4) (by decide) ?_
        exact r_lv [2, 1, 0] rfl (hrec4 ((qv0 + 1), (h.1 36 (ix qv1))))
  refine r_iconst (pc := 0) O d_A_depthOf_0 ic_0 ?_
  refine r_istore_n (lv' := [(2, .int 0), (0, .ref 6), (1, .int p1)]) (pc := 1) O d_A_depthOf_1 rfl (by decide) rfl ?_
  refine r_iload_n (pc := 2) O d_A_depthOf_2 2 rfl ?_
  refine r_istore_n (lv' := [(3, .int p1), (2, .int 0), (0, .ref 6), (1, .int p1)]) (pc := 3) O d_A_depthOf_3 rfl (by decide) rfl ?_
  exact r_lv [2, 1, 0] rfl (hL4 (0, p1))
def F_A_codeOnWay_11 (n : Nat) (p1 : Int32) (p2 : Int32) (h : sHp) (rec11 : Int32 × Int32 → Option Int32) (q : Int32 × Int32) : Option Int32 :=
  if q.2 ≤ p2 then (sGd (sIn q.1 160) (some (h.1 37 (ix q.1)))) else (sGd (sIn q.1 160) (rec11 ((h.1 36 (ix q.1)), (q.2 + (-1)))))
def J_A_codeOnWay (n : Nat) (p1 : Int32) (p2 : Int32) (h : sHp) : Option Int32 :=
  (J_A_depthOf n p1 h).bind fun v4 =>
  sFx (F_A_codeOnWay_11 n p1 p2 h ) n (p1, (v4 - 1))
set_option maxRecDepth 20000 in
set_option maxHeartbeats 4000000 in
theorem R_A_codeOnWay (n : Nat) (p1 : Int32) (p2 : Int32) (h : sHp) : sM Zc (sPi h) y_A_codeOnWay prog_2_method_22_code 5 (some .int) rm_A_codeOnWay [.ref 6, .int p1, .int p2] h (J_A_codeOnWay n p1 p2 h) := by
  refine sM_of (own := "StoryStates$Atlas") rfl (by decide) (Nat.le_of_ble_eq_true rfl) (fun M V O => ?_)
  unfold J_A_codeOnWay
  refine r_lv (lv' := [(0, .ref 6), (1, .int p1), (2, .int p2)]) [0, 1, 2] rfl ?_
  have hL11 : ∀ (q : Int32 × Int32), sS Zc M V (sEb (sPi h)) 11 [(0, .ref 6), (2, .int p2), (3, .int q.1), (4, .int q.2)] [] h (sFx (F_A_codeOnWay_11 n p1 p2 h ) n q) := by
    skip
    refine r_fx (fun q => [(0, .ref 6), (2, .int p2), (3, .int q.1), (4, .int q.2)]) (fun q => h) (F_A_codeOnWay_11 n p1 p2 h ) (fun rec11 hrec11 q => ?_) n
    obtain ⟨qv0, qv1⟩ := q
    show sS Zc M V (sEb (sPi h)) 11 [(0, .ref 6), (2, .int p2), (3, .int qv0), (4, .int qv1)] [] h _
    unfold F_A_codeOnWay_11
    try dsimp only
    refine r_iload (pc := 11) O d_A_codeOnWay_11 3 rfl ?_
    refine r_iload_n (pc := 13) O d_A_codeOnWay_13 1 rfl ?_
    refine r_icmp_le (tgt := 30) (pc := 14) O d_A_codeOnWay_14 (by decide) (fun q14 => ?_) (fun q14 => ?_)
    · refine r_aload_n (pc := 30) O d_A_codeOnWay_30 0 rfl ?_
      refine r_getR (pc := 31) O gf_c_A_22_6 d_A_codeOnWay_31 ?_
      refine r_iload_n (pc := 34) O d_A_codeOnWay_34 2 rfl ?_
      refine r_iald (x := (h.1 37 (ix qv0))) (pc := 35) O rfl d_A_codeOnWay_35 rfl ?_
      exact r_iret (pc := 36) O rfl d_A_codeOnWay_36
    · refine r_aload_n (pc := 17) O d_A_codeOnWay_17 0 rfl ?_
      refine r_getR (pc := 18) O gf_c_A_19_6 d_A_codeOnWay_18 ?_
      refine r_iload_n (pc := 21) O d_A_codeOnWay_21 2 rfl ?_
      refine r_iald (x := (h.1 36 (ix qv0))) (pc := 22) O rfl d_A_codeOnWay_22 rfl ?_
      refine r_istore_n (lv' := [(3, .int (h.1 36 (ix qv0))), (0, .ref 6), (2, .int p2), (4, .int qv1)]) (pc := 23) O d_A_codeOnWay_23 rfl (by decide) rfl ?_
      refine r_iinc (lv' := [(4, .int (qv1 + (-1))), (3, .int (h.1 36 (ix qv0))), (0, .ref 6), (2, .int p2)]) (pc := 24) O d_A_codeOnWay_24 3 rfl (congrArg (HAdd.hAdd _) ic_m1) (by decide) rfl ?_
      refine r_goto (pc := 27) O d_A_codeOnWay_27 (tgt := 11) (by decide) ?_
      exact r_lv [2, 3, 1, 0] rfl (hrec11 ((h.1 36 (ix qv0)), (qv1 + (-1))))
  refine r_iload_n (pc := 0) O d_A_codeOnWay_0 1 rfl ?_
  refine r_istore_n (lv' := [(3, .int p1), (0, .ref 6), (1, .int p1), (2, .int p2)]) (pc := 1) O d_A_codeOnWay_1 rfl (by decide) rfl ?_
  refine r_aload_n (pc := 2) O d_A_codeOnWay_2 1 rfl ?_
  refine r_iload_n (pc := 3) O d_A_codeOnWay_3 2 rfl ?_
  refine r_callVip (pc := 4) O [.int p1] rfl rfl (R_A_depthOf n p1 h) cw_A_codeOnWay_4 wm_846 wm_847 rfl (Nat.le_of_ble_eq_true rfl) d_A_codeOnWay_4 rfl (fun v4 => ?_)
  refine r_iconst (pc := 7) O d_A_codeOnWay_7 ic_1 ?_
  refine r_isub (pc := 8) O d_A_codeOnWay_8 ?_
  refine r_istore (lv' := [(4, .int (v4 - 1)), (3, .int p1), (0, .ref 6), (1, .int p1), (2, .int p2)]) (pc := 9) O d_A_codeOnWay_9 (by decide) rfl ?_
  exact r_lv [2, 4, 1, 0] rfl (hL11 (p1, (v4 - 1)))
end
section
def J_S_startPlay (n : Nat)  (h : sHp) : Option sHp :=
  (J_W_firstState n h).bind fun v9 =>
  some (pI (pI (pL h 7 (ix 0) v9) 0 5 0) 0 6 0)
set_option maxRecDepth 20000 in
set_option maxHeartbeats 4000000 in
theorem R_S_startPlay (n : Nat)  (h : sHp) : sM Zc sOv y_S_startPlay prog_1_method_24_code 1 none rm_S_startPlay [.ref 0] h (J_S_startPlay n  h) := by
  refine sM_of (own := "StoryStates") rfl (by decide) (Nat.le_of_ble_eq_true rfl) (fun M V O => ?_)
  unfold J_S_startPlay
  refine r_lv (lv' := [(0, .ref 0)]) [0] rfl ?_
  refine r_aload_n (pc := 0) O d_S_startPlay_0 0 rfl ?_
  refine r_getR (pc := 1) O gf_c_S_28_0 d_S_startPlay_1 ?_
  refine r_iconst (pc := 4) O d_S_startPlay_4 ic_0 ?_
  refine r_aload_n (pc := 5) O d_S_startPlay_5 0 rfl ?_
  refine r_getR (pc := 6) O gf_c_S_20_0 d_S_startPlay_6 ?_
  refine r_callVlp (pc := 9) O [] rfl rfl (R_W_firstState n  h) cw_S_startPlay_9 wm_284 wm_285 rfl (Nat.le_of_ble_eq_true rfl) d_S_startPlay_9 rfl (fun v9 => ?_)
  refine r_last_c (pc := 12) O rfl (sIn_iff.mp (by decide)) d_S_startPlay_12 ?_
  refine r_aload_n (pc := 13) O d_S_startPlay_13 0 rfl ?_
  refine r_iconst (pc := 14) O d_S_startPlay_14 ic_0 ?_
  refine r_putI (pc := 15) O pf_c_S_36_0 d_S_startPlay_15 ?_
  refine r_aload_n (pc := 18) O d_S_startPlay_18 0 rfl ?_
  refine r_iconst (pc := 19) O d_S_startPlay_19 ic_0 ?_
  refine r_putI (pc := 20) O pf_c_S_40_0 d_S_startPlay_20 ?_
  exact r_vret (pc := 23) O rfl d_S_startPlay_23
def J_S_startAnew (n : Nat)  (h : sHp) : Option sHp :=
  (J_S_startPlay n h).bind fun v1 =>
  (J_A_forget n v1).bind fun v8 =>
  some v8
set_option maxRecDepth 20000 in
set_option maxHeartbeats 4000000 in
theorem R_S_startAnew (n : Nat)  (h : sHp) : sM Zc sOv y_S_startAnew prog_1_method_23_code 1 none rm_S_startAnew [.ref 0] h (J_S_startAnew n  h) := by
  refine sM_of (own := "StoryStates") rfl (by decide) (Nat.le_of_ble_eq_true rfl) (fun M V O => ?_)
  unfold J_S_startAnew
  refine r_lv (lv' := [(0, .ref 0)]) [0] rfl ?_
  refine r_aload_n (pc := 0) O d_S_startAnew_0 0 rfl ?_
  refine r_callVv (pc := 1) O [] rfl rfl (R_S_startPlay n  h) cw_S_startAnew_1 wm_281 ws_S_startPlay rfl (Nat.le_of_ble_eq_true rfl) d_S_startAnew_1 rfl (fun v1 => ?_)
  refine r_aload_n (pc := 4) O d_S_startAnew_4 0 rfl ?_
  refine r_getR (pc := 5) O gf_c_S_24_0 d_S_startAnew_5 ?_
  refine r_callVv (pc := 8) O [] rfl rfl (R_A_forget n  v1) cw_S_startAnew_8 wm_304 wm_305 rfl (Nat.le_of_ble_eq_true rfl) d_S_startAnew_8 rfl (fun v8 => ?_)
  exact r_vret (pc := 11) O rfl d_S_startAnew_11
def J_S_hasAsked (n : Nat) (p1 : Int32) (p2 : Int32) (h : sHp) : Option Int32 :=
  if p1 = 1 then ((J_W_hasThing n p2 h).bind fun v53 =>
  sGd (jB v53) (some v53)) else (if p1 = 2 then ((J_W_hasThing n p2 h).bind fun v53 =>
  sGd (jB v53) (some v53)) else (if p1 = 3 then ((J_W_hasNumber n p2 h).bind fun v62 =>
  sGd (jB v62) (some v62)) else (if p1 = 4 then (some 1) else (if p1 = 5 then (some 1) else (if p1 = 6 then ((J_W_hasThing n p2 h).bind fun v53 =>
  sGd (jB v53) (some v53)) else (if p1 = 7 then ((J_S_isFrom n p2 0 ((h.1 2 17) - 1) h).bind fun v77 =>
  sGd (jB v77) (some v77)) else (if p1 = 8 then ((J_S_isFrom n p2 0 ((h.1 2 16) - 1) h).bind fun v92 =>
  sGd (jB v92) (some v92)) else (some 1))))))))
set_option maxRecDepth 20000 in
set_option maxHeartbeats 4000000 in
theorem R_S_hasAsked (n : Nat) (p1 : Int32) (p2 : Int32) (h : sHp) : sM Zc (sPi h) y_S_hasAsked prog_1_method_25_code 3 (some .boolean) rm_S_hasAsked [.ref 0, .int p1, .int p2] h (J_S_hasAsked n p1 p2 h) := by
  refine sM_of (own := "StoryStates") rfl (by decide) (Nat.le_of_ble_eq_true rfl) (fun M V O => ?_)
  unfold J_S_hasAsked
  refine r_lv (lv' := [(0, .ref 0), (1, .int p1), (2, .int p2)]) [0, 1, 2] rfl ?_
  refine r_iload_n (pc := 0) O d_S_hasAsked_0 1 rfl ?_
  refine r_ite (fun q1_0 => ?_) (fun q1_0 => ?_)
  · refine r_tin (tgt := 48) (pc := 1) O d_S_hasAsked_1 (by rw [q1_0]; decide) (by rw [q1_0]; decide) (by rw [q1_0]; rfl) (by decide) ?_
    refine r_aload_n (pc := 48) O d_S_hasAsked_48 0 rfl ?_
    refine r_getR (pc := 49) O gf_c_S_20_0 d_S_hasAsked_49 ?_
    refine r_iload_n (pc := 52) O d_S_hasAsked_52 2 rfl ?_
    refine r_callVip (pc := 53) O [.int p2] rfl rfl (R_W_hasThing n p2 h) cw_S_hasAsked_53 wm_415 wm_416 rfl (Nat.le_of_ble_eq_true rfl) d_S_hasAsked_53 rfl (fun v53 => ?_)
    exact r_zretg (pc := 56) O rfl d_S_hasAsked_56
  · refine r_ite (fun q1_1 => ?_) (fun q1_1 => ?_)
    · refine r_tin (tgt := 48) (pc := 1) O d_S_hasAsked_1 (by rw [q1_1]; decide) (by rw [q1_1]; decide) (by rw [q1_1]; rfl) (by decide) ?_
      refine r_aload_n (pc := 48) O d_S_hasAsked_48 0 rfl ?_
      refine r_getR (pc := 49) O gf_c_S_20_0 d_S_hasAsked_49 ?_
      refine r_iload_n (pc := 52) O d_S_hasAsked_52 2 rfl ?_
      refine r_callVip (pc := 53) O [.int p2] rfl rfl (R_W_hasThing n p2 h) cw_S_hasAsked_53 wm_415 wm_416 rfl (Nat.le_of_ble_eq_true rfl) d_S_hasAsked_53 rfl (fun v53 => ?_)
      exact r_zretg (pc := 56) O rfl d_S_hasAsked_56
    · refine r_ite (fun q1_2 => ?_) (fun q1_2 => ?_)
      · refine r_tin (tgt := 57) (pc := 1) O d_S_hasAsked_1 (by rw [q1_2]; decide) (by rw [q1_2]; decide) (by rw [q1_2]; rfl) (by decide) ?_
        refine r_aload_n (pc := 57) O d_S_hasAsked_57 0 rfl ?_
        refine r_getR (pc := 58) O gf_c_S_20_0 d_S_hasAsked_58 ?_
        refine r_iload_n (pc := 61) O d_S_hasAsked_61 2 rfl ?_
        refine r_callVip (pc := 62) O [.int p2] rfl rfl (R_W_hasNumber n p2 h) cw_S_hasAsked_62 wm_524 wm_525 rfl (Nat.le_of_ble_eq_true rfl) d_S_hasAsked_62 rfl (fun v62 => ?_)
        exact r_zretg (pc := 65) O rfl d_S_hasAsked_65
      · refine r_ite (fun q1_3 => ?_) (fun q1_3 => ?_)
        · refine r_tin (tgt := 96) (pc := 1) O d_S_hasAsked_1 (by rw [q1_3]; decide) (by rw [q1_3]; decide) (by rw [q1_3]; rfl) (by decide) ?_
          refine r_iconst (pc := 96) O d_S_hasAsked_96 ic_1 ?_
          exact r_zret (pc := 97) O rfl d_S_hasAsked_97 nb_1
        · refine r_ite (fun q1_4 => ?_) (fun q1_4 => ?_)
          · refine r_tin (tgt := 96) (pc := 1) O d_S_hasAsked_1 (by rw [q1_4]; decide) (by rw [q1_4]; decide) (by rw [q1_4]; rfl) (by decide) ?_
            refine r_iconst (pc := 96) O d_S_hasAsked_96 ic_1 ?_
            exact r_zret (pc := 97) O rfl d_S_hasAsked_97 nb_1
          · refine r_ite (fun q1_5 => ?_) (fun q1_5 => ?_)
            · refine r_tin (tgt := 48) (pc := 1) O d_S_hasAsked_1 (by rw [q1_5]; decide) (by rw [q1_5]; decide) (by rw [q1_5]; rfl) (by decide) ?_
              refine r_aload_n (pc := 48) O d_S_hasAsked_48 0 rfl ?_
              refine r_getR (pc := 49) O gf_c_S_20_0 d_S_hasAsked_49 ?_
              refine r_iload_n (pc := 52) O d_S_hasAsked_52 2 rfl ?_
              refine r_callVip (pc := 53) O [.int p2] rfl rfl (R_W_hasThing n p2 h) cw_S_hasAsked_53 wm_415 wm_416 rfl (Nat.le_of_ble_eq_true rfl) d_S_hasAsked_53 rfl (fun v53 => ?_)
              exact r_zretg (pc := 56) O rfl d_S_hasAsked_56
            · refine r_ite (fun q1_6 => ?_) (fun q1_6 => ?_)
              · refine r_tin (tgt := 66) (pc := 1) O d_S_hasAsked_1 (by rw [q1_6]; decide) (by rw [q1_6]; decide) (by rw [q1_6]; rfl) (by decide) ?_
                refine r_iload_n (pc := 66) O d_S_hasAsked_66 2 rfl ?_
                refine r_iconst (pc := 67) O d_S_hasAsked_67 ic_0 ?_
                refine r_aload_n (pc := 68) O d_S_hasAsked_68 0 rfl ?_
                refine r_getR (pc := 69) O gf_c_S_20_0 d_S_hasAsked_69 ?_
                refine r_getI (x := (h.1 2 17)) (pc := 72) O gf_c_S_161_2 d_S_hasAsked_72 rfl ?_
                refine r_iconst (pc := 75) O d_S_hasAsked_75 ic_1 ?_
                refine r_isub (pc := 76) O d_S_hasAsked_76 ?_
                refine r_callSip (pc := 77) O [.int p2, .int 0, .int ((h.1 2 17) - 1)] (R_S_isFrom n p2 0 ((h.1 2 17) - 1) h) cw_S_hasAsked_77 wm_312 rfl (Nat.le_of_ble_eq_true rfl) d_S_hasAsked_77 rfl (fun v77 => ?_)
                exact r_zretg (pc := 80) O rfl d_S_hasAsked_80
              · refine r_ite (fun q1_7 => ?_) (fun q1_7 => ?_)
                · refine r_tin (tgt := 81) (pc := 1) O d_S_hasAsked_1 (by rw [q1_7]; decide) (by rw [q1_7]; decide) (by rw [q1_7]; rfl) (by decide) ?_
                  refine r_iload_n (pc := 81) O d_S_hasAsked_81 2 rfl ?_
                  refine r_iconst (pc := 82) O d_S_hasAsked_82 ic_0 ?_
                  refine r_aload_n (pc := 83) O d_S_hasAsked_83 0 rfl ?_
                  refine r_getR (pc := 84) O gf_c_S_20_0 d_S_hasAsked_84 ?_
                  refine r_getI (x := (h.1 2 16)) (pc := 87) O gf_c_S_152_2 d_S_hasAsked_87 rfl ?_
                  refine r_iconst (pc := 90) O d_S_hasAsked_90 ic_1 ?_
                  refine r_isub (pc := 91) O d_S_hasAsked_91 ?_
                  refine r_callSip (pc := 92) O [.int p2, .int 0, .int ((h.1 2 16) - 1)] (R_S_isFrom n p2 0 ((h.1 2 16) - 1) h) cw_S_hasAsked_92 wm_312 rfl (Nat.le_of_ble_eq_true rfl) d_S_hasAsked_92 rfl (fun v92 => ?_)
                  exact r_zretg (pc := 95) O rfl d_S_hasAsked_95
                · refine r_tout (tgt := 96) (pc := 1) O d_S_hasAsked_1 (by have z0 := lv_neT (a := 1) q1_0 (by decide); have z1 := lv_neT (a := 2) q1_1 (by decide); have z2 := lv_neT (a := 3) q1_2 (by decide); have z3 := lv_neT (a := 4) q1_3 (by decide); have z4 := lv_neT (a := 5) q1_4 (by decide); have z5 := lv_neT (a := 6) q1_5 (by decide); have z6 := lv_neT (a := 7) q1_6 (by decide); have z7 := lv_neT (a := 8) q1_7 (by decide); omega) (by decide) ?_
                  refine r_iconst (pc := 96) O d_S_hasAsked_96 ic_1 ?_
                  exact r_zret (pc := 97) O rfl d_S_hasAsked_97 nb_1
def F_S_spoilingTurn_28 (n : Nat) (h : sHp) (rec28 : Int32 → Option Int32) (q : Int32) : Option Int32 :=
  if q < 0 then (some (-1)) else (sGd (sIn q 61) ((J_A_isHopeless n (h.2 7 (ix q)) h).bind fun v42 =>
  if v42 = 0 then (some q) else (rec28 (q + (-1)))))
def J_S_spoilingTurn (n : Nat)  (h : sHp) : Option Int32 :=
  sGd (sIn (h.1 0 5) 61) ((J_A_isHopeless n (h.2 7 (ix (h.1 0 5))) h).bind fun v13 =>
  if v13 = 0 then (some (-1)) else (sFx (F_S_spoilingTurn_28 n h ) n ((h.1 0 5) - 1)))
set_option maxRecDepth 20000 in
set_option maxHeartbeats 4000000 in
theorem R_S_spoilingTurn (n : Nat)  (h : sHp) : sM Zc (sPi h) y_S_spoilingTurn prog_1_method_22_code 2 (some .int) rm_S_spoilingTurn [.ref 0] h (J_S_spoilingTurn n  h) := by
  refine sM_of (own := "StoryStates") rfl (by decide) (Nat.le_of_ble_eq_true rfl) (fun M V O => ?_)
  unfold J_S_spoilingTurn
  refine r_lv (lv' := [(0, .ref 0)]) [0] rfl ?_
  have hL28 : ∀ (q : Int32), sS Zc M V (sEb (sPi h)) 28 [(0, .ref 0), (1, .int q)] [] h (sFx (F_S_spoilingTurn_28 n h ) n q) := by
    skip
    refine r_fx (fun q => [(0, .ref 0), (1, .int q)]) (fun q => h) (F_S_spoilingTurn_28 n h ) (fun rec28 hrec28 q => ?_) n
    skip
    show sS Zc M V (sEb (sPi h)) 28 [(0, .ref 0), (1, .int q)] [] h _
    unfold F_S_spoilingTurn_28
    try dsimp only
    refine r_iload_n (pc := 28) O d_S_spoilingTurn_28 1 rfl ?_
    refine r_if_lt (tgt := 56) (pc := 29) O d_S_spoilingTurn_29 (by decide) (fun q29 => ?_) (fun q29 => ?_)
    · refine r_iconst (pc := 56) O d_S_spoilingTurn_56 ic_m1 ?_
      exact r_iret (pc := 57) O rfl d_S_spoilingTurn_57
    · refine r_aload_n (pc := 32) O d_S_spoilingTurn_32 0 rfl ?_
      refine r_getR (pc := 33) O gf_c_S_24_0 d_S_spoilingTurn_33 ?_
      refine r_aload_n (pc := 36) O d_S_spoilingTurn_36 0 rfl ?_
      refine r_getR (pc := 37) O gf_c_S_28_0 d_S_spoilingTurn_37 ?_
      refine r_iload_n (pc := 40) O d_S_spoilingTurn_40 1 rfl ?_
      refine r_lald (x := (h.2 7 (ix q))) (pc := 41) O rfl d_S_spoilingTurn_41 rfl ?_
      refine r_callVip (pc := 42) O [.long (h.2 7 (ix q))] rfl rfl (R_A_isHopeless n (h.2 7 (ix q)) h) cw_S_spoilingTurn_42 wm_873 wm_874 rfl (Nat.le_of_ble_eq_true rfl) d_S_spoilingTurn_42 rfl (fun v42 => ?_)
      refine r_if_ne (tgt := 50) (pc := 45) O d_S_spoilingTurn_45 (by decide) (fun q45 => ?_) (fun q45 => ?_)
      · refine r_iinc (lv' := [(1, .int (q + (-1))), (0, .ref 0)]) (pc := 50) O d_S_spoilingTurn_50 1 rfl (congrArg (HAdd.hAdd _) ic_m1) (by decide) rfl ?_
        refine r_goto (pc := 53) O d_S_spoilingTurn_53 (tgt := 28) (by decide) ?_
        exact r_lv [1, 0] rfl (hrec28 (q + (-1)))
      · refine r_iload_n (pc := 48) O d_S_spoilingTurn_48 1 rfl ?_
        exact r_iret (pc := 49) O rfl d_S_spoilingTurn_49
  refine r_aload_n (pc := 0) O d_S_spoilingTurn_0 0 rfl ?_
  refine r_getR (pc := 1) O gf_c_S_24_0 d_S_spoilingTurn_1 ?_
  refine r_aload_n (pc := 4) O d_S_spoilingTurn_4 0 rfl ?_
  refine r_getR (pc := 5) O gf_c_S_28_0 d_S_spoilingTurn_5 ?_
  refine r_aload_n (pc := 8) O d_S_spoilingTurn_8 0 rfl ?_
  refine r_getI (x := (h.1 0 5)) (pc := 9) O gf_c_S_36_0 d_S_spoilingTurn_9 rfl ?_
  refine r_lald (x := (h.2 7 (ix (h.1 0 5)))) (pc := 12) O rfl d_S_spoilingTurn_12 rfl ?_
  refine r_callVip (pc := 13) O [.long (h.2 7 (ix (h.1 0 5)))] rfl rfl (R_A_isHopeless n (h.2 7 (ix (h.1 0 5))) h) cw_S_spoilingTurn_13 wm_873 wm_874 rfl (Nat.le_of_ble_eq_true rfl) d_S_spoilingTurn_13 rfl (fun v13 => ?_)
  refine r_if_ne (tgt := 21) (pc := 16) O d_S_spoilingTurn_16 (by decide) (fun q16 => ?_) (fun q16 => ?_)
  · refine r_aload_n (pc := 21) O d_S_spoilingTurn_21 0 rfl ?_
    refine r_getI (x := (h.1 0 5)) (pc := 22) O gf_c_S_36_0 d_S_spoilingTurn_22 rfl ?_
    refine r_iconst (pc := 25) O d_S_spoilingTurn_25 ic_1 ?_
    refine r_isub (pc := 26) O d_S_spoilingTurn_26 ?_
    refine r_istore_n (lv' := [(1, .int ((h.1 0 5) - 1)), (0, .ref 0)]) (pc := 27) O d_S_spoilingTurn_27 rfl (by decide) rfl ?_
    exact r_lv [1, 0] rfl (hL28 ((h.1 0 5) - 1))
  · refine r_iconst (pc := 19) O d_S_spoilingTurn_19 ic_m1 ?_
    exact r_iret (pc := 20) O rfl d_S_spoilingTurn_20
def K_S_isThingKind_11 (n : Nat) (p0 : Int32) (h : sHp) (t0 : Int32) : Option Int32 :=
  (J_S_isFrom n p0 0 7 h).bind fun v16 =>
  if v16 = 0 then (some 0) else (if t0 = 0 then (some 1) else (if (p0 &&& 2) = 0 then (some 0) else (some 1)))
def J_S_isThingKind (n : Nat) (p0 : Int32) (h : sHp) : Option Int32 :=
  if (p0 &&& 4) = 0 then (K_S_isThingKind_11 n p0 h 0) else (K_S_isThingKind_11 n p0 h 1)
set_option maxRecDepth 20000 in
set_option maxHeartbeats 4000000 in
theorem R_S_isThingKind (n : Nat) (p0 : Int32) (h : sHp) : sM Zc (sPi h) y_S_isThingKind prog_1_method_26_code 2 (some .boolean) rm_S_isThingKind [.int p0] h (J_S_isThingKind n p0 h) := by
  refine sM_of (own := "StoryStates") rfl (by decide) (Nat.le_of_ble_eq_true rfl) (fun M V O => ?_)
  unfold J_S_isThingKind
  refine r_lv (lv' := [(0, .int p0)]) [0] rfl ?_
  have hK11 : ∀ (t0 : Int32), sS Zc M V (sEb (sPi h)) 11 [(0, .int p0)] [.int t0] h (K_S_isThingKind_11 n p0 h t0) := by
    intro t0
    unfold K_S_isThingKind_11
    refine r_istore_n (lv' := [(1, .int t0), (0, .int p0)]) (pc := 11) O d_S_isThingKind_11 rfl (by decide) rfl ?_
    refine r_iload_n (pc := 12) O d_S_isThingKind_12 1 rfl ?_
    refine r_iconst (pc := 13) O d_S_isThingKind_13 ic_0 ?_
    refine r_bipush (pc := 14) O d_S_isThingKind_14 bc_7 ?_
    refine r_callSip (pc := 16) O [.int p0, .int 0, .int 7] (R_S_isFrom n p0 0 7 h) cw_S_isThingKind_16 wm_312 rfl (Nat.le_of_ble_eq_true rfl) d_S_isThingKind_16 rfl (fun v16 => ?_)
    refine r_if_eq (tgt := 36) (pc := 19) O d_S_isThingKind_19 (by decide) (fun q19 => ?_) (fun q19 => ?_)
    · refine r_iconst (pc := 36) O d_S_isThingKind_36 ic_0 ?_
      exact r_zret (pc := 37) O rfl d_S_isThingKind_37 nb_0
    · refine r_iload_n (pc := 22) O d_S_isThingKind_22 0 rfl ?_
      refine r_if_eq (tgt := 32) (pc := 23) O d_S_isThingKind_23 (by decide) (fun q23 => ?_) (fun q23 => ?_)
      · refine r_iconst (pc := 32) O d_S_isThingKind_32 ic_1 ?_
        refine r_goto (pc := 33) O d_S_isThingKind_33 (tgt := 37) (by decide) ?_
        exact r_zret (pc := 37) O rfl d_S_isThingKind_37 nb_1
      · refine r_iload_n (pc := 26) O d_S_isThingKind_26 1 rfl ?_
        refine r_iconst (pc := 27) O d_S_isThingKind_27 ic_2 ?_
        refine r_iand (pc := 28) O d_S_isThingKind_28 ?_
        refine r_if_eq (tgt := 36) (pc := 29) O d_S_isThingKind_29 (by decide) (fun q29 => ?_) (fun q29 => ?_)
        · refine r_iconst (pc := 36) O d_S_isThingKind_36 ic_0 ?_
          exact r_zret (pc := 37) O rfl d_S_isThingKind_37 nb_0
        · refine r_iconst (pc := 32) O d_S_isThingKind_32 ic_1 ?_
          refine r_goto (pc := 33) O d_S_isThingKind_33 (tgt := 37) (by decide) ?_
          exact r_zret (pc := 37) O rfl d_S_isThingKind_37 nb_1
  refine r_iload_n (pc := 0) O d_S_isThingKind_0 0 rfl ?_
  refine r_iconst (pc := 1) O d_S_isThingKind_1 ic_4 ?_
  refine r_iand (pc := 2) O d_S_isThingKind_2 ?_
  refine r_if_eq (tgt := 10) (pc := 3) O d_S_isThingKind_3 (by decide) (fun q3 => ?_) (fun q3 => ?_)
  · refine r_iconst (pc := 10) O d_S_isThingKind_10 ic_0 ?_
    exact (hK11 0)
  · refine r_iconst (pc := 6) O d_S_isThingKind_6 ic_1 ?_
    refine r_goto (pc := 7) O d_S_isThingKind_7 (tgt := 11) (by decide) ?_
    exact (hK11 1)
def J_S_isConditionLevel (n : Nat) (p0 : Int32) (p1 : Int32) (h : sHp) : Option Int32 :=
  if p0 = 2 then ((J_S_isFrom n p1 0 1 h).bind fun v31 =>
  sGd (jB v31) (some v31)) else (if p0 = 3 then ((J_S_isFrom n p1 0 7 h).bind fun v39 =>
  sGd (jB v39) (some v39)) else (if p0 = 4 then ((J_S_isFrom n p1 0 7 h).bind fun v39 =>
  sGd (jB v39) (some v39)) else (some 1)))
set_option maxRecDepth 20000 in
set_option maxHeartbeats 4000000 in
theorem R_S_isConditionLevel (n : Nat) (p0 : Int32) (p1 : Int32) (h : sHp) : sM Zc (sPi h) y_S_isConditionLevel prog_1_method_27_code 2 (some .boolean) rm_S_isConditionLevel [.int p0, .int p1] h (J_S_isConditionLevel n p0 p1 h) := by
  refine sM_of (own := "StoryStates") rfl (by decide) (Nat.le_of_ble_eq_true rfl) (fun M V O => ?_)
  unfold J_S_isConditionLevel
  refine r_lv (lv' := [(0, .int p0), (1, .int p1)]) [0, 1] rfl ?_
  refine r_iload_n (pc := 0) O d_S_isConditionLevel_0 0 rfl ?_
  refine r_ite (fun q1_0 => ?_) (fun q1_0 => ?_)
  · refine r_tin (tgt := 28) (pc := 1) O d_S_isConditionLevel_1 (by rw [q1_0]; decide) (by rw [q1_0]; decide) (by rw [q1_0]; rfl) (by decide) ?_
    refine r_iload_n (pc := 28) O d_S_isConditionLevel_28 1 rfl ?_
    refine r_iconst (pc := 29) O d_S_isConditionLevel_29 ic_0 ?_
    refine r_iconst (pc := 30) O d_S_isConditionLevel_30 ic_1 ?_
    refine r_callSip (pc := 31) O [.int p1, .int 0, .int 1] (R_S_isFrom n p1 0 1 h) cw_S_isConditionLevel_31 wm_312 rfl (Nat.le_of_ble_eq_true rfl) d_S_isConditionLevel_31 rfl (fun v31 => ?_)
    exact r_zretg (pc := 34) O rfl d_S_isConditionLevel_34
  · refine r_ite (fun q1_1 => ?_) (fun q1_1 => ?_)
    · refine r_tin (tgt := 35) (pc := 1) O d_S_isConditionLevel_1 (by rw [q1_1]; decide) (by rw [q1_1]; decide) (by rw [q1_1]; rfl) (by decide) ?_
      refine r_iload_n (pc := 35) O d_S_isConditionLevel_35 1 rfl ?_
      refine r_iconst (pc := 36) O d_S_isConditionLevel_36 ic_0 ?_
      refine r_bipush (pc := 37) O d_S_isConditionLevel_37 bc_7 ?_
      refine r_callSip (pc := 39) O [.int p1, .int 0, .int 7] (R_S_isFrom n p1 0 7 h) cw_S_isConditionLevel_39 wm_312 rfl (Nat.le_of_ble_eq_true rfl) d_S_isConditionLevel_39 rfl (fun v39 => ?_)
      exact r_zretg (pc := 42) O rfl d_S_isConditionLevel_42
    · refine r_ite (fun q1_2 => ?_) (fun q1_2 => ?_)
      · refine r_tin (tgt := 35) (pc := 1) O d_S_isConditionLevel_1 (by rw [q1_2]; decide) (by rw [q1_2]; decide) (by rw [q1_2]; rfl) (by decide) ?_
        refine r_iload_n (pc := 35) O d_S_isConditionLevel_35 1 rfl ?_
        refine r_iconst (pc := 36) O d_S_isConditionLevel_36 ic_0 ?_
        refine r_bipush (pc := 37) O d_S_isConditionLevel_37 bc_7 ?_
        refine r_callSip (pc := 39) O [.int p1, .int 0, .int 7] (R_S_isFrom n p1 0 7 h) cw_S_isConditionLevel_39 wm_312 rfl (Nat.le_of_ble_eq_true rfl) d_S_isConditionLevel_39 rfl (fun v39 => ?_)
        exact r_zretg (pc := 42) O rfl d_S_isConditionLevel_42
      · refine r_tout (tgt := 43) (pc := 1) O d_S_isConditionLevel_1 (by have z0 := lv_neT (a := 2) q1_0 (by decide); have z1 := lv_neT (a := 3) q1_1 (by decide); have z2 := lv_neT (a := 4) q1_2 (by decide); omega) (by decide) ?_
        refine r_iconst (pc := 43) O d_S_isConditionLevel_43 ic_1 ?_
        exact r_zret (pc := 44) O rfl d_S_isConditionLevel_44 nb_1
def J_S_isEffectLevel (n : Nat) (p0 : Int32) (p1 : Int32) (h : sHp) : Option Int32 :=
  if p0 = 2 then ((J_S_isFrom n p1 0 1 h).bind fun v31 =>
  sGd (jB v31) (some v31)) else (if p0 = 3 then ((J_S_isFrom n p1 (-7) 7 h).bind fun v40 =>
  sGd (jB v40) (some v40)) else (some 1))
set_option maxRecDepth 20000 in
set_option maxHeartbeats 4000000 in
theorem R_S_isEffectLevel (n : Nat) (p0 : Int32) (p1 : Int32) (h : sHp) : sM Zc (sPi h) y_S_isEffectLevel prog_1_method_28_code 2 (some .boolean) rm_S_isEffectLevel [.int p0, .int p1] h (J_S_isEffectLevel n p0 p1 h) := by
  refine sM_of (own := "StoryStates") rfl (by decide) (Nat.le_of_ble_eq_true rfl) (fun M V O => ?_)
  unfold J_S_isEffectLevel
  refine r_lv (lv' := [(0, .int p0), (1, .int p1)]) [0, 1] rfl ?_
  refine r_iload_n (pc := 0) O d_S_isEffectLevel_0 0 rfl ?_
  refine r_ite (fun q1_0 => ?_) (fun q1_0 => ?_)
  · refine r_look (tgt := 28) (pc := 1) O d_S_isEffectLevel_1 (by decide) (off := 27) (by rw [q1_0] <;> rfl) (by decide) ?_
    refine r_iload_n (pc := 28) O d_S_isEffectLevel_28 1 rfl ?_
    refine r_iconst (pc := 29) O d_S_isEffectLevel_29 ic_0 ?_
    refine r_iconst (pc := 30) O d_S_isEffectLevel_30 ic_1 ?_
    refine r_callSip (pc := 31) O [.int p1, .int 0, .int 1] (R_S_isFrom n p1 0 1 h) cw_S_isEffectLevel_31 wm_312 rfl (Nat.le_of_ble_eq_true rfl) d_S_isEffectLevel_31 rfl (fun v31 => ?_)
    exact r_zretg (pc := 34) O rfl d_S_isEffectLevel_34
  · refine r_ite (fun q1_1 => ?_) (fun q1_1 => ?_)
    · refine r_look (tgt := 35) (pc := 1) O d_S_isEffectLevel_1 (by decide) (off := 34) (by rw [q1_1] <;> rfl) (by decide) ?_
      refine r_iload_n (pc := 35) O d_S_isEffectLevel_35 1 rfl ?_
      refine r_bipush (pc := 36) O d_S_isEffectLevel_36 bc_m7 ?_
      refine r_bipush (pc := 38) O d_S_isEffectLevel_38 bc_7 ?_
      refine r_callSip (pc := 40) O [.int p1, .int (-7), .int 7] (R_S_isFrom n p1 (-7) 7 h) cw_S_isEffectLevel_40 wm_312 rfl (Nat.le_of_ble_eq_true rfl) d_S_isEffectLevel_40 rfl (fun v40 => ?_)
      exact r_zretg (pc := 43) O rfl d_S_isEffectLevel_43
    · refine r_look (tgt := 44) (pc := 1) O d_S_isEffectLevel_1 (by decide) (off := 43) (by show Op.lookupswitch.offset _ _ _ = _; rw [lv_osw (a := 2) q1_0 (by decide), lv_osw (a := 3) q1_1 (by decide)] <;> rfl) (by decide) ?_
      refine r_iconst (pc := 44) O d_S_isEffectLevel_44 ic_1 ?_
      exact r_zret (pc := 45) O rfl d_S_isEffectLevel_45 nb_1
def J_S_clear (n : Nat)  (h : sHp) : Option sHp :=
  (J_W_becomeEmpty n h).bind fun v4 =>
  (J_S_startAnew n v4).bind fun v8 =>
  some v8
set_option maxRecDepth 20000 in
set_option maxHeartbeats 4000000 in
theorem R_S_clear (n : Nat)  (h : sHp) : sM Zc sOv y_S_clear prog_1_method_2_code 1 none rm_S_clear [.ref 0] h (J_S_clear n  h) := by
  refine sM_of (own := "StoryStates") rfl (by decide) (Nat.le_of_ble_eq_true rfl) (fun M V O => ?_)
  unfold J_S_clear
  refine r_lv (lv' := [(0, .ref 0)]) [0] rfl ?_
  refine r_aload_n (pc := 0) O d_S_clear_0 0 rfl ?_
  refine r_getR (pc := 1) O gf_c_S_20_0 d_S_clear_1 ?_
  refine r_callVv (pc := 4) O [] rfl rfl (R_W_becomeEmpty n  h) cw_S_clear_4 wm_272 wm_273 rfl (Nat.le_of_ble_eq_true rfl) d_S_clear_4 rfl (fun v4 => ?_)
  refine r_aload_n (pc := 7) O d_S_clear_7 0 rfl ?_
  refine r_callVv (pc := 8) O [] rfl rfl (R_S_startAnew n  v4) cw_S_clear_8 wm_277 ws_S_startAnew rfl (Nat.le_of_ble_eq_true rfl) d_S_clear_8 rfl (fun v8 => ?_)
  exact r_vret (pc := 11) O rfl d_S_clear_11
def J_S_said (n : Nat) (p1 : Int32) (h : sHp) : Option Int32 :=
  (J_S_isFrom n p1 0 ((h.1 0 6) - 1) h).bind fun v8 =>
  if v8 = 0 then (some (-1)) else (sGd (sIn p1 3) (some (h.1 8 (ix p1))))
set_option maxRecDepth 20000 in
set_option maxHeartbeats 4000000 in
theorem R_S_said (n : Nat) (p1 : Int32) (h : sHp) : sM Zc (sPi h) y_S_said prog_1_method_15_code 2 (some .int) rm_S_said [.ref 0, .int p1] h (J_S_said n p1 h) := by
  refine sM_of (own := "StoryStates") rfl (by decide) (Nat.le_of_ble_eq_true rfl) (fun M V O => ?_)
  unfold J_S_said
  refine r_lv (lv' := [(0, .ref 0), (1, .int p1)]) [0, 1] rfl ?_
  refine r_iload_n (pc := 0) O d_S_said_0 1 rfl ?_
  refine r_iconst (pc := 1) O d_S_said_1 ic_0 ?_
  refine r_aload_n (pc := 2) O d_S_said_2 0 rfl ?_
  refine r_getI (x := (h.1 0 6)) (pc := 3) O gf_c_S_40_0 d_S_said_3 rfl ?_
  refine r_iconst (pc := 6) O d_S_said_6 ic_1 ?_
  refine r_isub (pc := 7) O d_S_said_7 ?_
  refine r_callSip (pc := 8) O [.int p1, .int 0, .int ((h.1 0 6) - 1)] (R_S_isFrom n p1 0 ((h.1 0 6) - 1) h) cw_S_said_8 wm_312 rfl (Nat.le_of_ble_eq_true rfl) d_S_said_8 rfl (fun v8 => ?_)
  refine r_if_eq (tgt := 23) (pc := 11) O d_S_said_11 (by decide) (fun q11 => ?_) (fun q11 => ?_)
  · refine r_iconst (pc := 23) O d_S_said_23 ic_m1 ?_
    exact r_iret (pc := 24) O rfl d_S_said_24
  · refine r_aload_n (pc := 14) O d_S_said_14 0 rfl ?_
    refine r_getR (pc := 15) O gf_c_S_32_0 d_S_said_15 ?_
    refine r_iload_n (pc := 18) O d_S_said_18 1 rfl ?_
    refine r_iald (x := (h.1 8 (ix p1))) (pc := 19) O rfl d_S_said_19 rfl ?_
    refine r_goto (pc := 20) O d_S_said_20 (tgt := 24) (by decide) ?_
    exact r_iret (pc := 24) O rfl d_S_said_24
def J_S_undo (n : Nat)  (h : sHp) : Option (Int32 × sHp) :=
  if (h.1 0 5) = 0 then (some (0, (pI h 0 6 0))) else (some (1, (pI (pI h 0 6 0) 0 5 ((h.1 0 5) - 1))))
set_option maxRecDepth 20000 in
set_option maxHeartbeats 4000000 in
theorem R_S_undo (n : Nat)  (h : sHp) : sM Zc sOi y_S_undo prog_1_method_16_code 1 (some .boolean) rm_S_undo [.ref 0] h (J_S_undo n  h) := by
  refine sM_of (own := "StoryStates") rfl (by decide) (Nat.le_of_ble_eq_true rfl) (fun M V O => ?_)
  unfold J_S_undo
  refine r_lv (lv' := [(0, .ref 0)]) [0] rfl ?_
  refine r_aload_n (pc := 0) O d_S_undo_0 0 rfl ?_
  refine r_iconst (pc := 1) O d_S_undo_1 ic_0 ?_
  refine r_putI (pc := 2) O pf_c_S_40_0 d_S_undo_2 ?_
  refine r_aload_n (pc := 5) O d_S_undo_5 0 rfl ?_
  refine r_getI (x := (h.1 0 5)) (pc := 6) O gf_c_S_36_0 d_S_undo_6 rfl ?_
  refine r_if_ne (tgt := 14) (pc := 9) O d_S_undo_9 (by decide) (fun q9 => ?_) (fun q9 => ?_)
  · refine r_aload_n (pc := 14) O d_S_undo_14 0 rfl ?_
    refine r_dup (pc := 15) O d_S_undo_15 rfl ?_
    refine r_getI (x := (h.1 0 5)) (pc := 16) O gf_c_S_36_0 d_S_undo_16 rfl ?_
    refine r_iconst (pc := 19) O d_S_undo_19 ic_1 ?_
    refine r_isub (pc := 20) O d_S_undo_20 ?_
    refine r_putI (pc := 21) O pf_c_S_36_0 d_S_undo_21 ?_
    refine r_iconst (pc := 24) O d_S_undo_24 ic_1 ?_
    exact r_zret (pc := 25) O rfl d_S_undo_25 nb_1
  · refine r_iconst (pc := 12) O d_S_undo_12 ic_0 ?_
    exact r_zret (pc := 13) O rfl d_S_undo_13 nb_0
end

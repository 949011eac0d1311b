-- ===== PART A: goes FIRST, ahead of the names: the tables' words, and 'selects' of the private methods out of them =====
/-- a private method of a class that the tables say can be made, by its rows of tables_1 -/
def lw_okq (q : MethodName × Nat) : Prop := (q.1.cls ≠ "java/lang/invoke/MethodHandle" ∧ q.1.cls ≠ "java/lang/invoke/VarHandle") ∧ Cond.instantiable q.1.cls q.2 ∈ tables_1 ∧ Cond.privateMethod q.1 ∈ tables_1 ∧ Cond.instanceMethod q.1 ∈ tables_1
theorem lw_p0 : lw_okq (⟨"BrokerTree", "linkBetween", "(II)LBrokerTree$Link;"⟩, 13) := ⟨⟨by decide +kernel, by decide +kernel⟩, List.mem_of_getElem? (i := 27) (by decide +kernel), List.mem_of_getElem? (i := 192) (by decide +kernel), List.mem_of_getElem? (i := 193) (by decide +kernel)⟩
theorem lw_p1 : lw_okq (⟨"BrokerTree", "firstBusyLink", "()LBrokerTree$Link;"⟩, 13) := ⟨⟨by decide +kernel, by decide +kernel⟩, List.mem_of_getElem? (i := 27) (by decide +kernel), List.mem_of_getElem? (i := 204) (by decide +kernel), List.mem_of_getElem? (i := 205) (by decide +kernel)⟩
theorem lw_p2 : lw_okq (⟨"BrokerTree", "takeFirst", "(LBrokerTree$Link;)I"⟩, 13) := ⟨⟨by decide +kernel, by decide +kernel⟩, List.mem_of_getElem? (i := 27) (by decide +kernel), List.mem_of_getElem? (i := 208) (by decide +kernel), List.mem_of_getElem? (i := 209) (by decide +kernel)⟩
theorem lw_p3 : lw_okq (⟨"BrokerTree", "handle", "(III)V"⟩, 13) := ⟨⟨by decide +kernel, by decide +kernel⟩, List.mem_of_getElem? (i := 27) (by decide +kernel), List.mem_of_getElem? (i := 216) (by decide +kernel), List.mem_of_getElem? (i := 217) (by decide +kernel)⟩
theorem lw_p4 : lw_okq (⟨"BrokerTree", "wants", "(ILBrokerTree$Note;)Z"⟩, 13) := ⟨⟨by decide +kernel, by decide +kernel⟩, List.mem_of_getElem? (i := 27) (by decide +kernel), List.mem_of_getElem? (i := 242) (by decide +kernel), List.mem_of_getElem? (i := 243) (by decide +kernel)⟩
theorem lw_p5 : lw_okq (⟨"BrokerTree$Queue", "grow", "()V"⟩, 3) := ⟨⟨by decide +kernel, by decide +kernel⟩, List.mem_of_getElem? (i := 106) (by decide +kernel), List.mem_of_getElem? (i := 265) (by decide +kernel), List.mem_of_getElem? (i := 266) (by decide +kernel)⟩
theorem lw_p6 : lw_okq (⟨"BrokerTree", "settle", "(I)V"⟩, 13) := ⟨⟨by decide +kernel, by decide +kernel⟩, List.mem_of_getElem? (i := 27) (by decide +kernel), List.mem_of_getElem? (i := 297) (by decide +kernel), List.mem_of_getElem? (i := 298) (by decide +kernel)⟩
theorem lw_p7 : lw_okq (⟨"BrokerTree", "gatherOffered", "(LBrokerTree$Link;)V"⟩, 13) := ⟨⟨by decide +kernel, by decide +kernel⟩, List.mem_of_getElem? (i := 27) (by decide +kernel), List.mem_of_getElem? (i := 301) (by decide +kernel), List.mem_of_getElem? (i := 302) (by decide +kernel)⟩
theorem lw_p8 : lw_okq (⟨"BrokerTree", "gatherNeed", "()V"⟩, 13) := ⟨⟨by decide +kernel, by decide +kernel⟩, List.mem_of_getElem? (i := 27) (by decide +kernel), List.mem_of_getElem? (i := 314) (by decide +kernel), List.mem_of_getElem? (i := 315) (by decide +kernel)⟩
theorem lw_p9 : lw_okq (⟨"BrokerTree", "tellNeeded", "(LBrokerTree$Link;)V"⟩, 13) := ⟨⟨by decide +kernel, by decide +kernel⟩, List.mem_of_getElem? (i := 27) (by decide +kernel), List.mem_of_getElem? (i := 328) (by decide +kernel), List.mem_of_getElem? (i := 329) (by decide +kernel)⟩
theorem lw_p10 : lw_okq (⟨"BrokerTree", "dropNotNeeded", "(LBrokerTree$Link;)V"⟩, 13) := ⟨⟨by decide +kernel, by decide +kernel⟩, List.mem_of_getElem? (i := 27) (by decide +kernel), List.mem_of_getElem? (i := 333) (by decide +kernel), List.mem_of_getElem? (i := 334) (by decide +kernel)⟩
theorem lw_p11 : lw_okq (⟨"BrokerTree$Filter", "addCondition", "([CII)Z"⟩, 3) := ⟨⟨by decide +kernel, by decide +kernel⟩, List.mem_of_getElem? (i := 360) (by decide +kernel), List.mem_of_getElem? (i := 399) (by decide +kernel), List.mem_of_getElem? (i := 400) (by decide +kernel)⟩
theorem lw_p12 : lw_okq (⟨"BrokerTree$Filter", "narrowWord", "(III)Z"⟩, 3) := ⟨⟨by decide +kernel, by decide +kernel⟩, List.mem_of_getElem? (i := 360) (by decide +kernel), List.mem_of_getElem? (i := 407) (by decide +kernel), List.mem_of_getElem? (i := 408) (by decide +kernel)⟩
theorem lw_p13 : lw_okq (⟨"BrokerTree$Filter", "tighten", "()V"⟩, 3) := ⟨⟨by decide +kernel, by decide +kernel⟩, List.mem_of_getElem? (i := 360) (by decide +kernel), List.mem_of_getElem? (i := 435) (by decide +kernel), List.mem_of_getElem? (i := 436) (by decide +kernel)⟩
theorem lw_p14 : lw_okq (⟨"java/lang/Throwable", "fillInStackTrace", "(I)Ljava/lang/Throwable;"⟩, 6) := ⟨⟨by decide +kernel, by decide +kernel⟩, List.mem_of_getElem? (i := 485) (by decide +kernel), List.mem_of_getElem? (i := 483) (by decide +kernel), List.mem_of_getElem? (i := 484) (by decide +kernel)⟩
theorem lw_p15 : lw_okq (⟨"BrokerTree$Filter", "isEmpty", "()Z"⟩, 3) := ⟨⟨by decide +kernel, by decide +kernel⟩, List.mem_of_getElem? (i := 360) (by decide +kernel), List.mem_of_getElem? (i := 533) (by decide +kernel), List.mem_of_getElem? (i := 534) (by decide +kernel)⟩
def lw_privs_1 : List (MethodName × Nat) := [(⟨"BrokerTree", "linkBetween", "(II)LBrokerTree$Link;"⟩, 13), (⟨"BrokerTree", "firstBusyLink", "()LBrokerTree$Link;"⟩, 13), (⟨"BrokerTree", "takeFirst", "(LBrokerTree$Link;)I"⟩, 13), (⟨"BrokerTree", "handle", "(III)V"⟩, 13), (⟨"BrokerTree", "wants", "(ILBrokerTree$Note;)Z"⟩, 13), (⟨"BrokerTree$Queue", "grow", "()V"⟩, 3), (⟨"BrokerTree", "settle", "(I)V"⟩, 13), (⟨"BrokerTree", "gatherOffered", "(LBrokerTree$Link;)V"⟩, 13), (⟨"BrokerTree", "gatherNeed", "()V"⟩, 13), (⟨"BrokerTree", "tellNeeded", "(LBrokerTree$Link;)V"⟩, 13), (⟨"BrokerTree", "dropNotNeeded", "(LBrokerTree$Link;)V"⟩, 13), (⟨"BrokerTree$Filter", "addCondition", "([CII)Z"⟩, 3), (⟨"BrokerTree$Filter", "narrowWord", "(III)Z"⟩, 3), (⟨"BrokerTree$Filter", "tighten", "()V"⟩, 3), (⟨"java/lang/Throwable", "fillInStackTrace", "(I)Ljava/lang/Throwable;"⟩, 6), (⟨"BrokerTree$Filter", "isEmpty", "()Z"⟩, 3)]
theorem lw_r1 : ∀ q ∈ lw_privs_1, lw_okq q := List.forall_mem_cons.mpr ⟨lw_p0, List.forall_mem_cons.mpr ⟨lw_p1, List.forall_mem_cons.mpr ⟨lw_p2, List.forall_mem_cons.mpr ⟨lw_p3, List.forall_mem_cons.mpr ⟨lw_p4, List.forall_mem_cons.mpr ⟨lw_p5, List.forall_mem_cons.mpr ⟨lw_p6, List.forall_mem_cons.mpr ⟨lw_p7, List.forall_mem_cons.mpr ⟨lw_p8, List.forall_mem_cons.mpr ⟨lw_p9, List.forall_mem_cons.mpr ⟨lw_p10, List.forall_mem_cons.mpr ⟨lw_p11, List.forall_mem_cons.mpr ⟨lw_p12, List.forall_mem_cons.mpr ⟨lw_p13, List.forall_mem_cons.mpr ⟨lw_p14, List.forall_mem_cons.mpr ⟨lw_p15, fun _ h => absurd h List.not_mem_nil⟩⟩⟩⟩⟩⟩⟩⟩⟩⟩⟩⟩⟩⟩⟩⟩
theorem lw_p16 : lw_okq (⟨"java/util/ArrayList", "add", "(Ljava/lang/Object;[Ljava/lang/Object;I)V"⟩, 3) := ⟨⟨by decide +kernel, by decide +kernel⟩, List.mem_of_getElem? (i := 45) (by decide +kernel), List.mem_of_getElem? (i := 549) (by decide +kernel), List.mem_of_getElem? (i := 550) (by decide +kernel)⟩
theorem lw_p17 : lw_okq (⟨"java/util/ArrayList", "grow", "()[Ljava/lang/Object;"⟩, 3) := ⟨⟨by decide +kernel, by decide +kernel⟩, List.mem_of_getElem? (i := 45) (by decide +kernel), List.mem_of_getElem? (i := 553) (by decide +kernel), List.mem_of_getElem? (i := 554) (by decide +kernel)⟩
theorem lw_p18 : lw_okq (⟨"java/util/ArrayList", "grow", "(I)[Ljava/lang/Object;"⟩, 3) := ⟨⟨by decide +kernel, by decide +kernel⟩, List.mem_of_getElem? (i := 45) (by decide +kernel), List.mem_of_getElem? (i := 557) (by decide +kernel), List.mem_of_getElem? (i := 558) (by decide +kernel)⟩
theorem lw_p19 : lw_okq (⟨"BrokerTreeModel", "reads", "(III)Z"⟩, 42) := ⟨⟨by decide +kernel, by decide +kernel⟩, List.mem_of_getElem? (i := 678) (by decide +kernel), List.mem_of_getElem? (i := 823) (by decide +kernel), List.mem_of_getElem? (i := 824) (by decide +kernel)⟩
theorem lw_p20 : lw_okq (⟨"BrokerTreeModel", "begin", "(I)V"⟩, 42) := ⟨⟨by decide +kernel, by decide +kernel⟩, List.mem_of_getElem? (i := 678) (by decide +kernel), List.mem_of_getElem? (i := 827) (by decide +kernel), List.mem_of_getElem? (i := 828) (by decide +kernel)⟩
theorem lw_p21 : lw_okq (⟨"BrokerTreeModel", "condition", "(III)I"⟩, 42) := ⟨⟨by decide +kernel, by decide +kernel⟩, List.mem_of_getElem? (i := 678) (by decide +kernel), List.mem_of_getElem? (i := 831) (by decide +kernel), List.mem_of_getElem? (i := 832) (by decide +kernel)⟩
theorem lw_p22 : lw_okq (⟨"BrokerTreeModel", "at", "(II)C"⟩, 42) := ⟨⟨by decide +kernel, by decide +kernel⟩, List.mem_of_getElem? (i := 678) (by decide +kernel), List.mem_of_getElem? (i := 835) (by decide +kernel), List.mem_of_getElem? (i := 836) (by decide +kernel)⟩
theorem lw_p23 : lw_okq (⟨"BrokerTreeModel", "lettersAt", "(II)I"⟩, 42) := ⟨⟨by decide +kernel, by decide +kernel⟩, List.mem_of_getElem? (i := 678) (by decide +kernel), List.mem_of_getElem? (i := 839) (by decide +kernel), List.mem_of_getElem? (i := 840) (by decide +kernel)⟩
theorem lw_p24 : lw_okq (⟨"BrokerTreeModel", "wordAt", "(II)I"⟩, 42) := ⟨⟨by decide +kernel, by decide +kernel⟩, List.mem_of_getElem? (i := 678) (by decide +kernel), List.mem_of_getElem? (i := 846) (by decide +kernel), List.mem_of_getElem? (i := 847) (by decide +kernel)⟩
theorem lw_p25 : lw_okq (⟨"BrokerTreeModel", "wordly", "(ICII)V"⟩, 42) := ⟨⟨by decide +kernel, by decide +kernel⟩, List.mem_of_getElem? (i := 678) (by decide +kernel), List.mem_of_getElem? (i := 850) (by decide +kernel), List.mem_of_getElem? (i := 851) (by decide +kernel)⟩
theorem lw_p26 : lw_okq (⟨"BrokerTreeModel", "bound", "(ICI)V"⟩, 42) := ⟨⟨by decide +kernel, by decide +kernel⟩, List.mem_of_getElem? (i := 678) (by decide +kernel), List.mem_of_getElem? (i := 860) (by decide +kernel), List.mem_of_getElem? (i := 861) (by decide +kernel)⟩
theorem lw_p27 : lw_okq (⟨"BrokerTreeModel", "settleBounds", "(I)V"⟩, 42) := ⟨⟨by decide +kernel, by decide +kernel⟩, List.mem_of_getElem? (i := 678) (by decide +kernel), List.mem_of_getElem? (i := 864) (by decide +kernel), List.mem_of_getElem? (i := 865) (by decide +kernel)⟩
theorem lw_p28 : lw_okq (⟨"BrokerTreeModel", "isOut", "(II)Z"⟩, 42) := ⟨⟨by decide +kernel, by decide +kernel⟩, List.mem_of_getElem? (i := 678) (by decide +kernel), List.mem_of_getElem? (i := 868) (by decide +kernel), List.mem_of_getElem? (i := 869) (by decide +kernel)⟩
theorem lw_p29 : lw_okq (⟨"BrokerTreeModel", "isWordOut", "(II)Z"⟩, 42) := ⟨⟨by decide +kernel, by decide +kernel⟩, List.mem_of_getElem? (i := 678) (by decide +kernel), List.mem_of_getElem? (i := 872) (by decide +kernel), List.mem_of_getElem? (i := 873) (by decide +kernel)⟩
theorem lw_p30 : lw_okq (⟨"BrokerTreeModel", "coversAll", "(II)Z"⟩, 42) := ⟨⟨by decide +kernel, by decide +kernel⟩, List.mem_of_getElem? (i := 678) (by decide +kernel), List.mem_of_getElem? (i := 876) (by decide +kernel), List.mem_of_getElem? (i := 877) (by decide +kernel)⟩
theorem lw_p31 : lw_okq (⟨"BrokerTreeModel", "coversNumber", "(II)Z"⟩, 42) := ⟨⟨by decide +kernel, by decide +kernel⟩, List.mem_of_getElem? (i := 678) (by decide +kernel), List.mem_of_getElem? (i := 880) (by decide +kernel), List.mem_of_getElem? (i := 881) (by decide +kernel)⟩
def lw_privs_2 : List (MethodName × Nat) := [(⟨"java/util/ArrayList", "add", "(Ljava/lang/Object;[Ljava/lang/Object;I)V"⟩, 3), (⟨"java/util/ArrayList", "grow", "()[Ljava/lang/Object;"⟩, 3), (⟨"java/util/ArrayList", "grow", "(I)[Ljava/lang/Object;"⟩, 3), (⟨"BrokerTreeModel", "reads", "(III)Z"⟩, 42), (⟨"BrokerTreeModel", "begin", "(I)V"⟩, 42), (⟨"BrokerTreeModel", "condition", "(III)I"⟩, 42), (⟨"BrokerTreeModel", "at", "(II)C"⟩, 42), (⟨"BrokerTreeModel", "lettersAt", "(II)I"⟩, 42), (⟨"BrokerTreeModel", "wordAt", "(II)I"⟩, 42), (⟨"BrokerTreeModel", "wordly", "(ICII)V"⟩, 42), (⟨"BrokerTreeModel", "bound", "(ICI)V"⟩, 42), (⟨"BrokerTreeModel", "settleBounds", "(I)V"⟩, 42), (⟨"BrokerTreeModel", "isOut", "(II)Z"⟩, 42), (⟨"BrokerTreeModel", "isWordOut", "(II)Z"⟩, 42), (⟨"BrokerTreeModel", "coversAll", "(II)Z"⟩, 42), (⟨"BrokerTreeModel", "coversNumber", "(II)Z"⟩, 42)]
theorem lw_r2 : ∀ q ∈ lw_privs_2, lw_okq q := List.forall_mem_cons.mpr ⟨lw_p16, List.forall_mem_cons.mpr ⟨lw_p17, List.forall_mem_cons.mpr ⟨lw_p18, List.forall_mem_cons.mpr ⟨lw_p19, List.forall_mem_cons.mpr ⟨lw_p20, List.forall_mem_cons.mpr ⟨lw_p21, List.forall_mem_cons.mpr ⟨lw_p22, List.forall_mem_cons.mpr ⟨lw_p23, List.forall_mem_cons.mpr ⟨lw_p24, List.forall_mem_cons.mpr ⟨lw_p25, List.forall_mem_cons.mpr ⟨lw_p26, List.forall_mem_cons.mpr ⟨lw_p27, List.forall_mem_cons.mpr ⟨lw_p28, List.forall_mem_cons.mpr ⟨lw_p29, List.forall_mem_cons.mpr ⟨lw_p30, List.forall_mem_cons.mpr ⟨lw_p31, fun _ h => absurd h List.not_mem_nil⟩⟩⟩⟩⟩⟩⟩⟩⟩⟩⟩⟩⟩⟩⟩⟩
theorem lw_p32 : lw_okq (⟨"BrokerTreeModel", "coversWord", "(II)Z"⟩, 42) := ⟨⟨by decide +kernel, by decide +kernel⟩, List.mem_of_getElem? (i := 678) (by decide +kernel), List.mem_of_getElem? (i := 884) (by decide +kernel), List.mem_of_getElem? (i := 885) (by decide +kernel)⟩
theorem lw_p33 : lw_okq (⟨"BrokerTreeModel", "fails", "(I)I"⟩, 42) := ⟨⟨by decide +kernel, by decide +kernel⟩, List.mem_of_getElem? (i := 678) (by decide +kernel), List.mem_of_getElem? (i := 895) (by decide +kernel), List.mem_of_getElem? (i := 896) (by decide +kernel)⟩
theorem lw_p34 : lw_okq (⟨"BrokerTreeModel", "settle", "(I)V"⟩, 42) := ⟨⟨by decide +kernel, by decide +kernel⟩, List.mem_of_getElem? (i := 678) (by decide +kernel), List.mem_of_getElem? (i := 899) (by decide +kernel), List.mem_of_getElem? (i := 900) (by decide +kernel)⟩
theorem lw_p35 : lw_okq (⟨"BrokerTreeModel", "need", "(II)V"⟩, 42) := ⟨⟨by decide +kernel, by decide +kernel⟩, List.mem_of_getElem? (i := 678) (by decide +kernel), List.mem_of_getElem? (i := 903) (by decide +kernel), List.mem_of_getElem? (i := 904) (by decide +kernel)⟩
theorem lw_p36 : lw_okq (⟨"BrokerTreeModel", "isHere", "(II)Z"⟩, 42) := ⟨⟨by decide +kernel, by decide +kernel⟩, List.mem_of_getElem? (i := 678) (by decide +kernel), List.mem_of_getElem? (i := 907) (by decide +kernel), List.mem_of_getElem? (i := 908) (by decide +kernel)⟩
theorem lw_p37 : lw_okq (⟨"BrokerTreeModel", "add", "(I)V"⟩, 42) := ⟨⟨by decide +kernel, by decide +kernel⟩, List.mem_of_getElem? (i := 678) (by decide +kernel), List.mem_of_getElem? (i := 911) (by decide +kernel), List.mem_of_getElem? (i := 912) (by decide +kernel)⟩
theorem lw_p38 : lw_okq (⟨"BrokerTreeModel", "isOver", "(II)Z"⟩, 42) := ⟨⟨by decide +kernel, by decide +kernel⟩, List.mem_of_getElem? (i := 678) (by decide +kernel), List.mem_of_getElem? (i := 915) (by decide +kernel), List.mem_of_getElem? (i := 916) (by decide +kernel)⟩
theorem lw_p39 : lw_okq (⟨"BrokerTreeModel", "tellAll", "(I)V"⟩, 42) := ⟨⟨by decide +kernel, by decide +kernel⟩, List.mem_of_getElem? (i := 678) (by decide +kernel), List.mem_of_getElem? (i := 919) (by decide +kernel), List.mem_of_getElem? (i := 920) (by decide +kernel)⟩
theorem lw_p40 : lw_okq (⟨"BrokerTreeModel", "isTold", "(II)Z"⟩, 42) := ⟨⟨by decide +kernel, by decide +kernel⟩, List.mem_of_getElem? (i := 678) (by decide +kernel), List.mem_of_getElem? (i := 923) (by decide +kernel), List.mem_of_getElem? (i := 924) (by decide +kernel)⟩
theorem lw_p41 : lw_okq (⟨"BrokerTreeModel", "alike", "(II)Z"⟩, 42) := ⟨⟨by decide +kernel, by decide +kernel⟩, List.mem_of_getElem? (i := 678) (by decide +kernel), List.mem_of_getElem? (i := 927) (by decide +kernel), List.mem_of_getElem? (i := 928) (by decide +kernel)⟩
theorem lw_p42 : lw_okq (⟨"BrokerTreeModel", "send", "(III)V"⟩, 42) := ⟨⟨by decide +kernel, by decide +kernel⟩, List.mem_of_getElem? (i := 678) (by decide +kernel), List.mem_of_getElem? (i := 931) (by decide +kernel), List.mem_of_getElem? (i := 932) (by decide +kernel)⟩
theorem lw_p43 : lw_okq (⟨"BrokerTreeModel", "isNeeded", "(I)Z"⟩, 42) := ⟨⟨by decide +kernel, by decide +kernel⟩, List.mem_of_getElem? (i := 678) (by decide +kernel), List.mem_of_getElem? (i := 935) (by decide +kernel), List.mem_of_getElem? (i := 936) (by decide +kernel)⟩
theorem lw_p44 : lw_okq (⟨"BrokerTreeModel", "handle", "(III)V"⟩, 42) := ⟨⟨by decide +kernel, by decide +kernel⟩, List.mem_of_getElem? (i := 678) (by decide +kernel), List.mem_of_getElem? (i := 947) (by decide +kernel), List.mem_of_getElem? (i := 948) (by decide +kernel)⟩
theorem lw_p45 : lw_okq (⟨"BrokerTreeModel", "matches", "(II)Z"⟩, 42) := ⟨⟨by decide +kernel, by decide +kernel⟩, List.mem_of_getElem? (i := 678) (by decide +kernel), List.mem_of_getElem? (i := 951) (by decide +kernel), List.mem_of_getElem? (i := 952) (by decide +kernel)⟩
theorem lw_p46 : lw_okq (⟨"BrokerTreeModel", "line", "(II)I"⟩, 42) := ⟨⟨by decide +kernel, by decide +kernel⟩, List.mem_of_getElem? (i := 678) (by decide +kernel), List.mem_of_getElem? (i := 959) (by decide +kernel), List.mem_of_getElem? (i := 960) (by decide +kernel)⟩
theorem lw_p47 : lw_okq (⟨"BrokerTreeModel", "taken", "(II)I"⟩, 42) := ⟨⟨by decide +kernel, by decide +kernel⟩, List.mem_of_getElem? (i := 678) (by decide +kernel), List.mem_of_getElem? (i := 966) (by decide +kernel), List.mem_of_getElem? (i := 967) (by decide +kernel)⟩
def lw_privs_3 : List (MethodName × Nat) := [(⟨"BrokerTreeModel", "coversWord", "(II)Z"⟩, 42), (⟨"BrokerTreeModel", "fails", "(I)I"⟩, 42), (⟨"BrokerTreeModel", "settle", "(I)V"⟩, 42), (⟨"BrokerTreeModel", "need", "(II)V"⟩, 42), (⟨"BrokerTreeModel", "isHere", "(II)Z"⟩, 42), (⟨"BrokerTreeModel", "add", "(I)V"⟩, 42), (⟨"BrokerTreeModel", "isOver", "(II)Z"⟩, 42), (⟨"BrokerTreeModel", "tellAll", "(I)V"⟩, 42), (⟨"BrokerTreeModel", "isTold", "(II)Z"⟩, 42), (⟨"BrokerTreeModel", "alike", "(II)Z"⟩, 42), (⟨"BrokerTreeModel", "send", "(III)V"⟩, 42), (⟨"BrokerTreeModel", "isNeeded", "(I)Z"⟩, 42), (⟨"BrokerTreeModel", "handle", "(III)V"⟩, 42), (⟨"BrokerTreeModel", "matches", "(II)Z"⟩, 42), (⟨"BrokerTreeModel", "line", "(II)I"⟩, 42), (⟨"BrokerTreeModel", "taken", "(II)I"⟩, 42)]
theorem lw_r3 : ∀ q ∈ lw_privs_3, lw_okq q := List.forall_mem_cons.mpr ⟨lw_p32, List.forall_mem_cons.mpr ⟨lw_p33, List.forall_mem_cons.mpr ⟨lw_p34, List.forall_mem_cons.mpr ⟨lw_p35, List.forall_mem_cons.mpr ⟨lw_p36, List.forall_mem_cons.mpr ⟨lw_p37, List.forall_mem_cons.mpr ⟨lw_p38, List.forall_mem_cons.mpr ⟨lw_p39, List.forall_mem_cons.mpr ⟨lw_p40, List.forall_mem_cons.mpr ⟨lw_p41, List.forall_mem_cons.mpr ⟨lw_p42, List.forall_mem_cons.mpr ⟨lw_p43, List.forall_mem_cons.mpr ⟨lw_p44, List.forall_mem_cons.mpr ⟨lw_p45, List.forall_mem_cons.mpr ⟨lw_p46, List.forall_mem_cons.mpr ⟨lw_p47, fun _ h => absurd h List.not_mem_nil⟩⟩⟩⟩⟩⟩⟩⟩⟩⟩⟩⟩⟩⟩⟩⟩
def lw_privs : List (MethodName × Nat) := lw_privs_1 ++ (lw_privs_2 ++ (lw_privs_3))
def lw_tbl : List Cond := k2_sels lw_privs ++ tables_1
theorem lw_privs_ok : ∀ q ∈ lw_privs, lw_okq q := by
  show ∀ q ∈ lw_privs_1 ++ (lw_privs_2 ++ (lw_privs_3)), lw_okq q
  exact List.forall_mem_append.mpr ⟨lw_r1, List.forall_mem_append.mpr ⟨lw_r2, lw_r3⟩⟩
abbrev x_M : Type := MethodName × ByteArray × Nat × Option FieldType
def tBT : u_T := fun k => match k with
  | 0 => ("BrokerTree", "draft", "[C", true)
  | 1 => ("BrokerTree", "draftSize", "I", false)
  | 2 => ("BrokerTree", "links", "[LBrokerTree$Link;", true)
  | 3 => ("BrokerTree", "inboxes", "[LBrokerTree$Queue;", true)
  | 4 => ("BrokerTree", "catalog", "LBrokerTree$Catalog;", true)
  | 5 => ("BrokerTree", "subscriber", "[I", true)
  | 6 => ("BrokerTree", "wanted", "[I", true)
  | 7 => ("BrokerTree", "ended", "[Z", true)
  | 8 => ("BrokerTree", "subscriptions", "I", false)
  | 9 => ("BrokerTree", "notes", "Ljava/util/ArrayList;", true)
  | 10 => ("BrokerTree", "counted", "[I", true)
  | 11 => ("BrokerTree", "offered", "LBrokerTree$Row;", true)
  | _ => ("BrokerTree", "need", "LBrokerTree$Row;", true)
def tyBT : Nat → FieldType := fun k => match k with
  | 0 => .array (.char)
  | 1 => .int
  | 2 => .array (.object "BrokerTree$Link")
  | 3 => .array (.object "BrokerTree$Queue")
  | 4 => .object "BrokerTree$Catalog"
  | 5 => .array (.int)
  | 6 => .array (.int)
  | 7 => .array (.boolean)
  | 8 => .int
  | 9 => .object "java/util/ArrayList"
  | 10 => .array (.int)
  | 11 => .object "BrokerTree$Row"
  | _ => .object "BrokerTree$Row"
def tCA : u_T := fun k => match k with
  | 0 => ("BrokerTree$Catalog", "known", "Ljava/util/ArrayList;", true)
  | _ => ("BrokerTree$Catalog", "coverers", "[I", true)
def tyCA : Nat → FieldType := fun k => match k with
  | 0 => .object "java/util/ArrayList"
  | _ => .array (.int)
def tFI : u_T := fun k => match k with
  | 0 => ("BrokerTree$Filter", "a", "LBrokerTree$Span;", true)
  | 1 => ("BrokerTree$Filter", "b", "LBrokerTree$Span;", true)
  | _ => ("BrokerTree$Filter", "c", "LBrokerTree$Span;", true)
def tyFI : Nat → FieldType := fun k => match k with
  | 0 => .object "BrokerTree$Span"
  | 1 => .object "BrokerTree$Span"
  | _ => .object "BrokerTree$Span"
def tLI : u_T := fun k => match k with
  | 0 => ("BrokerTree$Link", "from", "I", true)
  | 1 => ("BrokerTree$Link", "to", "I", true)
  | 2 => ("BrokerTree$Link", "told", "LBrokerTree$Row;", true)
  | 3 => ("BrokerTree$Link", "heard", "LBrokerTree$Row;", true)
  | _ => ("BrokerTree$Link", "line", "LBrokerTree$Queue;", true)
def tyLI : Nat → FieldType := fun k => match k with
  | 0 => .int
  | 1 => .int
  | 2 => .object "BrokerTree$Row"
  | 3 => .object "BrokerTree$Row"
  | _ => .object "BrokerTree$Queue"
def tNO : u_T := fun k => match k with
  | 0 => ("BrokerTree$Note", "a", "I", true)
  | 1 => ("BrokerTree$Note", "b", "I", true)
  | _ => ("BrokerTree$Note", "c", "I", true)
def tyNO : Nat → FieldType := fun k => match k with
  | 0 => .int
  | 1 => .int
  | _ => .int
def tQU : u_T := fun k => match k with
  | 0 => ("BrokerTree$Queue", "items", "[I", false)
  | 1 => ("BrokerTree$Queue", "first", "I", false)
  | _ => ("BrokerTree$Queue", "size", "I", false)
def tyQU : Nat → FieldType := fun k => match k with
  | 0 => .array (.int)
  | 1 => .int
  | _ => .int
def tRO : u_T := fun k => match k with
  | 0 => ("BrokerTree$Row", "items", "[I", true)
  | 1 => ("BrokerTree$Row", "size", "I", false)
  | _ => ("BrokerTree$Row", "members", "I", false)
def tyRO : Nat → FieldType := fun k => match k with
  | 0 => .array (.int)
  | 1 => .int
  | _ => .int
def tSP : u_T := fun k => match k with
  | 0 => ("BrokerTree$Span", "least", "I", false)
  | 1 => ("BrokerTree$Span", "most", "I", false)
  | 2 => ("BrokerTree$Span", "excluded", "[I", true)
  | _ => ("BrokerTree$Span", "exclusions", "I", false)
def tySP : Nat → FieldType := fun k => match k with
  | 0 => .int
  | 1 => .int
  | 2 => .array (.int)
  | _ => .int
def tMO : u_T := fun k => match k with
  | 0 => ("BrokerTreeModel", "fault", "I", false)
  | 1 => ("BrokerTreeModel", "text", "[C", true)
  | 2 => ("BrokerTreeModel", "written", "I", false)
  | 3 => ("BrokerTreeModel", "lineOf", "[I", true)
  | 4 => ("BrokerTreeModel", "lines", "I", false)
  | 5 => ("BrokerTreeModel", "low", "[I", true)
  | 6 => ("BrokerTreeModel", "high", "[I", true)
  | 7 => ("BrokerTreeModel", "outs", "[I", true)
  | 8 => ("BrokerTreeModel", "out", "[I", true)
  | 9 => ("BrokerTreeModel", "word", "[I", true)
  | 10 => ("BrokerTreeModel", "letters", "[I", true)
  | 11 => ("BrokerTreeModel", "wordOuts", "[I", true)
  | 12 => ("BrokerTreeModel", "wordOut", "[I", true)
  | 13 => ("BrokerTreeModel", "has", "[Z", true)
  | 14 => ("BrokerTreeModel", "hasWord", "[Z", true)
  | 15 => ("BrokerTreeModel", "whole", "[Z", true)
  | 16 => ("BrokerTreeModel", "empty", "[Z", true)
  | 17 => ("BrokerTreeModel", "over", "[Z", true)
  | 18 => ("BrokerTreeModel", "subs", "I", false)
  | 19 => ("BrokerTreeModel", "client", "[I", true)
  | 20 => ("BrokerTreeModel", "ended", "[Z", true)
  | 21 => ("BrokerTreeModel", "toldMany", "[I", true)
  | 22 => ("BrokerTreeModel", "told", "[I", true)
  | 23 => ("BrokerTreeModel", "heardMany", "[I", true)
  | 24 => ("BrokerTreeModel", "heard", "[I", true)
  | 25 => ("BrokerTreeModel", "front", "[I", true)
  | 26 => ("BrokerTreeModel", "back", "[I", true)
  | 27 => ("BrokerTreeModel", "message", "[I", true)
  | 28 => ("BrokerTreeModel", "row", "[I", true)
  | 29 => ("BrokerTreeModel", "rows", "I", false)
  | 30 => ("BrokerTreeModel", "kept", "[Z", true)
  | 31 => ("BrokerTreeModel", "notes", "I", false)
  | 32 => ("BrokerTreeModel", "noted", "I", false)
  | 33 => ("BrokerTreeModel", "brought", "I", false)
  | 34 => ("BrokerTreeModel", "tells", "I", false)
  | 35 => ("BrokerTreeModel", "drops", "I", false)
  | 36 => ("BrokerTreeModel", "noteA", "[I", true)
  | 37 => ("BrokerTreeModel", "noteB", "[I", true)
  | 38 => ("BrokerTreeModel", "noteC", "[I", true)
  | 39 => ("BrokerTreeModel", "first", "[I", true)
  | 40 => ("BrokerTreeModel", "last", "[I", true)
  | _ => ("BrokerTreeModel", "inbox", "[I", true)
def tyMO : Nat → FieldType := fun k => match k with
  | 0 => .int
  | 1 => .array (.char)
  | 2 => .int
  | 3 => .array (.int)
  | 4 => .int
  | 5 => .array (.int)
  | 6 => .array (.int)
  | 7 => .array (.int)
  | 8 => .array (.int)
  | 9 => .array (.int)
  | 10 => .array (.int)
  | 11 => .array (.int)
  | 12 => .array (.int)
  | 13 => .array (.boolean)
  | 14 => .array (.boolean)
  | 15 => .array (.boolean)
  | 16 => .array (.boolean)
  | 17 => .array (.boolean)
  | 18 => .int
  | 19 => .array (.int)
  | 20 => .array (.boolean)
  | 21 => .array (.int)
  | 22 => .array (.int)
  | 23 => .array (.int)
  | 24 => .array (.int)
  | 25 => .array (.int)
  | 26 => .array (.int)
  | 27 => .array (.int)
  | 28 => .array (.int)
  | 29 => .int
  | 30 => .array (.boolean)
  | 31 => .int
  | 32 => .int
  | 33 => .int
  | 34 => .int
  | 35 => .int
  | 36 => .array (.int)
  | 37 => .array (.int)
  | 38 => .array (.int)
  | 39 => .array (.int)
  | 40 => .array (.int)
  | _ => .array (.int)
def tAL : u_T := fun k => match k with
  | 0 => ("java/util/ArrayList", "elementData", "[Ljava/lang/Object;", false)
  | 1 => ("java/util/ArrayList", "size", "I", false)
  | _ => ("java/util/AbstractList", "modCount", "I", false)
def tyAL : Nat → FieldType := fun k => match k with
  | 0 => .array (.object "java/lang/Object")
  | 1 => .int
  | _ => .int
def tEX : u_T := fun _ => ("", "", "", false)
def xcl : List vw_C := [("BrokerTree", tBT, 13), ("BrokerTree$Catalog", tCA, 2), ("BrokerTree$Filter", tFI, 3), ("BrokerTree$Link", tLI, 5), ("BrokerTree$Note", tNO, 3), ("BrokerTree$Queue", tQU, 3), ("BrokerTree$Row", tRO, 3), ("BrokerTree$Span", tSP, 4), ("BrokerTreeModel", tMO, 42), ("java/util/ArrayList", tAL, 3), ("java/lang/IllegalArgumentException", tEX, 0), ("java/lang/IllegalStateException", tEX, 0), ("java/util/NoSuchElementException", tEX, 0)]
def x_tys (dT : Nat → ClassId) : List (ClassId × FieldType) := [(dT 0, .int), (dT 1, .boolean), (dT 2, .char), (dT 3, .long), (dT 4, .object "BrokerTree$Link"), (dT 5, .object "BrokerTree$Queue"), (dT 6, .object "java/lang/Object")]
def xWS : List Cond := lw_tbl.filter goodWord
theorem xWS_good : ∀ w ∈ xWS, (w.onTables && w.keeps) = true ∨ ∃ ty, w = .arrayClass ty := fun w hw => good_of_word (List.mem_filter.mp hw).2
def xNW : List Cond := [(Jvm.Cond.arrayOver (Jvm.ClassFile.FieldType.object "BrokerTree$Link")),
  (Jvm.Cond.arrayOver (Jvm.ClassFile.FieldType.object "BrokerTree$Queue")),
  (Jvm.Cond.methodLinkNest "BrokerTree" (29 : Nat) ({ cls := "BrokerTree$Catalog", name := "<init>", desc := "()V" } : Jvm.MethodName) "BrokerTree"),
  (Jvm.Cond.methodLinkNest "BrokerTree" (57 : Nat) ({ cls := "BrokerTree$Row", name := "<init>", desc := "()V" } : Jvm.MethodName) "BrokerTree"),
  (Jvm.Cond.methodLinkNest "BrokerTree$Link" (9 : Nat) ({ cls := "BrokerTree$Row", name := "<init>", desc := "()V" } : Jvm.MethodName) "BrokerTree"),
  (Jvm.Cond.methodLinkNest "BrokerTree$Link" (21 : Nat) ({ cls := "BrokerTree$Queue", name := "<init>", desc := "()V" } : Jvm.MethodName) "BrokerTree"),
  (Jvm.Cond.methodLinkNest "BrokerTree" (68 : Nat) ({ cls := "BrokerTree$Queue", name := "<init>", desc := "()V" } : Jvm.MethodName) "BrokerTree"),
  (Jvm.Cond.castable "java/lang/IllegalArgumentException" "java/lang/IllegalArgumentException"),
  (Jvm.Cond.declares ({ cls := "java/lang/RuntimeException", name := "<init>", desc := "()V" } : Jvm.MethodName)),
  (Jvm.Cond.declares ({ cls := "java/lang/RuntimeException", name := "<init>", desc := "(Ljava/lang/String;)V" } : Jvm.MethodName)),
  (Jvm.Cond.declares ({ cls := "java/lang/Exception", name := "<init>", desc := "()V" } : Jvm.MethodName)),
  (Jvm.Cond.declares ({ cls := "java/lang/Exception", name := "<init>", desc := "(Ljava/lang/String;)V" } : Jvm.MethodName)),
  (Jvm.Cond.declares ({ cls := "java/lang/Throwable", name := "<init>", desc := "()V" } : Jvm.MethodName)),
  (Jvm.Cond.declares ({ cls := "java/lang/Throwable", name := "<init>", desc := "(Ljava/lang/String;)V" } : Jvm.MethodName)),
  (Jvm.Cond.castable "java/lang/IllegalStateException" "java/lang/IllegalStateException"),
  (Jvm.Cond.arrayOver (Jvm.ClassFile.FieldType.object "java/lang/Object")),
  (Jvm.Cond.castable "java/util/NoSuchElementException" "java/util/NoSuchElementException"),
  (Jvm.Cond.castable "BrokerTree$Note" "BrokerTree$Note"),
  (Jvm.Cond.castable "BrokerTree$Filter" "BrokerTree$Filter"),
  (Jvm.Cond.declares ({ cls := "java/lang/Object", name := "getClass", desc := "()Ljava/lang/Class;" } : Jvm.MethodName)),
  (Jvm.Cond.castable "BrokerTree" "java/lang/Object"),
  (Jvm.Cond.castable "BrokerTree$Catalog" "java/lang/Object"),
  (Jvm.Cond.castable "BrokerTree$Row" "java/lang/Object"),
  (Jvm.Cond.castable "BrokerTree$Link" "java/lang/Object"),
  (Jvm.Cond.castable "BrokerTree$Queue" "java/lang/Object"),
  (Jvm.Cond.castable "BrokerTreeModel" "java/lang/Object"),
  (Jvm.Cond.castable "BrokerTree$Filter" "java/lang/Object"),
  (Jvm.Cond.castable "BrokerTree$Span" "java/lang/Object"),
  (Jvm.Cond.castable "BrokerTree$Note" "java/lang/Object")]
theorem xNW_in : ∀ w ∈ xNW, w ∈ tables_1 := by
  unfold xNW
  exact List.forall_mem_cons.mpr ⟨List.mem_of_getElem? (i := 35) (by decide +kernel), List.forall_mem_cons.mpr ⟨List.mem_of_getElem? (i := 37) (by decide +kernel), List.forall_mem_cons.mpr ⟨List.mem_of_getElem? (i := 40) (by decide +kernel), List.forall_mem_cons.mpr ⟨List.mem_of_getElem? (i := 83) (by decide +kernel), List.forall_mem_cons.mpr ⟨List.mem_of_getElem? (i := 104) (by decide +kernel), List.forall_mem_cons.mpr ⟨List.mem_of_getElem? (i := 107) (by decide +kernel), List.forall_mem_cons.mpr ⟨List.mem_of_getElem? (i := 142) (by decide +kernel), List.forall_mem_cons.mpr ⟨List.mem_of_getElem? (i := 448) (by decide +kernel), List.forall_mem_cons.mpr ⟨List.mem_of_getElem? (i := 449) (by decide +kernel), List.forall_mem_cons.mpr ⟨List.mem_of_getElem? (i := 450) (by decide +kernel), List.forall_mem_cons.mpr ⟨List.mem_of_getElem? (i := 451) (by decide +kernel), List.forall_mem_cons.mpr ⟨List.mem_of_getElem? (i := 452) (by decide +kernel), List.forall_mem_cons.mpr ⟨List.mem_of_getElem? (i := 453) (by decide +kernel), List.forall_mem_cons.mpr ⟨List.mem_of_getElem? (i := 454) (by decide +kernel), List.forall_mem_cons.mpr ⟨List.mem_of_getElem? (i := 511) (by decide +kernel), List.forall_mem_cons.mpr ⟨List.mem_of_getElem? (i := 592) (by decide +kernel), List.forall_mem_cons.mpr ⟨List.mem_of_getElem? (i := 610) (by decide +kernel), List.forall_mem_cons.mpr ⟨List.mem_of_getElem? (i := 991) (by decide +kernel), List.forall_mem_cons.mpr ⟨List.mem_of_getElem? (i := 992) (by decide +kernel), List.forall_mem_cons.mpr ⟨List.mem_of_getElem? (i := 995) (by decide +kernel), List.forall_mem_cons.mpr ⟨List.mem_of_getElem? (i := 996) (by decide +kernel), List.forall_mem_cons.mpr ⟨List.mem_of_getElem? (i := 997) (by decide +kernel), List.forall_mem_cons.mpr ⟨List.mem_of_getElem? (i := 998) (by decide +kernel), List.forall_mem_cons.mpr ⟨List.mem_of_getElem? (i := 999) (by decide +kernel), List.forall_mem_cons.mpr ⟨List.mem_of_getElem? (i := 1000) (by decide +kernel), List.forall_mem_cons.mpr ⟨List.mem_of_getElem? (i := 1001) (by decide +kernel), List.forall_mem_cons.mpr ⟨List.mem_of_getElem? (i := 1002) (by decide +kernel), List.forall_mem_cons.mpr ⟨List.mem_of_getElem? (i := 1003) (by decide +kernel), List.forall_mem_cons.mpr ⟨List.mem_of_getElem? (i := 1004) (by decide +kernel), fun _ h => absurd h List.not_mem_nil⟩⟩⟩⟩⟩⟩⟩⟩⟩⟩⟩⟩⟩⟩⟩⟩⟩⟩⟩⟩⟩⟩⟩⟩⟩⟩⟩⟩⟩
theorem xNW_ok : ∀ w ∈ xNW, (∀ s U : State, s.vm = U.vm → va_Nw w s → va_Nw w U) ∧ ∀ s U : State, s.WarmedH U.vm → va_Nw w s → va_Nw w U := by
  unfold xNW
  exact List.forall_mem_cons.mpr ⟨⟨fun _ _ e h => va_AO.moved (by rw [e]; exact Vm.Alike.refl _) h, fun _ _ hW h => va_AO.moved hW.alike h⟩, List.forall_mem_cons.mpr ⟨⟨fun _ _ e h => va_AO.moved (by rw [e]; exact Vm.Alike.refl _) h, fun _ _ hW h => va_AO.moved hW.alike h⟩, List.forall_mem_cons.mpr ⟨⟨fun _ _ e h => va_Nw.same rfl e h, fun _ _ hW h => va_Nw.warmM hW h⟩, List.forall_mem_cons.mpr ⟨⟨fun _ _ e h => va_Nw.same rfl e h, fun _ _ hW h => va_Nw.warmM hW h⟩, List.forall_mem_cons.mpr ⟨⟨fun _ _ e h => va_Nw.same rfl e h, fun _ _ hW h => va_Nw.warmM hW h⟩, List.forall_mem_cons.mpr ⟨⟨fun _ _ e h => va_Nw.same rfl e h, fun _ _ hW h => va_Nw.warmM hW h⟩, List.forall_mem_cons.mpr ⟨⟨fun _ _ e h => va_Nw.same rfl e h, fun _ _ hW h => va_Nw.warmM hW h⟩, List.forall_mem_cons.mpr ⟨⟨fun _ _ e h => va_Nw.same rfl e h, fun _ _ hW h => va_Nw.warmC hW h⟩, List.forall_mem_cons.mpr ⟨⟨fun _ _ e h => va_Nw.same rfl e h, fun s U hW h => va_tabs (u := s.setVm U.vm) (U := U) rfl rfl (by rw [Cond.declares_setVm hW.alike]; exact h)⟩, List.forall_mem_cons.mpr ⟨⟨fun _ _ e h => va_Nw.same rfl e h, fun s U hW h => va_tabs (u := s.setVm U.vm) (U := U) rfl rfl (by rw [Cond.declares_setVm hW.alike]; exact h)⟩, List.forall_mem_cons.mpr ⟨⟨fun _ _ e h => va_Nw.same rfl e h, fun s U hW h => va_tabs (u := s.setVm U.vm) (U := U) rfl rfl (by rw [Cond.declares_setVm hW.alike]; exact h)⟩, List.forall_mem_cons.mpr ⟨⟨fun _ _ e h => va_Nw.same rfl e h, fun s U hW h => va_tabs (u := s.setVm U.vm) (U := U) rfl rfl (by rw [Cond.declares_setVm hW.alike]; exact h)⟩, List.forall_mem_cons.mpr ⟨⟨fun _ _ e h => va_Nw.same rfl e h, fun s U hW h => va_tabs (u := s.setVm U.vm) (U := U) rfl rfl (by rw [Cond.declares_setVm hW.alike]; exact h)⟩, List.forall_mem_cons.mpr ⟨⟨fun _ _ e h => va_Nw.same rfl e h, fun s U hW h => va_tabs (u := s.setVm U.vm) (U := U) rfl rfl (by rw [Cond.declares_setVm hW.alike]; exact h)⟩, List.forall_mem_cons.mpr ⟨⟨fun _ _ e h => va_Nw.same rfl e h, fun _ _ hW h => va_Nw.warmC hW h⟩, List.forall_mem_cons.mpr ⟨⟨fun _ _ e h => va_AO.moved (by rw [e]; exact Vm.Alike.refl _) h, fun _ _ hW h => va_AO.moved hW.alike h⟩, List.forall_mem_cons.mpr ⟨⟨fun _ _ e h => va_Nw.same rfl e h, fun _ _ hW h => va_Nw.warmC hW h⟩, List.forall_mem_cons.mpr ⟨⟨fun _ _ e h => va_Nw.same rfl e h, fun _ _ hW h => va_Nw.warmC hW h⟩, List.forall_mem_cons.mpr ⟨⟨fun _ _ e h => va_Nw.same rfl e h, fun _ _ hW h => va_Nw.warmC hW h⟩, List.forall_mem_cons.mpr ⟨⟨fun _ _ e h => va_Nw.same rfl e h, fun s U hW h => va_tabs (u := s.setVm U.vm) (U := U) rfl rfl (by rw [Cond.declares_setVm hW.alike]; exact h)⟩, List.forall_mem_cons.mpr ⟨⟨fun _ _ e h => va_Nw.same rfl e h, fun _ _ hW h => va_Nw.warmC hW h⟩, List.forall_mem_cons.mpr ⟨⟨fun _ _ e h => va_Nw.same rfl e h, fun _ _ hW h => va_Nw.warmC hW h⟩, List.forall_mem_cons.mpr ⟨⟨fun _ _ e h => va_Nw.same rfl e h, fun _ _ hW h => va_Nw.warmC hW h⟩, List.forall_mem_cons.mpr ⟨⟨fun _ _ e h => va_Nw.same rfl e h, fun _ _ hW h => va_Nw.warmC hW h⟩, List.forall_mem_cons.mpr ⟨⟨fun _ _ e h => va_Nw.same rfl e h, fun _ _ hW h => va_Nw.warmC hW h⟩, List.forall_mem_cons.mpr ⟨⟨fun _ _ e h => va_Nw.same rfl e h, fun _ _ hW h => va_Nw.warmC hW h⟩, List.forall_mem_cons.mpr ⟨⟨fun _ _ e h => va_Nw.same rfl e h, fun _ _ hW h => va_Nw.warmC hW h⟩, List.forall_mem_cons.mpr ⟨⟨fun _ _ e h => va_Nw.same rfl e h, fun _ _ hW h => va_Nw.warmC hW h⟩, List.forall_mem_cons.mpr ⟨⟨fun _ _ e h => va_Nw.same rfl e h, fun _ _ hW h => va_Nw.warmC hW h⟩, fun _ h => absurd h List.not_mem_nil⟩⟩⟩⟩⟩⟩⟩⟩⟩⟩⟩⟩⟩⟩⟩⟩⟩⟩⟩⟩⟩⟩⟩⟩⟩⟩⟩⟩⟩
abbrev cBT_init : ByteArray := prog_1_method_1_code
def yBT_init : MethodName := ⟨"BrokerTree", "<init>", "(I)V"⟩
abbrev mBT_init : x_M := (yBT_init, cBT_init, 4, none)
abbrev cCA_init : ByteArray := prog_2_method_1_code
def yCA_init : MethodName := ⟨"BrokerTree$Catalog", "<init>", "()V"⟩
abbrev mCA_init : x_M := (yCA_init, cCA_init, 1, none)
abbrev cAL_init : ByteArray := prog_24_method_2_code
def yAL_init : MethodName := ⟨"java/util/ArrayList", "<init>", "()V"⟩
abbrev mAL_init : x_M := (yAL_init, cAL_init, 1, none)
abbrev cAB_init : ByteArray := prog_23_method_1_code
def yAB_init : MethodName := ⟨"java/util/AbstractList", "<init>", "()V"⟩
abbrev mAB_init : x_M := (yAB_init, cAB_init, 1, none)
abbrev cAC_init : ByteArray := prog_22_method_1_code
def yAC_init : MethodName := ⟨"java/util/AbstractCollection", "<init>", "()V"⟩
abbrev mAC_init : x_M := (yAC_init, cAC_init, 1, none)
abbrev cRO_init : ByteArray := prog_7_method_1_code
def yRO_init : MethodName := ⟨"BrokerTree$Row", "<init>", "()V"⟩
abbrev mRO_init : x_M := (yRO_init, cRO_init, 1, none)
abbrev cLI_init : ByteArray := prog_4_method_1_code
def yLI_init : MethodName := ⟨"BrokerTree$Link", "<init>", "(II)V"⟩
abbrev mLI_init : x_M := (yLI_init, cLI_init, 3, none)
abbrev cQU_init : ByteArray := prog_6_method_1_code
def yQU_init : MethodName := ⟨"BrokerTree$Queue", "<init>", "()V"⟩
abbrev mQU_init : x_M := (yQU_init, cQU_init, 1, none)
abbrev cBT_write : ByteArray := prog_1_method_2_code
def yBT_write : MethodName := ⟨"BrokerTree", "write", "(C)Z"⟩
abbrev mBT_write : x_M := (yBT_write, cBT_write, 2, (some FieldType.boolean))
abbrev cBT_waiting : ByteArray := prog_1_method_7_code
def yBT_waiting : MethodName := ⟨"BrokerTree", "waiting", "(II)I"⟩
abbrev mBT_waiting : x_M := (yBT_waiting, cBT_waiting, 4, (some FieldType.int))
abbrev cBT_linkBetween : ByteArray := prog_1_method_16_code
def yBT_linkBetween : MethodName := ⟨"BrokerTree", "linkBetween", "(II)LBrokerTree$Link;"⟩
abbrev mBT_linkBetween : x_M := (yBT_linkBetween, cBT_linkBetween, 3, (some (FieldType.object "BrokerTree$Link")))
abbrev cQU_size : ByteArray := prog_6_method_2_code
def yQU_size : MethodName := ⟨"BrokerTree$Queue", "size", "()I"⟩
abbrev mQU_size : x_M := (yQU_size, cQU_size, 1, (some FieldType.int))
abbrev cBT_run : ByteArray := prog_1_method_8_code
def yBT_run : MethodName := ⟨"BrokerTree", "run", "()I"⟩
abbrev mBT_run : x_M := (yBT_run, cBT_run, 3, (some FieldType.int))
abbrev cBT_firstBusyLink : ByteArray := prog_1_method_17_code
def yBT_firstBusyLink : MethodName := ⟨"BrokerTree", "firstBusyLink", "()LBrokerTree$Link;"⟩
abbrev mBT_firstBusyLink : x_M := (yBT_firstBusyLink, cBT_firstBusyLink, 3, (some (FieldType.object "BrokerTree$Link")))
abbrev cBT_takeFirst : ByteArray := prog_1_method_18_code
def yBT_takeFirst : MethodName := ⟨"BrokerTree", "takeFirst", "(LBrokerTree$Link;)I"⟩
abbrev mBT_takeFirst : x_M := (yBT_takeFirst, cBT_takeFirst, 5, (some FieldType.int))
abbrev cQU_removeFirst : ByteArray := prog_6_method_4_code
def yQU_removeFirst : MethodName := ⟨"BrokerTree$Queue", "removeFirst", "()I"⟩
abbrev mQU_removeFirst : x_M := (yQU_removeFirst, cQU_removeFirst, 2, (some FieldType.int))
abbrev cBT_handle : ByteArray := prog_1_method_24_code
def yBT_handle : MethodName := ⟨"BrokerTree", "handle", "(III)V"⟩
abbrev mBT_handle : x_M := (yBT_handle, cBT_handle, 8, none)
abbrev cAL_size : ByteArray := prog_24_method_8_code
def yAL_size : MethodName := ⟨"java/util/ArrayList", "size", "()I"⟩
abbrev mAL_size : x_M := (yAL_size, cAL_size, 1, (some FieldType.int))
abbrev cAL_get : ByteArray := prog_24_method_20_code
def yAL_get : MethodName := ⟨"java/util/ArrayList", "get", "(I)Ljava/lang/Object;"⟩
abbrev mAL_get : x_M := (yAL_get, cAL_get, 2, (some (FieldType.object "java/lang/Object")))
abbrev cOB_checkIndex : ByteArray := prog_29_method_17_code
def yOB_checkIndex : MethodName := ⟨"java/util/Objects", "checkIndex", "(II)I"⟩
abbrev mOB_checkIndex : x_M := (yOB_checkIndex, cOB_checkIndex, 2, (some FieldType.int))
abbrev cPC_checkIndex : ByteArray := prog_33_method_11_code
def yPC_checkIndex : MethodName := ⟨"jdk/internal/util/Preconditions", "checkIndex", "(IILjava/util/function/BiFunction;)I"⟩
abbrev mPC_checkIndex : x_M := (yPC_checkIndex, cPC_checkIndex, 3, (some FieldType.int))
abbrev cAL_elementData : ByteArray := prog_24_method_18_code
def yAL_elementData : MethodName := ⟨"java/util/ArrayList", "elementData", "(I)Ljava/lang/Object;"⟩
abbrev mAL_elementData : x_M := (yAL_elementData, cAL_elementData, 2, (some (FieldType.object "java/lang/Object")))
abbrev cBT_brokerOf : ByteArray := prog_1_method_15_code
def yBT_brokerOf : MethodName := ⟨"BrokerTree", "brokerOf", "(I)I"⟩
abbrev mBT_brokerOf : x_M := (yBT_brokerOf, cBT_brokerOf, 1, (some FieldType.int))
abbrev cBT_wants : ByteArray := prog_1_method_25_code
def yBT_wants : MethodName := ⟨"BrokerTree", "wants", "(ILBrokerTree$Note;)Z"⟩
abbrev mBT_wants : x_M := (yBT_wants, cBT_wants, 4, (some FieldType.boolean))
abbrev cCA_matches : ByteArray := prog_2_method_4_code
def yCA_matches : MethodName := ⟨"BrokerTree$Catalog", "matches", "(ILBrokerTree$Note;)Z"⟩
abbrev mCA_matches : x_M := (yCA_matches, cCA_matches, 3, (some FieldType.boolean))
abbrev cFI_matches : ByteArray := prog_3_method_3_code
def yFI_matches : MethodName := ⟨"BrokerTree$Filter", "matches", "(LBrokerTree$Note;)Z"⟩
abbrev mFI_matches : x_M := (yFI_matches, cFI_matches, 2, (some FieldType.boolean))
abbrev cSP_has : ByteArray := prog_8_method_6_code
def ySP_has : MethodName := ⟨"BrokerTree$Span", "has", "(I)Z"⟩
abbrev mSP_has : x_M := (ySP_has, cSP_has, 3, (some FieldType.boolean))
abbrev cQU_add : ByteArray := prog_6_method_3_code
def yQU_add : MethodName := ⟨"BrokerTree$Queue", "add", "(I)V"⟩
abbrev mQU_add : x_M := (yQU_add, cQU_add, 2, none)
abbrev cQU_grow : ByteArray := prog_6_method_5_code
def yQU_grow : MethodName := ⟨"BrokerTree$Queue", "grow", "()V"⟩
abbrev mQU_grow : x_M := (yQU_grow, cQU_grow, 3, none)
abbrev cCA_anyMatches : ByteArray := prog_2_method_5_code
def yCA_anyMatches : MethodName := ⟨"BrokerTree$Catalog", "anyMatches", "(LBrokerTree$Row;LBrokerTree$Note;)Z"⟩
abbrev mCA_anyMatches : x_M := (yCA_anyMatches, cCA_anyMatches, 4, (some FieldType.boolean))
abbrev cRO_size : ByteArray := prog_7_method_2_code
def yRO_size : MethodName := ⟨"BrokerTree$Row", "size", "()I"⟩
abbrev mRO_size : x_M := (yRO_size, cRO_size, 1, (some FieldType.int))
abbrev cRO_get : ByteArray := prog_7_method_3_code
def yRO_get : MethodName := ⟨"BrokerTree$Row", "get", "(I)I"⟩
abbrev mRO_get : x_M := (yRO_get, cRO_get, 2, (some FieldType.int))
abbrev cBT_put : ByteArray := prog_1_method_26_code
def yBT_put : MethodName := ⟨"BrokerTree", "put", "(LBrokerTree$Link;II)V"⟩
abbrev mBT_put : x_M := (yBT_put, cBT_put, 3, none)
abbrev cRO_add : ByteArray := prog_7_method_7_code
def yRO_add : MethodName := ⟨"BrokerTree$Row", "add", "(I)V"⟩
abbrev mRO_add : x_M := (yRO_add, cRO_add, 2, none)
abbrev cRO_has : ByteArray := prog_7_method_4_code
def yRO_has : MethodName := ⟨"BrokerTree$Row", "has", "(I)Z"⟩
abbrev mRO_has : x_M := (yRO_has, cRO_has, 2, (some FieldType.boolean))
abbrev cRO_remove : ByteArray := prog_7_method_9_code
def yRO_remove : MethodName := ⟨"BrokerTree$Row", "remove", "(I)V"⟩
abbrev mRO_remove : x_M := (yRO_remove, cRO_remove, 4, none)
abbrev cBT_settle : ByteArray := prog_1_method_19_code
def yBT_settle : MethodName := ⟨"BrokerTree", "settle", "(I)V"⟩
abbrev mBT_settle : x_M := (yBT_settle, cBT_settle, 4, none)
abbrev cBT_gatherOffered : ByteArray := prog_1_method_20_code
def yBT_gatherOffered : MethodName := ⟨"BrokerTree", "gatherOffered", "(LBrokerTree$Link;)V"⟩
abbrev mBT_gatherOffered : x_M := (yBT_gatherOffered, cBT_gatherOffered, 4, none)
abbrev cRO_clear : ByteArray := prog_7_method_6_code
def yRO_clear : MethodName := ⟨"BrokerTree$Row", "clear", "()V"⟩
abbrev mRO_clear : x_M := (yRO_clear, cRO_clear, 1, none)
abbrev cRO_addAll : ByteArray := prog_7_method_8_code
def yRO_addAll : MethodName := ⟨"BrokerTree$Row", "addAll", "(LBrokerTree$Row;)V"⟩
abbrev mRO_addAll : x_M := (yRO_addAll, cRO_addAll, 3, none)
abbrev cBT_gatherNeed : ByteArray := prog_1_method_21_code
def yBT_gatherNeed : MethodName := ⟨"BrokerTree", "gatherNeed", "()V"⟩
abbrev mBT_gatherNeed : x_M := (yBT_gatherNeed, cBT_gatherNeed, 3, none)
abbrev cCA_hasCoverer : ByteArray := prog_2_method_3_code
def yCA_hasCoverer : MethodName := ⟨"BrokerTree$Catalog", "hasCoverer", "(ILBrokerTree$Row;)Z"⟩
abbrev mCA_hasCoverer : x_M := (yCA_hasCoverer, cCA_hasCoverer, 3, (some FieldType.boolean))
abbrev cRO_members : ByteArray := prog_7_method_5_code
def yRO_members : MethodName := ⟨"BrokerTree$Row", "members", "()I"⟩
abbrev mRO_members : x_M := (yRO_members, cRO_members, 1, (some FieldType.int))
abbrev cBT_tellNeeded : ByteArray := prog_1_method_22_code
def yBT_tellNeeded : MethodName := ⟨"BrokerTree", "tellNeeded", "(LBrokerTree$Link;)V"⟩
abbrev mBT_tellNeeded : x_M := (yBT_tellNeeded, cBT_tellNeeded, 4, none)
abbrev cBT_dropNotNeeded : ByteArray := prog_1_method_23_code
def yBT_dropNotNeeded : MethodName := ⟨"BrokerTree", "dropNotNeeded", "(LBrokerTree$Link;)V"⟩
abbrev mBT_dropNotNeeded : x_M := (yBT_dropNotNeeded, cBT_dropNotNeeded, 5, none)
abbrev cBT_filters : ByteArray := prog_1_method_10_code
def yBT_filters : MethodName := ⟨"BrokerTree", "filters", "(IIZ)I"⟩
abbrev mBT_filters : x_M := (yBT_filters, cBT_filters, 5, (some FieldType.int))
abbrev cBT_count : ByteArray := prog_1_method_12_code
def yBT_count : MethodName := ⟨"BrokerTree", "count", "(I)I"⟩
abbrev mBT_count : x_M := (yBT_count, cBT_count, 2, (some FieldType.int))
abbrev cLW_cell : ByteArray := method_2_code
def yLW_cell : MethodName := ⟨"BrokerTreeLaw", "cell", "([II)I"⟩
abbrev mLW_cell : x_M := (yLW_cell, cLW_cell, 2, (some FieldType.int))
abbrev cLW_subscribe : ByteArray := method_3_code
def yLW_subscribe : MethodName := ⟨"BrokerTreeLaw", "subscribe", "(LBrokerTree;I[J)I"⟩
abbrev mLW_subscribe : x_M := (yLW_subscribe, cLW_subscribe, 4, (some FieldType.int))
abbrev cBT_subscribe : ByteArray := prog_1_method_3_code
def yBT_subscribe : MethodName := ⟨"BrokerTree", "subscribe", "(I)I"⟩
abbrev mBT_subscribe : x_M := (yBT_subscribe, cBT_subscribe, 4, (some FieldType.int))
abbrev cFI_parse : ByteArray := prog_3_method_2_code
def yFI_parse : MethodName := ⟨"BrokerTree$Filter", "parse", "([CII)LBrokerTree$Filter;"⟩
abbrev mFI_parse : x_M := (yFI_parse, cFI_parse, 7, (some (FieldType.object "BrokerTree$Filter")))
abbrev cFI_init : ByteArray := prog_3_method_1_code
def yFI_init : MethodName := ⟨"BrokerTree$Filter", "<init>", "()V"⟩
abbrev mFI_init : x_M := (yFI_init, cFI_init, 1, none)
abbrev cSP_init : ByteArray := prog_8_method_1_code
def ySP_init : MethodName := ⟨"BrokerTree$Span", "<init>", "(II)V"⟩
abbrev mSP_init : x_M := (ySP_init, cSP_init, 3, none)
abbrev cTX_find : ByteArray := prog_9_method_2_code
def yTX_find : MethodName := ⟨"BrokerTree$Texts", "find", "(C[CII)I"⟩
abbrev mTX_find : x_M := (yTX_find, cTX_find, 5, (some FieldType.int))
abbrev cFI_addCondition : ByteArray := prog_3_method_7_code
def yFI_addCondition : MethodName := ⟨"BrokerTree$Filter", "addCondition", "([CII)Z"⟩
abbrev mFI_addCondition : x_M := (yFI_addCondition, cFI_addCondition, 6, (some FieldType.boolean))
abbrev cTX_word : ByteArray := prog_9_method_4_code
def yTX_word : MethodName := ⟨"BrokerTree$Texts", "word", "([CII)I"⟩
abbrev mTX_word : x_M := (yTX_word, cTX_word, 6, (some FieldType.int))
abbrev cFI_narrowWord : ByteArray := prog_3_method_9_code
def yFI_narrowWord : MethodName := ⟨"BrokerTree$Filter", "narrowWord", "(III)Z"⟩
abbrev mFI_narrowWord : x_M := (yFI_narrowWord, cFI_narrowWord, 4, (some FieldType.boolean))
abbrev cSP_keep : ByteArray := prog_8_method_2_code
def ySP_keep : MethodName := ⟨"BrokerTree$Span", "keep", "(II)V"⟩
abbrev mSP_keep : x_M := (ySP_keep, cSP_keep, 3, none)
abbrev cSP_exclude : ByteArray := prog_8_method_3_code
def ySP_exclude : MethodName := ⟨"BrokerTree$Span", "exclude", "(I)V"⟩
abbrev mSP_exclude : x_M := (ySP_exclude, cSP_exclude, 2, none)
abbrev cTX_endings : ByteArray := prog_9_method_5_code
def yTX_endings : MethodName := ⟨"BrokerTree$Texts", "endings", "(I)I"⟩
abbrev mTX_endings : x_M := (yTX_endings, cTX_endings, 1, (some FieldType.int))
abbrev cTX_number : ByteArray := prog_9_method_3_code
def yTX_number : MethodName := ⟨"BrokerTree$Texts", "number", "([CII)I"⟩
abbrev mTX_number : x_M := (yTX_number, cTX_number, 8, (some FieldType.int))
abbrev cFI_narrowNumber : ByteArray := prog_3_method_8_code
def yFI_narrowNumber : MethodName := ⟨"BrokerTree$Filter", "narrowNumber", "(LBrokerTree$Span;II)Z"⟩
abbrev mFI_narrowNumber : x_M := (yFI_narrowNumber, cFI_narrowNumber, 3, (some FieldType.boolean))
abbrev cFI_tighten : ByteArray := prog_3_method_6_code
def yFI_tighten : MethodName := ⟨"BrokerTree$Filter", "tighten", "()V"⟩
abbrev mFI_tighten : x_M := (yFI_tighten, cFI_tighten, 1, none)
abbrev cSP_tighten : ByteArray := prog_8_method_4_code
def ySP_tighten : MethodName := ⟨"BrokerTree$Span", "tighten", "()V"⟩
abbrev mSP_tighten : x_M := (ySP_tighten, cSP_tighten, 2, none)
abbrev cBT_isClient : ByteArray := prog_1_method_13_code
def yBT_isClient : MethodName := ⟨"BrokerTree", "isClient", "(I)Z"⟩
abbrev mBT_isClient : x_M := (yBT_isClient, cBT_isClient, 1, (some FieldType.boolean))
abbrev cCA_numberOf : ByteArray := prog_2_method_2_code
def yCA_numberOf : MethodName := ⟨"BrokerTree$Catalog", "numberOf", "(LBrokerTree$Filter;)I"⟩
abbrev mCA_numberOf : x_M := (yCA_numberOf, cCA_numberOf, 4, (some FieldType.int))
abbrev cFI_includes : ByteArray := prog_3_method_4_code
def yFI_includes : MethodName := ⟨"BrokerTree$Filter", "includes", "(LBrokerTree$Filter;)Z"⟩
abbrev mFI_includes : x_M := (yFI_includes, cFI_includes, 2, (some FieldType.boolean))
abbrev cFI_isEmpty : ByteArray := prog_3_method_5_code
def yFI_isEmpty : MethodName := ⟨"BrokerTree$Filter", "isEmpty", "()Z"⟩
abbrev mFI_isEmpty : x_M := (yFI_isEmpty, cFI_isEmpty, 1, (some FieldType.boolean))
abbrev cSP_isEmpty : ByteArray := prog_8_method_5_code
def ySP_isEmpty : MethodName := ⟨"BrokerTree$Span", "isEmpty", "()Z"⟩
abbrev mSP_isEmpty : x_M := (ySP_isEmpty, cSP_isEmpty, 1, (some FieldType.boolean))
abbrev cSP_includes : ByteArray := prog_8_method_7_code
def ySP_includes : MethodName := ⟨"BrokerTree$Span", "includes", "(LBrokerTree$Span;)Z"⟩
abbrev mSP_includes : x_M := (ySP_includes, cSP_includes, 3, (some FieldType.boolean))
abbrev cAL_add : ByteArray := prog_24_method_25_code
def yAL_add : MethodName := ⟨"java/util/ArrayList", "add", "(Ljava/lang/Object;)Z"⟩
abbrev mAL_add : x_M := (yAL_add, cAL_add, 2, (some FieldType.boolean))
abbrev cAL_add2 : ByteArray := prog_24_method_24_code
def yAL_add2 : MethodName := ⟨"java/util/ArrayList", "add", "(Ljava/lang/Object;[Ljava/lang/Object;I)V"⟩
abbrev mAL_add2 : x_M := (yAL_add2, cAL_add2, 4, none)
abbrev cAL_grow : ByteArray := prog_24_method_7_code
def yAL_grow : MethodName := ⟨"java/util/ArrayList", "grow", "()[Ljava/lang/Object;"⟩
abbrev mAL_grow : x_M := (yAL_grow, cAL_grow, 1, (some (FieldType.array (FieldType.object "java/lang/Object"))))
abbrev cAL_grow2 : ByteArray := prog_24_method_6_code
def yAL_grow2 : MethodName := ⟨"java/util/ArrayList", "grow", "(I)[Ljava/lang/Object;"⟩
abbrev mAL_grow2 : x_M := (yAL_grow2, cAL_grow2, 4, (some (FieldType.array (FieldType.object "java/lang/Object"))))
abbrev cAS_newLength : ByteArray := prog_32_method_27_code
def yAS_newLength : MethodName := ⟨"jdk/internal/util/ArraysSupport", "newLength", "(III)I"⟩
abbrev mAS_newLength : x_M := (yAS_newLength, cAS_newLength, 4, (some FieldType.int))
abbrev cAS_hugeLength : ByteArray := prog_32_method_28_code
def yAS_hugeLength : MethodName := ⟨"jdk/internal/util/ArraysSupport", "hugeLength", "(II)I"⟩
abbrev mAS_hugeLength : x_M := (yAS_hugeLength, cAS_hugeLength, 3, (some FieldType.int))
abbrev cAR_copyOf : ByteArray := prog_25_method_119_code
def yAR_copyOf : MethodName := ⟨"java/util/Arrays", "copyOf", "([Ljava/lang/Object;I)[Ljava/lang/Object;"⟩
abbrev mAR_copyOf : x_M := (yAR_copyOf, cAR_copyOf, 2, (some (FieldType.array (FieldType.object "java/lang/Object"))))
abbrev cAR_copyOf2 : ByteArray := prog_25_method_120_code
def yAR_copyOf2 : MethodName := ⟨"java/util/Arrays", "copyOf", "([Ljava/lang/Object;ILjava/lang/Class;)[Ljava/lang/Object;"⟩
abbrev mAR_copyOf2 : x_M := (yAR_copyOf2, cAR_copyOf2, 4, (some (FieldType.array (FieldType.object "java/lang/Object"))))
abbrev cLW_unsubscribe : ByteArray := method_4_code
def yLW_unsubscribe : MethodName := ⟨"BrokerTreeLaw", "unsubscribe", "(LBrokerTree;I)I"⟩
abbrev mLW_unsubscribe : x_M := (yLW_unsubscribe, cLW_unsubscribe, 3, (some FieldType.int))
abbrev cBT_unsubscribe : ByteArray := prog_1_method_4_code
def yBT_unsubscribe : MethodName := ⟨"BrokerTree", "unsubscribe", "(I)V"⟩
abbrev mBT_unsubscribe : x_M := (yBT_unsubscribe, cBT_unsubscribe, 2, none)
abbrev cLW_publish : ByteArray := method_5_code
def yLW_publish : MethodName := ⟨"BrokerTreeLaw", "publish", "(LBrokerTree;III[J)I"⟩
abbrev mLW_publish : x_M := (yLW_publish, cLW_publish, 6, (some FieldType.int))
abbrev cBT_publish : ByteArray := prog_1_method_5_code
def yBT_publish : MethodName := ⟨"BrokerTree", "publish", "(III)I"⟩
abbrev mBT_publish : x_M := (yBT_publish, cBT_publish, 6, (some FieldType.int))
abbrev cBT_isNumberOrNone : ByteArray := prog_1_method_14_code
def yBT_isNumberOrNone : MethodName := ⟨"BrokerTree", "isNumberOrNone", "(I)Z"⟩
abbrev mBT_isNumberOrNone : x_M := (yBT_isNumberOrNone, cBT_isNumberOrNone, 1, (some FieldType.boolean))
abbrev cNO_init : ByteArray := prog_5_method_1_code
def yNO_init : MethodName := ⟨"BrokerTree$Note", "<init>", "(III)V"⟩
abbrev mNO_init : x_M := (yNO_init, cNO_init, 4, none)
abbrev cLW_take : ByteArray := method_6_code
def yLW_take : MethodName := ⟨"BrokerTreeLaw", "take", "(LBrokerTree;II[J)I"⟩
abbrev mLW_take : x_M := (yLW_take, cLW_take, 5, (some FieldType.int))
abbrev cBT_take : ByteArray := prog_1_method_6_code
def yBT_take : MethodName := ⟨"BrokerTree", "take", "(II)I"⟩
abbrev mBT_take : x_M := (yBT_take, cBT_take, 4, (some FieldType.int))
abbrev cLW_read : ByteArray := method_7_code
def yLW_read : MethodName := ⟨"BrokerTreeLaw", "read", "(LBrokerTree;I[J)I"⟩
abbrev mLW_read : x_M := (yLW_read, cLW_read, 4, (some FieldType.int))
abbrev cBT_read : ByteArray := prog_1_method_9_code
def yBT_read : MethodName := ⟨"BrokerTree", "read", "(I)I"⟩
abbrev mBT_read : x_M := (yBT_read, cBT_read, 3, (some FieldType.int))
abbrev cLW_covers : ByteArray := method_8_code
def yLW_covers : MethodName := ⟨"BrokerTreeLaw", "covers", "(LBrokerTree;[J)I"⟩
abbrev mLW_covers : x_M := (yLW_covers, cLW_covers, 3, (some FieldType.int))
abbrev cBT_covers : ByteArray := prog_1_method_11_code
def yBT_covers : MethodName := ⟨"BrokerTree", "covers", "()Z"⟩
abbrev mBT_covers : x_M := (yBT_covers, cBT_covers, 4, (some FieldType.boolean))
abbrev cMO_init : ByteArray := prog_11_method_1_code
def yMO_init : MethodName := ⟨"BrokerTreeModel", "<init>", "(I)V"⟩
abbrev mMO_init : x_M := (yMO_init, cMO_init, 4, none)
abbrev cMO_thrown : ByteArray := prog_11_method_2_code
def yMO_thrown : MethodName := ⟨"BrokerTreeModel", "thrown", "()I"⟩
abbrev mMO_thrown : x_M := (yMO_thrown, cMO_thrown, 1, (some FieldType.int))
abbrev cMO_write : ByteArray := prog_11_method_4_code
def yMO_write : MethodName := ⟨"BrokerTreeModel", "write", "(C)Z"⟩
abbrev mMO_write : x_M := (yMO_write, cMO_write, 2, (some FieldType.boolean))
abbrev cMO_covers : ByteArray := prog_11_method_22_code
def yMO_covers : MethodName := ⟨"BrokerTreeModel", "covers", "()Z"⟩
abbrev mMO_covers : x_M := (yMO_covers, cMO_covers, 3, (some FieldType.boolean))
abbrev cMO_reads : ByteArray := prog_11_method_10_code
def yMO_reads : MethodName := ⟨"BrokerTreeModel", "reads", "(III)Z"⟩
abbrev mMO_reads : x_M := (yMO_reads, cMO_reads, 8, (some FieldType.boolean))
abbrev cMO_begin : ByteArray := prog_11_method_11_code
def yMO_begin : MethodName := ⟨"BrokerTreeModel", "begin", "(I)V"⟩
abbrev mMO_begin : x_M := (yMO_begin, cMO_begin, 3, none)
abbrev cMO_condition : ByteArray := prog_11_method_12_code
def yMO_condition : MethodName := ⟨"BrokerTreeModel", "condition", "(III)I"⟩
abbrev mMO_condition : x_M := (yMO_condition, cMO_condition, 10, (some FieldType.int))
abbrev cMO_at : ByteArray := prog_11_method_5_code
def yMO_at : MethodName := ⟨"BrokerTreeModel", "at", "(II)C"⟩
abbrev mMO_at : x_M := (yMO_at, cMO_at, 3, (some FieldType.char))
abbrev cMO_lettersAt : ByteArray := prog_11_method_8_code
def yMO_lettersAt : MethodName := ⟨"BrokerTreeModel", "lettersAt", "(II)I"⟩
abbrev mMO_lettersAt : x_M := (yMO_lettersAt, cMO_lettersAt, 4, (some FieldType.int))
abbrev cMO_isLetter : ByteArray := prog_11_method_6_code
def yMO_isLetter : MethodName := ⟨"BrokerTreeModel", "isLetter", "(C)Z"⟩
abbrev mMO_isLetter : x_M := (yMO_isLetter, cMO_isLetter, 1, (some FieldType.boolean))
abbrev cMO_wordAt : ByteArray := prog_11_method_9_code
def yMO_wordAt : MethodName := ⟨"BrokerTreeModel", "wordAt", "(II)I"⟩
abbrev mMO_wordAt : x_M := (yMO_wordAt, cMO_wordAt, 5, (some FieldType.int))
abbrev cMO_wordly : ByteArray := prog_11_method_15_code
def yMO_wordly : MethodName := ⟨"BrokerTreeModel", "wordly", "(ICII)V"⟩
abbrev mMO_wordly : x_M := (yMO_wordly, cMO_wordly, 7, none)
abbrev cMO_begins : ByteArray := prog_11_method_14_code
def yMO_begins : MethodName := ⟨"BrokerTreeModel", "begins", "(III)Z"⟩
abbrev mMO_begins : x_M := (yMO_begins, cMO_begins, 3, (some FieldType.boolean))
abbrev cMO_isDigit : ByteArray := prog_11_method_7_code
def yMO_isDigit : MethodName := ⟨"BrokerTreeModel", "isDigit", "(C)Z"⟩
abbrev mMO_isDigit : x_M := (yMO_isDigit, cMO_isDigit, 1, (some FieldType.boolean))
abbrev cMO_bound : ByteArray := prog_11_method_13_code
def yMO_bound : MethodName := ⟨"BrokerTreeModel", "bound", "(ICI)V"⟩
abbrev mMO_bound : x_M := (yMO_bound, cMO_bound, 6, none)
abbrev cMO_settleBounds : ByteArray := prog_11_method_18_code
def yMO_settleBounds : MethodName := ⟨"BrokerTreeModel", "settleBounds", "(I)V"⟩
abbrev mMO_settleBounds : x_M := (yMO_settleBounds, cMO_settleBounds, 3, none)
abbrev cMO_isOut : ByteArray := prog_11_method_16_code
def yMO_isOut : MethodName := ⟨"BrokerTreeModel", "isOut", "(II)Z"⟩
abbrev mMO_isOut : x_M := (yMO_isOut, cMO_isOut, 5, (some FieldType.boolean))
abbrev cMO_isWordOut : ByteArray := prog_11_method_17_code
def yMO_isWordOut : MethodName := ⟨"BrokerTreeModel", "isWordOut", "(II)Z"⟩
abbrev mMO_isWordOut : x_M := (yMO_isWordOut, cMO_isWordOut, 5, (some FieldType.boolean))
abbrev cMO_coversAll : ByteArray := prog_11_method_21_code
def yMO_coversAll : MethodName := ⟨"BrokerTreeModel", "coversAll", "(II)Z"⟩
abbrev mMO_coversAll : x_M := (yMO_coversAll, cMO_coversAll, 3, (some FieldType.boolean))
abbrev cMO_coversNumber : ByteArray := prog_11_method_19_code
def yMO_coversNumber : MethodName := ⟨"BrokerTreeModel", "coversNumber", "(II)Z"⟩
abbrev mMO_coversNumber : x_M := (yMO_coversNumber, cMO_coversNumber, 5, (some FieldType.boolean))
abbrev cMO_coversWord : ByteArray := prog_11_method_20_code
def yMO_coversWord : MethodName := ⟨"BrokerTreeModel", "coversWord", "(II)Z"⟩
abbrev mMO_coversWord : x_M := (yMO_coversWord, cMO_coversWord, 5, (some FieldType.boolean))
abbrev cMO_subscribe : ByteArray := prog_11_method_35_code
def yMO_subscribe : MethodName := ⟨"BrokerTreeModel", "subscribe", "(I)I"⟩
abbrev mMO_subscribe : x_M := (yMO_subscribe, cMO_subscribe, 5, (some FieldType.int))
abbrev cMO_isClient : ByteArray := prog_11_method_34_code
def yMO_isClient : MethodName := ⟨"BrokerTreeModel", "isClient", "(I)Z"⟩
abbrev mMO_isClient : x_M := (yMO_isClient, cMO_isClient, 1, (some FieldType.boolean))
abbrev cMO_fails : ByteArray := prog_11_method_3_code
def yMO_fails : MethodName := ⟨"BrokerTreeModel", "fails", "(I)I"⟩
abbrev mMO_fails : x_M := (yMO_fails, cMO_fails, 2, (some FieldType.int))
abbrev cMO_settle : ByteArray := prog_11_method_32_code
def yMO_settle : MethodName := ⟨"BrokerTreeModel", "settle", "(I)V"⟩
abbrev mMO_settle : x_M := (yMO_settle, cMO_settle, 4, none)
abbrev cMO_need : ByteArray := prog_11_method_27_code
def yMO_need : MethodName := ⟨"BrokerTreeModel", "need", "(II)V"⟩
abbrev mMO_need : x_M := (yMO_need, cMO_need, 6, none)
abbrev cMO_isHere : ByteArray := prog_11_method_26_code
def yMO_isHere : MethodName := ⟨"BrokerTreeModel", "isHere", "(II)Z"⟩
abbrev mMO_isHere : x_M := (yMO_isHere, cMO_isHere, 3, (some FieldType.boolean))
abbrev cMO_add : ByteArray := prog_11_method_28_code
def yMO_add : MethodName := ⟨"BrokerTreeModel", "add", "(I)V"⟩
abbrev mMO_add : x_M := (yMO_add, cMO_add, 2, none)
abbrev cMO_isOver : ByteArray := prog_11_method_24_code
def yMO_isOver : MethodName := ⟨"BrokerTreeModel", "isOver", "(II)Z"⟩
abbrev mMO_isOver : x_M := (yMO_isOver, cMO_isOver, 3, (some FieldType.boolean))
abbrev cMO_tellAll : ByteArray := prog_11_method_33_code
def yMO_tellAll : MethodName := ⟨"BrokerTreeModel", "tellAll", "(I)V"⟩
abbrev mMO_tellAll : x_M := (yMO_tellAll, cMO_tellAll, 5, none)
abbrev cMO_isTold : ByteArray := prog_11_method_30_code
def yMO_isTold : MethodName := ⟨"BrokerTreeModel", "isTold", "(II)Z"⟩
abbrev mMO_isTold : x_M := (yMO_isTold, cMO_isTold, 5, (some FieldType.boolean))
abbrev cMO_alike : ByteArray := prog_11_method_25_code
def yMO_alike : MethodName := ⟨"BrokerTreeModel", "alike", "(II)Z"⟩
abbrev mMO_alike : x_M := (yMO_alike, cMO_alike, 3, (some FieldType.boolean))
abbrev cMO_send : ByteArray := prog_11_method_29_code
def yMO_send : MethodName := ⟨"BrokerTreeModel", "send", "(III)V"⟩
abbrev mMO_send : x_M := (yMO_send, cMO_send, 4, none)
abbrev cMO_isNeeded : ByteArray := prog_11_method_31_code
def yMO_isNeeded : MethodName := ⟨"BrokerTreeModel", "isNeeded", "(I)Z"⟩
abbrev mMO_isNeeded : x_M := (yMO_isNeeded, cMO_isNeeded, 4, (some FieldType.boolean))
abbrev cMO_unsubscribe : ByteArray := prog_11_method_36_code
def yMO_unsubscribe : MethodName := ⟨"BrokerTreeModel", "unsubscribe", "(I)V"⟩
abbrev mMO_unsubscribe : x_M := (yMO_unsubscribe, cMO_unsubscribe, 2, none)
abbrev cMO_publish : ByteArray := prog_11_method_37_code
def yMO_publish : MethodName := ⟨"BrokerTreeModel", "publish", "(III)I"⟩
abbrev mMO_publish : x_M := (yMO_publish, cMO_publish, 7, (some FieldType.int))
abbrev cMO_handle : ByteArray := prog_11_method_38_code
def yMO_handle : MethodName := ⟨"BrokerTreeModel", "handle", "(III)V"⟩
abbrev mMO_handle : x_M := (yMO_handle, cMO_handle, 8, none)
abbrev cMO_matches : ByteArray := prog_11_method_23_code
def yMO_matches : MethodName := ⟨"BrokerTreeModel", "matches", "(II)Z"⟩
abbrev mMO_matches : x_M := (yMO_matches, cMO_matches, 6, (some FieldType.boolean))
abbrev cMO_take : ByteArray := prog_11_method_42_code
def yMO_take : MethodName := ⟨"BrokerTreeModel", "take", "(II)I"⟩
abbrev mMO_take : x_M := (yMO_take, cMO_take, 4, (some FieldType.int))
abbrev cMO_line : ByteArray := prog_11_method_40_code
def yMO_line : MethodName := ⟨"BrokerTreeModel", "line", "(II)I"⟩
abbrev mMO_line : x_M := (yMO_line, cMO_line, 3, (some FieldType.int))
abbrev cMO_isBroker : ByteArray := prog_11_method_39_code
def yMO_isBroker : MethodName := ⟨"BrokerTreeModel", "isBroker", "(I)Z"⟩
abbrev mMO_isBroker : x_M := (yMO_isBroker, cMO_isBroker, 1, (some FieldType.boolean))
abbrev cMO_taken : ByteArray := prog_11_method_41_code
def yMO_taken : MethodName := ⟨"BrokerTreeModel", "taken", "(II)I"⟩
abbrev mMO_taken : x_M := (yMO_taken, cMO_taken, 8, (some FieldType.int))
abbrev cMO_waiting : ByteArray := prog_11_method_43_code
def yMO_waiting : MethodName := ⟨"BrokerTreeModel", "waiting", "(II)I"⟩
abbrev mMO_waiting : x_M := (yMO_waiting, cMO_waiting, 4, (some FieldType.int))
abbrev cMO_run : ByteArray := prog_11_method_44_code
def yMO_run : MethodName := ⟨"BrokerTreeModel", "run", "()I"⟩
abbrev mMO_run : x_M := (yMO_run, cMO_run, 5, (some FieldType.int))
abbrev cMO_read : ByteArray := prog_11_method_45_code
def yMO_read : MethodName := ⟨"BrokerTreeModel", "read", "(I)I"⟩
abbrev mMO_read : x_M := (yMO_read, cMO_read, 2, (some FieldType.int))
abbrev cMO_filters : ByteArray := prog_11_method_46_code
def yMO_filters : MethodName := ⟨"BrokerTreeModel", "filters", "(IIZ)I"⟩
abbrev mMO_filters : x_M := (yMO_filters, cMO_filters, 5, (some FieldType.int))
abbrev cMO_count : ByteArray := prog_11_method_47_code
def yMO_count : MethodName := ⟨"BrokerTreeModel", "count", "(I)I"⟩
abbrev mMO_count : x_M := (yMO_count, cMO_count, 2, (some FieldType.int))
abbrev cLW_law : ByteArray := code
def yLW_law : MethodName := ⟨"BrokerTreeLaw", "law", "([I)Z"⟩
abbrev mLW_law : x_M := (yLW_law, cLW_law, 7, ret)
set_option maxRecDepth 100000 in
theorem xm_0 : (Jvm.Cond.initialized "BrokerTreeLaw") ∈ xWS := List.mem_filter.mpr ⟨List.mem_append_right _ (List.mem_of_getElem? (i := 0) (by decide +kernel)), rfl⟩
set_option maxRecDepth 100000 in
theorem xm_1 : (Jvm.Cond.initialized "BrokerTree") ∈ xWS := List.mem_filter.mpr ⟨List.mem_append_right _ (List.mem_of_getElem? (i := 1) (by decide +kernel)), rfl⟩
set_option maxRecDepth 100000 in
theorem xm_2 : (Jvm.Cond.initialized "BrokerTree$Catalog") ∈ xWS := List.mem_filter.mpr ⟨List.mem_append_right _ (List.mem_of_getElem? (i := 2) (by decide +kernel)), rfl⟩
set_option maxRecDepth 100000 in
theorem xm_5 : (Jvm.Cond.initialized "java/util/ArrayList") ∈ xWS := List.mem_filter.mpr ⟨List.mem_append_right _ (List.mem_of_getElem? (i := 5) (by decide +kernel)), rfl⟩
set_option maxRecDepth 100000 in
theorem xm_6 : (Jvm.Cond.initialized "BrokerTree$Row") ∈ xWS := List.mem_filter.mpr ⟨List.mem_append_right _ (List.mem_of_getElem? (i := 6) (by decide +kernel)), rfl⟩
set_option maxRecDepth 100000 in
theorem xm_7 : (Jvm.Cond.initialized "BrokerTree$Link") ∈ xWS := List.mem_filter.mpr ⟨List.mem_append_right _ (List.mem_of_getElem? (i := 7) (by decide +kernel)), rfl⟩
set_option maxRecDepth 100000 in
theorem xm_8 : (Jvm.Cond.initialized "BrokerTree$Queue") ∈ xWS := List.mem_filter.mpr ⟨List.mem_append_right _ (List.mem_of_getElem? (i := 8) (by decide +kernel)), rfl⟩
set_option maxRecDepth 100000 in
theorem xm_9 : (Jvm.Cond.initialized "BrokerTreeModel") ∈ xWS := List.mem_filter.mpr ⟨List.mem_append_right _ (List.mem_of_getElem? (i := 9) (by decide +kernel)), rfl⟩
set_option maxRecDepth 100000 in
theorem xm_10 : (Jvm.Cond.initialized "BrokerTree$Filter") ∈ xWS := List.mem_filter.mpr ⟨List.mem_append_right _ (List.mem_of_getElem? (i := 10) (by decide +kernel)), rfl⟩
set_option maxRecDepth 100000 in
theorem xm_11 : (Jvm.Cond.initialized "BrokerTree$Span") ∈ xWS := List.mem_filter.mpr ⟨List.mem_append_right _ (List.mem_of_getElem? (i := 11) (by decide +kernel)), rfl⟩
set_option maxRecDepth 100000 in
theorem xm_12 : (Jvm.Cond.initialized "BrokerTree$Texts") ∈ xWS := List.mem_filter.mpr ⟨List.mem_append_right _ (List.mem_of_getElem? (i := 12) (by decide +kernel)), rfl⟩
set_option maxRecDepth 100000 in
theorem xm_13 : (Jvm.Cond.initialized "java/lang/Math") ∈ xWS := List.mem_filter.mpr ⟨List.mem_append_right _ (List.mem_of_getElem? (i := 13) (by decide +kernel)), rfl⟩
set_option maxRecDepth 100000 in
theorem xm_19 : (Jvm.Cond.initialized "java/util/Objects") ∈ xWS := List.mem_filter.mpr ⟨List.mem_append_right _ (List.mem_of_getElem? (i := 19) (by decide +kernel)), rfl⟩
set_option maxRecDepth 100000 in
theorem xm_20 : (Jvm.Cond.initialized "jdk/internal/util/Preconditions") ∈ xWS := List.mem_filter.mpr ⟨List.mem_append_right _ (List.mem_of_getElem? (i := 20) (by decide +kernel)), rfl⟩
set_option maxRecDepth 100000 in
theorem xm_21 : (Jvm.Cond.initialized "jdk/internal/util/ArraysSupport") ∈ xWS := List.mem_filter.mpr ⟨List.mem_append_right _ (List.mem_of_getElem? (i := 21) (by decide +kernel)), rfl⟩
set_option maxRecDepth 100000 in
theorem xm_22 : (Jvm.Cond.initialized "java/util/Arrays") ∈ xWS := List.mem_filter.mpr ⟨List.mem_append_right _ (List.mem_of_getElem? (i := 22) (by decide +kernel)), rfl⟩
set_option maxRecDepth 100000 in
theorem xm_25 : (Jvm.Cond.initialized "BrokerTree$Note") ∈ xWS := List.mem_filter.mpr ⟨List.mem_append_right _ (List.mem_of_getElem? (i := 25) (by decide +kernel)), rfl⟩
set_option maxRecDepth 100000 in
theorem xm_26 : (Jvm.Cond.classLink "BrokerTreeLaw" (8 : Nat) "BrokerTree") ∈ xWS := List.mem_filter.mpr ⟨List.mem_append_right _ (List.mem_of_getElem? (i := 26) (by decide +kernel)), rfl⟩
set_option maxRecDepth 100000 in
theorem xm_27 : (Jvm.Cond.instantiable "BrokerTree" (13 : Nat)) ∈ xWS := List.mem_filter.mpr ⟨List.mem_append_right _ (List.mem_of_getElem? (i := 27) (by decide +kernel)), rfl⟩
set_option maxRecDepth 100000 in
theorem xm_28 : (Jvm.Cond.methodLink "BrokerTreeLaw" (44 : Nat) ({ cls := "BrokerTree", name := "<init>", desc := "(I)V" } : Jvm.MethodName)) ∈ xWS := List.mem_filter.mpr ⟨List.mem_append_right _ (List.mem_of_getElem? (i := 28) (by decide +kernel)), rfl⟩
set_option maxRecDepth 100000 in
theorem xm_29 : (Jvm.Cond.instanceMethod ({ cls := "BrokerTree", name := "<init>", desc := "(I)V" } : Jvm.MethodName)) ∈ xWS := List.mem_filter.mpr ⟨List.mem_append_right _ (List.mem_of_getElem? (i := 29) (by decide +kernel)), rfl⟩
set_option maxRecDepth 100000 in
theorem xm_30 : (Jvm.Cond.code ({ cls := "BrokerTree", name := "<init>", desc := "(I)V" } : Jvm.MethodName) prog_1_method_1_code (4 : Nat) (Option.none : Option Jvm.ClassFile.FieldType)) ∈ xWS := List.mem_filter.mpr ⟨List.mem_append_right _ (List.mem_of_getElem? (i := 30) rfl), rfl⟩
set_option maxRecDepth 100000 in
theorem xm_31 : (Jvm.Cond.methodLink "BrokerTree" (5 : Nat) ({ cls := "java/lang/Object", name := "<init>", desc := "()V" } : Jvm.MethodName)) ∈ xWS := List.mem_filter.mpr ⟨List.mem_append_right _ (List.mem_of_getElem? (i := 31) (by decide +kernel)), rfl⟩
set_option maxRecDepth 100000 in
theorem xm_32 : (Jvm.Cond.instanceMethod ({ cls := "java/lang/Object", name := "<init>", desc := "()V" } : Jvm.MethodName)) ∈ xWS := List.mem_filter.mpr ⟨List.mem_append_right _ (List.mem_of_getElem? (i := 32) (by decide +kernel)), rfl⟩
set_option maxRecDepth 100000 in
theorem xm_33 : (Jvm.Cond.code ({ cls := "java/lang/Object", name := "<init>", desc := "()V" } : Jvm.MethodName) object_method_1_code (1 : Nat) (Option.none : Option Jvm.ClassFile.FieldType)) ∈ xWS := List.mem_filter.mpr ⟨List.mem_append_right _ (List.mem_of_getElem? (i := 33) rfl), rfl⟩
set_option maxRecDepth 100000 in
theorem xm_34 : (Jvm.Cond.classLink "BrokerTree" (15 : Nat) "BrokerTree$Link") ∈ xWS := List.mem_filter.mpr ⟨List.mem_append_right _ (List.mem_of_getElem? (i := 34) (by decide +kernel)), rfl⟩
set_option maxRecDepth 100000 in
theorem xm_36 : (Jvm.Cond.classLink "BrokerTree" (21 : Nat) "BrokerTree$Queue") ∈ xWS := List.mem_filter.mpr ⟨List.mem_append_right _ (List.mem_of_getElem? (i := 36) (by decide +kernel)), rfl⟩
set_option maxRecDepth 100000 in
theorem xm_38 : (Jvm.Cond.classLink "BrokerTree" (27 : Nat) "BrokerTree$Catalog") ∈ xWS := List.mem_filter.mpr ⟨List.mem_append_right _ (List.mem_of_getElem? (i := 38) (by decide +kernel)), rfl⟩
set_option maxRecDepth 100000 in
theorem xm_39 : (Jvm.Cond.instantiable "BrokerTree$Catalog" (2 : Nat)) ∈ xWS := List.mem_filter.mpr ⟨List.mem_append_right _ (List.mem_of_getElem? (i := 39) (by decide +kernel)), rfl⟩
set_option maxRecDepth 100000 in
theorem xm_41 : (Jvm.Cond.instanceMethod ({ cls := "BrokerTree$Catalog", name := "<init>", desc := "()V" } : Jvm.MethodName)) ∈ xWS := List.mem_filter.mpr ⟨List.mem_append_right _ (List.mem_of_getElem? (i := 41) (by decide +kernel)), rfl⟩
set_option maxRecDepth 100000 in
theorem xm_42 : (Jvm.Cond.code ({ cls := "BrokerTree$Catalog", name := "<init>", desc := "()V" } : Jvm.MethodName) prog_2_method_1_code (1 : Nat) (Option.none : Option Jvm.ClassFile.FieldType)) ∈ xWS := List.mem_filter.mpr ⟨List.mem_append_right _ (List.mem_of_getElem? (i := 42) rfl), rfl⟩
set_option maxRecDepth 100000 in
theorem xm_43 : (Jvm.Cond.methodLink "BrokerTree$Catalog" (3 : Nat) ({ cls := "java/lang/Object", name := "<init>", desc := "()V" } : Jvm.MethodName)) ∈ xWS := List.mem_filter.mpr ⟨List.mem_append_right _ (List.mem_of_getElem? (i := 43) (by decide +kernel)), rfl⟩
set_option maxRecDepth 100000 in
theorem xm_44 : (Jvm.Cond.classLink "BrokerTree$Catalog" (9 : Nat) "java/util/ArrayList") ∈ xWS := List.mem_filter.mpr ⟨List.mem_append_right _ (List.mem_of_getElem? (i := 44) (by decide +kernel)), rfl⟩
set_option maxRecDepth 100000 in
theorem xm_45 : (Jvm.Cond.instantiable "java/util/ArrayList" (3 : Nat)) ∈ xWS := List.mem_filter.mpr ⟨List.mem_append_right _ (List.mem_of_getElem? (i := 45) (by decide +kernel)), rfl⟩
set_option maxRecDepth 100000 in
theorem xm_46 : (Jvm.Cond.methodLink "BrokerTree$Catalog" (11 : Nat) ({ cls := "java/util/ArrayList", name := "<init>", desc := "()V" } : Jvm.MethodName)) ∈ xWS := List.mem_filter.mpr ⟨List.mem_append_right _ (List.mem_of_getElem? (i := 46) (by decide +kernel)), rfl⟩
set_option maxRecDepth 100000 in
theorem xm_47 : (Jvm.Cond.instanceMethod ({ cls := "java/util/ArrayList", name := "<init>", desc := "()V" } : Jvm.MethodName)) ∈ xWS := List.mem_filter.mpr ⟨List.mem_append_right _ (List.mem_of_getElem? (i := 47) (by decide +kernel)), rfl⟩
set_option maxRecDepth 100000 in
theorem xm_48 : (Jvm.Cond.code ({ cls := "java/util/ArrayList", name := "<init>", desc := "()V" } : Jvm.MethodName) prog_24_method_2_code (1 : Nat) (Option.none : Option Jvm.ClassFile.FieldType)) ∈ xWS := List.mem_filter.mpr ⟨List.mem_append_right _ (List.mem_of_getElem? (i := 48) rfl), rfl⟩
set_option maxRecDepth 100000 in
theorem xm_49 : (Jvm.Cond.methodLink "java/util/ArrayList" (1 : Nat) ({ cls := "java/util/AbstractList", name := "<init>", desc := "()V" } : Jvm.MethodName)) ∈ xWS := List.mem_filter.mpr ⟨List.mem_append_right _ (List.mem_of_getElem? (i := 49) (by decide +kernel)), rfl⟩
set_option maxRecDepth 100000 in
theorem xm_52 : (Jvm.Cond.methodLink "java/util/AbstractList" (1 : Nat) ({ cls := "java/util/AbstractCollection", name := "<init>", desc := "()V" } : Jvm.MethodName)) ∈ xWS := List.mem_filter.mpr ⟨List.mem_append_right _ (List.mem_of_getElem? (i := 52) (by decide +kernel)), rfl⟩
set_option maxRecDepth 100000 in
theorem xm_55 : (Jvm.Cond.methodLink "java/util/AbstractCollection" (1 : Nat) ({ cls := "java/lang/Object", name := "<init>", desc := "()V" } : Jvm.MethodName)) ∈ xWS := List.mem_filter.mpr ⟨List.mem_append_right _ (List.mem_of_getElem? (i := 55) (by decide +kernel)), rfl⟩
set_option maxRecDepth 100000 in
theorem xm_58 : (Jvm.Cond.fieldLink "java/util/ArrayList" (9 : Nat) "java/util/ArrayList" "elementData" "[Ljava/lang/Object;") ∈ xWS := List.mem_filter.mpr ⟨List.mem_append_right _ (List.mem_of_getElem? (i := 58) (by decide +kernel)), rfl⟩
set_option maxRecDepth 100000 in
theorem xm_59 : (Jvm.Cond.fieldLink "java/util/ArrayList" (48 : Nat) "java/util/ArrayList" "size" "I") ∈ xWS := List.mem_filter.mpr ⟨List.mem_append_right _ (List.mem_of_getElem? (i := 59) (by decide +kernel)), rfl⟩
set_option maxRecDepth 100000 in
theorem xm_63 : (Jvm.Cond.lays "java/util/ArrayList" "java/util/ArrayList" "elementData" "[Ljava/lang/Object;") ∈ xWS := List.mem_filter.mpr ⟨List.mem_append_right _ (List.mem_of_getElem? (i := 63) (by decide +kernel)), rfl⟩
set_option maxRecDepth 100000 in
theorem xm_65 : (Jvm.Cond.lays "java/util/ArrayList" "java/util/ArrayList" "size" "I") ∈ xWS := List.mem_filter.mpr ⟨List.mem_append_right _ (List.mem_of_getElem? (i := 65) (by decide +kernel)), rfl⟩
set_option maxRecDepth 100000 in
theorem xm_67 : (Jvm.Cond.lays "java/util/ArrayList" "java/util/AbstractList" "modCount" "I") ∈ xWS := List.mem_filter.mpr ⟨List.mem_append_right _ (List.mem_of_getElem? (i := 67) (by decide +kernel)), rfl⟩
set_option maxRecDepth 100000 in
theorem xm_70 : (Jvm.Cond.arrayClass Jvm.ClassFile.FieldType.char) ∈ xWS := List.mem_filter.mpr ⟨List.mem_append_right _ (List.mem_of_getElem? (i := 70) (by decide +kernel)), rfl⟩
set_option maxRecDepth 100000 in
theorem xm_71 : (Jvm.Cond.fieldLink "BrokerTree$Catalog" (12 : Nat) "BrokerTree$Catalog" "known" "Ljava/util/ArrayList;") ∈ xWS := List.mem_filter.mpr ⟨List.mem_append_right _ (List.mem_of_getElem? (i := 71) (by decide +kernel)), rfl⟩
set_option maxRecDepth 100000 in
theorem xm_72 : (Jvm.Cond.fieldLink "BrokerTree$Catalog" (18 : Nat) "BrokerTree$Catalog" "coverers" "[I") ∈ xWS := List.mem_filter.mpr ⟨List.mem_append_right _ (List.mem_of_getElem? (i := 72) (by decide +kernel)), rfl⟩
set_option maxRecDepth 100000 in
theorem xm_73 : (Jvm.Cond.laysFinal "BrokerTree$Catalog" "BrokerTree$Catalog" "known" "Ljava/util/ArrayList;") ∈ xWS := List.mem_filter.mpr ⟨List.mem_append_right _ (List.mem_of_getElem? (i := 73) (by decide +kernel)), rfl⟩
set_option maxRecDepth 100000 in
theorem xm_75 : (Jvm.Cond.laysFinal "BrokerTree$Catalog" "BrokerTree$Catalog" "coverers" "[I") ∈ xWS := List.mem_filter.mpr ⟨List.mem_append_right _ (List.mem_of_getElem? (i := 75) (by decide +kernel)), rfl⟩
set_option maxRecDepth 100000 in
theorem xm_78 : (Jvm.Cond.arrayClass Jvm.ClassFile.FieldType.int) ∈ xWS := List.mem_filter.mpr ⟨List.mem_append_right _ (List.mem_of_getElem? (i := 78) (by decide +kernel)), rfl⟩
set_option maxRecDepth 100000 in
theorem xm_79 : (Jvm.Cond.classLink "BrokerTree" (45 : Nat) "java/util/ArrayList") ∈ xWS := List.mem_filter.mpr ⟨List.mem_append_right _ (List.mem_of_getElem? (i := 79) (by decide +kernel)), rfl⟩
set_option maxRecDepth 100000 in
theorem xm_80 : (Jvm.Cond.methodLink "BrokerTree" (47 : Nat) ({ cls := "java/util/ArrayList", name := "<init>", desc := "()V" } : Jvm.MethodName)) ∈ xWS := List.mem_filter.mpr ⟨List.mem_append_right _ (List.mem_of_getElem? (i := 80) (by decide +kernel)), rfl⟩
set_option maxRecDepth 100000 in
theorem xm_81 : (Jvm.Cond.classLink "BrokerTree" (55 : Nat) "BrokerTree$Row") ∈ xWS := List.mem_filter.mpr ⟨List.mem_append_right _ (List.mem_of_getElem? (i := 81) (by decide +kernel)), rfl⟩
set_option maxRecDepth 100000 in
theorem xm_82 : (Jvm.Cond.instantiable "BrokerTree$Row" (3 : Nat)) ∈ xWS := List.mem_filter.mpr ⟨List.mem_append_right _ (List.mem_of_getElem? (i := 82) (by decide +kernel)), rfl⟩
set_option maxRecDepth 100000 in
theorem xm_84 : (Jvm.Cond.instanceMethod ({ cls := "BrokerTree$Row", name := "<init>", desc := "()V" } : Jvm.MethodName)) ∈ xWS := List.mem_filter.mpr ⟨List.mem_append_right _ (List.mem_of_getElem? (i := 84) (by decide +kernel)), rfl⟩
set_option maxRecDepth 100000 in
theorem xm_85 : (Jvm.Cond.code ({ cls := "BrokerTree$Row", name := "<init>", desc := "()V" } : Jvm.MethodName) prog_7_method_1_code (1 : Nat) (Option.none : Option Jvm.ClassFile.FieldType)) ∈ xWS := List.mem_filter.mpr ⟨List.mem_append_right _ (List.mem_of_getElem? (i := 85) rfl), rfl⟩
set_option maxRecDepth 100000 in
theorem xm_86 : (Jvm.Cond.methodLink "BrokerTree$Row" (3 : Nat) ({ cls := "java/lang/Object", name := "<init>", desc := "()V" } : Jvm.MethodName)) ∈ xWS := List.mem_filter.mpr ⟨List.mem_append_right _ (List.mem_of_getElem? (i := 86) (by decide +kernel)), rfl⟩
set_option maxRecDepth 100000 in
theorem xm_87 : (Jvm.Cond.fieldLink "BrokerTree$Row" (9 : Nat) "BrokerTree$Row" "items" "[I") ∈ xWS := List.mem_filter.mpr ⟨List.mem_append_right _ (List.mem_of_getElem? (i := 87) (by decide +kernel)), rfl⟩
set_option maxRecDepth 100000 in
theorem xm_88 : (Jvm.Cond.fieldLink "BrokerTree$Row" (15 : Nat) "BrokerTree$Row" "size" "I") ∈ xWS := List.mem_filter.mpr ⟨List.mem_append_right _ (List.mem_of_getElem? (i := 88) (by decide +kernel)), rfl⟩
set_option maxRecDepth 100000 in
theorem xm_89 : (Jvm.Cond.fieldLink "BrokerTree$Row" (19 : Nat) "BrokerTree$Row" "members" "I") ∈ xWS := List.mem_filter.mpr ⟨List.mem_append_right _ (List.mem_of_getElem? (i := 89) (by decide +kernel)), rfl⟩
set_option maxRecDepth 100000 in
theorem xm_90 : (Jvm.Cond.laysFinal "BrokerTree$Row" "BrokerTree$Row" "items" "[I") ∈ xWS := List.mem_filter.mpr ⟨List.mem_append_right _ (List.mem_of_getElem? (i := 90) (by decide +kernel)), rfl⟩
set_option maxRecDepth 100000 in
theorem xm_92 : (Jvm.Cond.lays "BrokerTree$Row" "BrokerTree$Row" "size" "I") ∈ xWS := List.mem_filter.mpr ⟨List.mem_append_right _ (List.mem_of_getElem? (i := 92) (by decide +kernel)), rfl⟩
set_option maxRecDepth 100000 in
theorem xm_94 : (Jvm.Cond.lays "BrokerTree$Row" "BrokerTree$Row" "members" "I") ∈ xWS := List.mem_filter.mpr ⟨List.mem_append_right _ (List.mem_of_getElem? (i := 94) (by decide +kernel)), rfl⟩
set_option maxRecDepth 100000 in
theorem xm_97 : (Jvm.Cond.arrayClass Jvm.ClassFile.FieldType.boolean) ∈ xWS := List.mem_filter.mpr ⟨List.mem_append_right _ (List.mem_of_getElem? (i := 97) (by decide +kernel)), rfl⟩
set_option maxRecDepth 100000 in
theorem xm_98 : (Jvm.Cond.instantiable "BrokerTree$Link" (5 : Nat)) ∈ xWS := List.mem_filter.mpr ⟨List.mem_append_right _ (List.mem_of_getElem? (i := 98) (by decide +kernel)), rfl⟩
set_option maxRecDepth 100000 in
theorem xm_99 : (Jvm.Cond.methodLink "BrokerTree" (65 : Nat) ({ cls := "BrokerTree$Link", name := "<init>", desc := "(II)V" } : Jvm.MethodName)) ∈ xWS := List.mem_filter.mpr ⟨List.mem_append_right _ (List.mem_of_getElem? (i := 99) (by decide +kernel)), rfl⟩
set_option maxRecDepth 100000 in
theorem xm_100 : (Jvm.Cond.instanceMethod ({ cls := "BrokerTree$Link", name := "<init>", desc := "(II)V" } : Jvm.MethodName)) ∈ xWS := List.mem_filter.mpr ⟨List.mem_append_right _ (List.mem_of_getElem? (i := 100) (by decide +kernel)), rfl⟩
set_option maxRecDepth 100000 in
theorem xm_101 : (Jvm.Cond.code ({ cls := "BrokerTree$Link", name := "<init>", desc := "(II)V" } : Jvm.MethodName) prog_4_method_1_code (3 : Nat) (Option.none : Option Jvm.ClassFile.FieldType)) ∈ xWS := List.mem_filter.mpr ⟨List.mem_append_right _ (List.mem_of_getElem? (i := 101) rfl), rfl⟩
set_option maxRecDepth 100000 in
theorem xm_102 : (Jvm.Cond.methodLink "BrokerTree$Link" (1 : Nat) ({ cls := "java/lang/Object", name := "<init>", desc := "()V" } : Jvm.MethodName)) ∈ xWS := List.mem_filter.mpr ⟨List.mem_append_right _ (List.mem_of_getElem? (i := 102) (by decide +kernel)), rfl⟩
set_option maxRecDepth 100000 in
theorem xm_103 : (Jvm.Cond.classLink "BrokerTree$Link" (7 : Nat) "BrokerTree$Row") ∈ xWS := List.mem_filter.mpr ⟨List.mem_append_right _ (List.mem_of_getElem? (i := 103) (by decide +kernel)), rfl⟩
set_option maxRecDepth 100000 in
theorem xm_105 : (Jvm.Cond.classLink "BrokerTree$Link" (19 : Nat) "BrokerTree$Queue") ∈ xWS := List.mem_filter.mpr ⟨List.mem_append_right _ (List.mem_of_getElem? (i := 105) (by decide +kernel)), rfl⟩
set_option maxRecDepth 100000 in
theorem xm_106 : (Jvm.Cond.instantiable "BrokerTree$Queue" (3 : Nat)) ∈ xWS := List.mem_filter.mpr ⟨List.mem_append_right _ (List.mem_of_getElem? (i := 106) (by decide +kernel)), rfl⟩
set_option maxRecDepth 100000 in
theorem xm_108 : (Jvm.Cond.instanceMethod ({ cls := "BrokerTree$Queue", name := "<init>", desc := "()V" } : Jvm.MethodName)) ∈ xWS := List.mem_filter.mpr ⟨List.mem_append_right _ (List.mem_of_getElem? (i := 108) (by decide +kernel)), rfl⟩
set_option maxRecDepth 100000 in
theorem xm_109 : (Jvm.Cond.code ({ cls := "BrokerTree$Queue", name := "<init>", desc := "()V" } : Jvm.MethodName) prog_6_method_1_code (1 : Nat) (Option.none : Option Jvm.ClassFile.FieldType)) ∈ xWS := List.mem_filter.mpr ⟨List.mem_append_right _ (List.mem_of_getElem? (i := 109) rfl), rfl⟩
set_option maxRecDepth 100000 in
theorem xm_110 : (Jvm.Cond.methodLink "BrokerTree$Queue" (3 : Nat) ({ cls := "java/lang/Object", name := "<init>", desc := "()V" } : Jvm.MethodName)) ∈ xWS := List.mem_filter.mpr ⟨List.mem_append_right _ (List.mem_of_getElem? (i := 110) (by decide +kernel)), rfl⟩
set_option maxRecDepth 100000 in
theorem xm_111 : (Jvm.Cond.fieldLink "BrokerTree$Queue" (9 : Nat) "BrokerTree$Queue" "items" "[I") ∈ xWS := List.mem_filter.mpr ⟨List.mem_append_right _ (List.mem_of_getElem? (i := 111) (by decide +kernel)), rfl⟩
set_option maxRecDepth 100000 in
theorem xm_112 : (Jvm.Cond.fieldLink "BrokerTree$Queue" (22 : Nat) "BrokerTree$Queue" "first" "I") ∈ xWS := List.mem_filter.mpr ⟨List.mem_append_right _ (List.mem_of_getElem? (i := 112) (by decide +kernel)), rfl⟩
set_option maxRecDepth 100000 in
theorem xm_113 : (Jvm.Cond.fieldLink "BrokerTree$Queue" (15 : Nat) "BrokerTree$Queue" "size" "I") ∈ xWS := List.mem_filter.mpr ⟨List.mem_append_right _ (List.mem_of_getElem? (i := 113) (by decide +kernel)), rfl⟩
set_option maxRecDepth 100000 in
theorem xm_114 : (Jvm.Cond.lays "BrokerTree$Queue" "BrokerTree$Queue" "items" "[I") ∈ xWS := List.mem_filter.mpr ⟨List.mem_append_right _ (List.mem_of_getElem? (i := 114) (by decide +kernel)), rfl⟩
set_option maxRecDepth 100000 in
theorem xm_116 : (Jvm.Cond.lays "BrokerTree$Queue" "BrokerTree$Queue" "first" "I") ∈ xWS := List.mem_filter.mpr ⟨List.mem_append_right _ (List.mem_of_getElem? (i := 116) (by decide +kernel)), rfl⟩
set_option maxRecDepth 100000 in
theorem xm_118 : (Jvm.Cond.lays "BrokerTree$Queue" "BrokerTree$Queue" "size" "I") ∈ xWS := List.mem_filter.mpr ⟨List.mem_append_right _ (List.mem_of_getElem? (i := 118) (by decide +kernel)), rfl⟩
set_option maxRecDepth 100000 in
theorem xm_121 : (Jvm.Cond.fieldLink "BrokerTree$Link" (26 : Nat) "BrokerTree$Link" "from" "I") ∈ xWS := List.mem_filter.mpr ⟨List.mem_append_right _ (List.mem_of_getElem? (i := 121) (by decide +kernel)), rfl⟩
set_option maxRecDepth 100000 in
theorem xm_122 : (Jvm.Cond.fieldLink "BrokerTree" (171 : Nat) "BrokerTree$Link" "from" "I") ∈ xWS := List.mem_filter.mpr ⟨List.mem_append_right _ (List.mem_of_getElem? (i := 122) (by decide +kernel)), rfl⟩
set_option maxRecDepth 100000 in
theorem xm_123 : (Jvm.Cond.fieldLink "BrokerTree$Link" (30 : Nat) "BrokerTree$Link" "to" "I") ∈ xWS := List.mem_filter.mpr ⟨List.mem_append_right _ (List.mem_of_getElem? (i := 123) (by decide +kernel)), rfl⟩
set_option maxRecDepth 100000 in
theorem xm_124 : (Jvm.Cond.fieldLink "BrokerTree" (168 : Nat) "BrokerTree$Link" "to" "I") ∈ xWS := List.mem_filter.mpr ⟨List.mem_append_right _ (List.mem_of_getElem? (i := 124) (by decide +kernel)), rfl⟩
set_option maxRecDepth 100000 in
theorem xm_125 : (Jvm.Cond.fieldLink "BrokerTree$Link" (10 : Nat) "BrokerTree$Link" "told" "LBrokerTree$Row;") ∈ xWS := List.mem_filter.mpr ⟨List.mem_append_right _ (List.mem_of_getElem? (i := 125) (by decide +kernel)), rfl⟩
set_option maxRecDepth 100000 in
theorem xm_126 : (Jvm.Cond.fieldLink "BrokerTree" (157 : Nat) "BrokerTree$Link" "told" "LBrokerTree$Row;") ∈ xWS := List.mem_filter.mpr ⟨List.mem_append_right _ (List.mem_of_getElem? (i := 126) (by decide +kernel)), rfl⟩
set_option maxRecDepth 100000 in
theorem xm_127 : (Jvm.Cond.fieldLink "BrokerTree$Link" (16 : Nat) "BrokerTree$Link" "heard" "LBrokerTree$Row;") ∈ xWS := List.mem_filter.mpr ⟨List.mem_append_right _ (List.mem_of_getElem? (i := 127) (by decide +kernel)), rfl⟩
set_option maxRecDepth 100000 in
theorem xm_128 : (Jvm.Cond.fieldLink "BrokerTree" (153 : Nat) "BrokerTree$Link" "heard" "LBrokerTree$Row;") ∈ xWS := List.mem_filter.mpr ⟨List.mem_append_right _ (List.mem_of_getElem? (i := 128) (by decide +kernel)), rfl⟩
set_option maxRecDepth 100000 in
theorem xm_129 : (Jvm.Cond.fieldLink "BrokerTree$Link" (22 : Nat) "BrokerTree$Link" "line" "LBrokerTree$Queue;") ∈ xWS := List.mem_filter.mpr ⟨List.mem_append_right _ (List.mem_of_getElem? (i := 129) (by decide +kernel)), rfl⟩
set_option maxRecDepth 100000 in
theorem xm_130 : (Jvm.Cond.fieldLink "BrokerTree" (137 : Nat) "BrokerTree$Link" "line" "LBrokerTree$Queue;") ∈ xWS := List.mem_filter.mpr ⟨List.mem_append_right _ (List.mem_of_getElem? (i := 130) (by decide +kernel)), rfl⟩
set_option maxRecDepth 100000 in
theorem xm_131 : (Jvm.Cond.laysFinal "BrokerTree$Link" "BrokerTree$Link" "from" "I") ∈ xWS := List.mem_filter.mpr ⟨List.mem_append_right _ (List.mem_of_getElem? (i := 131) (by decide +kernel)), rfl⟩
set_option maxRecDepth 100000 in
theorem xm_133 : (Jvm.Cond.laysFinal "BrokerTree$Link" "BrokerTree$Link" "to" "I") ∈ xWS := List.mem_filter.mpr ⟨List.mem_append_right _ (List.mem_of_getElem? (i := 133) (by decide +kernel)), rfl⟩
set_option maxRecDepth 100000 in
theorem xm_135 : (Jvm.Cond.laysFinal "BrokerTree$Link" "BrokerTree$Link" "told" "LBrokerTree$Row;") ∈ xWS := List.mem_filter.mpr ⟨List.mem_append_right _ (List.mem_of_getElem? (i := 135) (by decide +kernel)), rfl⟩
set_option maxRecDepth 100000 in
theorem xm_137 : (Jvm.Cond.laysFinal "BrokerTree$Link" "BrokerTree$Link" "heard" "LBrokerTree$Row;") ∈ xWS := List.mem_filter.mpr ⟨List.mem_append_right _ (List.mem_of_getElem? (i := 137) (by decide +kernel)), rfl⟩
set_option maxRecDepth 100000 in
theorem xm_139 : (Jvm.Cond.laysFinal "BrokerTree$Link" "BrokerTree$Link" "line" "LBrokerTree$Queue;") ∈ xWS := List.mem_filter.mpr ⟨List.mem_append_right _ (List.mem_of_getElem? (i := 139) (by decide +kernel)), rfl⟩
set_option maxRecDepth 100000 in
theorem xm_143 : (Jvm.Cond.fieldLink "BrokerTree" (11 : Nat) "BrokerTree" "draft" "[C") ∈ xWS := List.mem_filter.mpr ⟨List.mem_append_right _ (List.mem_of_getElem? (i := 143) (by decide +kernel)), rfl⟩
set_option maxRecDepth 100000 in
theorem xm_144 : (Jvm.Cond.fieldLink "BrokerTree" (69 : Nat) "BrokerTree" "draftSize" "I") ∈ xWS := List.mem_filter.mpr ⟨List.mem_append_right _ (List.mem_of_getElem? (i := 144) (by decide +kernel)), rfl⟩
set_option maxRecDepth 100000 in
theorem xm_145 : (Jvm.Cond.fieldLink "BrokerTree" (17 : Nat) "BrokerTree" "links" "[LBrokerTree$Link;") ∈ xWS := List.mem_filter.mpr ⟨List.mem_append_right _ (List.mem_of_getElem? (i := 145) (by decide +kernel)), rfl⟩
set_option maxRecDepth 100000 in
theorem xm_146 : (Jvm.Cond.fieldLink "BrokerTree" (23 : Nat) "BrokerTree" "inboxes" "[LBrokerTree$Queue;") ∈ xWS := List.mem_filter.mpr ⟨List.mem_append_right _ (List.mem_of_getElem? (i := 146) (by decide +kernel)), rfl⟩
set_option maxRecDepth 100000 in
theorem xm_147 : (Jvm.Cond.fieldLink "BrokerTree" (30 : Nat) "BrokerTree" "catalog" "LBrokerTree$Catalog;") ∈ xWS := List.mem_filter.mpr ⟨List.mem_append_right _ (List.mem_of_getElem? (i := 147) (by decide +kernel)), rfl⟩
set_option maxRecDepth 100000 in
theorem xm_148 : (Jvm.Cond.fieldLink "BrokerTree" (34 : Nat) "BrokerTree" "subscriber" "[I") ∈ xWS := List.mem_filter.mpr ⟨List.mem_append_right _ (List.mem_of_getElem? (i := 148) (by decide +kernel)), rfl⟩
set_option maxRecDepth 100000 in
theorem xm_149 : (Jvm.Cond.fieldLink "BrokerTree" (38 : Nat) "BrokerTree" "wanted" "[I") ∈ xWS := List.mem_filter.mpr ⟨List.mem_append_right _ (List.mem_of_getElem? (i := 149) (by decide +kernel)), rfl⟩
set_option maxRecDepth 100000 in
theorem xm_150 : (Jvm.Cond.fieldLink "BrokerTree" (41 : Nat) "BrokerTree" "ended" "[Z") ∈ xWS := List.mem_filter.mpr ⟨List.mem_append_right _ (List.mem_of_getElem? (i := 150) (by decide +kernel)), rfl⟩
set_option maxRecDepth 100000 in
theorem xm_151 : (Jvm.Cond.fieldLink "BrokerTree" (86 : Nat) "BrokerTree" "subscriptions" "I") ∈ xWS := List.mem_filter.mpr ⟨List.mem_append_right _ (List.mem_of_getElem? (i := 151) (by decide +kernel)), rfl⟩
set_option maxRecDepth 100000 in
theorem xm_152 : (Jvm.Cond.fieldLink "BrokerTree" (48 : Nat) "BrokerTree" "notes" "Ljava/util/ArrayList;") ∈ xWS := List.mem_filter.mpr ⟨List.mem_append_right _ (List.mem_of_getElem? (i := 152) (by decide +kernel)), rfl⟩
set_option maxRecDepth 100000 in
theorem xm_153 : (Jvm.Cond.fieldLink "BrokerTree" (52 : Nat) "BrokerTree" "counted" "[I") ∈ xWS := List.mem_filter.mpr ⟨List.mem_append_right _ (List.mem_of_getElem? (i := 153) (by decide +kernel)), rfl⟩
set_option maxRecDepth 100000 in
theorem xm_154 : (Jvm.Cond.fieldLink "BrokerTree" (58 : Nat) "BrokerTree" "offered" "LBrokerTree$Row;") ∈ xWS := List.mem_filter.mpr ⟨List.mem_append_right _ (List.mem_of_getElem? (i := 154) (by decide +kernel)), rfl⟩
set_option maxRecDepth 100000 in
theorem xm_155 : (Jvm.Cond.fieldLink "BrokerTree" (62 : Nat) "BrokerTree" "need" "LBrokerTree$Row;") ∈ xWS := List.mem_filter.mpr ⟨List.mem_append_right _ (List.mem_of_getElem? (i := 155) (by decide +kernel)), rfl⟩
set_option maxRecDepth 100000 in
theorem xm_156 : (Jvm.Cond.laysFinal "BrokerTree" "BrokerTree" "draft" "[C") ∈ xWS := List.mem_filter.mpr ⟨List.mem_append_right _ (List.mem_of_getElem? (i := 156) (by decide +kernel)), rfl⟩
set_option maxRecDepth 100000 in
theorem xm_158 : (Jvm.Cond.lays "BrokerTree" "BrokerTree" "draftSize" "I") ∈ xWS := List.mem_filter.mpr ⟨List.mem_append_right _ (List.mem_of_getElem? (i := 158) (by decide +kernel)), rfl⟩
set_option maxRecDepth 100000 in
theorem xm_160 : (Jvm.Cond.laysFinal "BrokerTree" "BrokerTree" "links" "[LBrokerTree$Link;") ∈ xWS := List.mem_filter.mpr ⟨List.mem_append_right _ (List.mem_of_getElem? (i := 160) (by decide +kernel)), rfl⟩
set_option maxRecDepth 100000 in
theorem xm_162 : (Jvm.Cond.laysFinal "BrokerTree" "BrokerTree" "inboxes" "[LBrokerTree$Queue;") ∈ xWS := List.mem_filter.mpr ⟨List.mem_append_right _ (List.mem_of_getElem? (i := 162) (by decide +kernel)), rfl⟩
set_option maxRecDepth 100000 in
theorem xm_164 : (Jvm.Cond.laysFinal "BrokerTree" "BrokerTree" "catalog" "LBrokerTree$Catalog;") ∈ xWS := List.mem_filter.mpr ⟨List.mem_append_right _ (List.mem_of_getElem? (i := 164) (by decide +kernel)), rfl⟩
set_option maxRecDepth 100000 in
theorem xm_166 : (Jvm.Cond.laysFinal "BrokerTree" "BrokerTree" "subscriber" "[I") ∈ xWS := List.mem_filter.mpr ⟨List.mem_append_right _ (List.mem_of_getElem? (i := 166) (by decide +kernel)), rfl⟩
set_option maxRecDepth 100000 in
theorem xm_168 : (Jvm.Cond.laysFinal "BrokerTree" "BrokerTree" "wanted" "[I") ∈ xWS := List.mem_filter.mpr ⟨List.mem_append_right _ (List.mem_of_getElem? (i := 168) (by decide +kernel)), rfl⟩
set_option maxRecDepth 100000 in
theorem xm_170 : (Jvm.Cond.laysFinal "BrokerTree" "BrokerTree" "ended" "[Z") ∈ xWS := List.mem_filter.mpr ⟨List.mem_append_right _ (List.mem_of_getElem? (i := 170) (by decide +kernel)), rfl⟩
set_option maxRecDepth 100000 in
theorem xm_172 : (Jvm.Cond.lays "BrokerTree" "BrokerTree" "subscriptions" "I") ∈ xWS := List.mem_filter.mpr ⟨List.mem_append_right _ (List.mem_of_getElem? (i := 172) (by decide +kernel)), rfl⟩
set_option maxRecDepth 100000 in
theorem xm_174 : (Jvm.Cond.laysFinal "BrokerTree" "BrokerTree" "notes" "Ljava/util/ArrayList;") ∈ xWS := List.mem_filter.mpr ⟨List.mem_append_right _ (List.mem_of_getElem? (i := 174) (by decide +kernel)), rfl⟩
set_option maxRecDepth 100000 in
theorem xm_176 : (Jvm.Cond.laysFinal "BrokerTree" "BrokerTree" "counted" "[I") ∈ xWS := List.mem_filter.mpr ⟨List.mem_append_right _ (List.mem_of_getElem? (i := 176) (by decide +kernel)), rfl⟩
set_option maxRecDepth 100000 in
theorem xm_178 : (Jvm.Cond.laysFinal "BrokerTree" "BrokerTree" "offered" "LBrokerTree$Row;") ∈ xWS := List.mem_filter.mpr ⟨List.mem_append_right _ (List.mem_of_getElem? (i := 178) (by decide +kernel)), rfl⟩
set_option maxRecDepth 100000 in
theorem xm_180 : (Jvm.Cond.laysFinal "BrokerTree" "BrokerTree" "need" "LBrokerTree$Row;") ∈ xWS := List.mem_filter.mpr ⟨List.mem_append_right _ (List.mem_of_getElem? (i := 180) (by decide +kernel)), rfl⟩
set_option maxRecDepth 100000 in
theorem xm_183 : (Jvm.Cond.methodLink "BrokerTreeLaw" (49 : Nat) ({ cls := "BrokerTree", name := "write", desc := "(C)Z" } : Jvm.MethodName)) ∈ xWS := List.mem_filter.mpr ⟨List.mem_append_right _ (List.mem_of_getElem? (i := 183) (by decide +kernel)), rfl⟩
set_option maxRecDepth 100000 in
theorem xm_184 : (Jvm.Cond.instanceMethod ({ cls := "BrokerTree", name := "write", desc := "(C)Z" } : Jvm.MethodName)) ∈ xWS := List.mem_filter.mpr ⟨List.mem_append_right _ (List.mem_of_getElem? (i := 184) (by decide +kernel)), rfl⟩
set_option maxRecDepth 100000 in
theorem xm_185 : (Jvm.Cond.selects "BrokerTree" ({ cls := "BrokerTree", name := "write", desc := "(C)Z" } : Jvm.MethodName) ({ cls := "BrokerTree", name := "write", desc := "(C)Z" } : Jvm.MethodName)) ∈ xWS := List.mem_filter.mpr ⟨List.mem_append_right _ (List.mem_of_getElem? (i := 185) (by decide +kernel)), rfl⟩
set_option maxRecDepth 100000 in
theorem xm_186 : (Jvm.Cond.code ({ cls := "BrokerTree", name := "write", desc := "(C)Z" } : Jvm.MethodName) prog_1_method_2_code (2 : Nat) (Option.some Jvm.ClassFile.FieldType.boolean)) ∈ xWS := List.mem_filter.mpr ⟨List.mem_append_right _ (List.mem_of_getElem? (i := 186) rfl), rfl⟩
set_option maxRecDepth 100000 in
theorem xm_187 : (Jvm.Cond.methodLink "BrokerTreeLaw" (74 : Nat) ({ cls := "BrokerTree", name := "waiting", desc := "(II)I" } : Jvm.MethodName)) ∈ xWS := List.mem_filter.mpr ⟨List.mem_append_right _ (List.mem_of_getElem? (i := 187) (by decide +kernel)), rfl⟩
set_option maxRecDepth 100000 in
theorem xm_188 : (Jvm.Cond.instanceMethod ({ cls := "BrokerTree", name := "waiting", desc := "(II)I" } : Jvm.MethodName)) ∈ xWS := List.mem_filter.mpr ⟨List.mem_append_right _ (List.mem_of_getElem? (i := 188) (by decide +kernel)), rfl⟩
set_option maxRecDepth 100000 in
theorem xm_189 : (Jvm.Cond.selects "BrokerTree" ({ cls := "BrokerTree", name := "waiting", desc := "(II)I" } : Jvm.MethodName) ({ cls := "BrokerTree", name := "waiting", desc := "(II)I" } : Jvm.MethodName)) ∈ xWS := List.mem_filter.mpr ⟨List.mem_append_right _ (List.mem_of_getElem? (i := 189) (by decide +kernel)), rfl⟩
set_option maxRecDepth 100000 in
theorem xm_190 : (Jvm.Cond.code ({ cls := "BrokerTree", name := "waiting", desc := "(II)I" } : Jvm.MethodName) prog_1_method_7_code (4 : Nat) (Option.some Jvm.ClassFile.FieldType.int)) ∈ xWS := List.mem_filter.mpr ⟨List.mem_append_right _ (List.mem_of_getElem? (i := 190) rfl), rfl⟩
set_option maxRecDepth 100000 in
theorem xm_191 : (Jvm.Cond.methodLink "BrokerTree" (133 : Nat) ({ cls := "BrokerTree", name := "linkBetween", desc := "(II)LBrokerTree$Link;" } : Jvm.MethodName)) ∈ xWS := List.mem_filter.mpr ⟨List.mem_append_right _ (List.mem_of_getElem? (i := 191) (by decide +kernel)), rfl⟩
set_option maxRecDepth 100000 in
theorem xm_193 : (Jvm.Cond.instanceMethod ({ cls := "BrokerTree", name := "linkBetween", desc := "(II)LBrokerTree$Link;" } : Jvm.MethodName)) ∈ xWS := List.mem_filter.mpr ⟨List.mem_append_right _ (List.mem_of_getElem? (i := 193) (by decide +kernel)), rfl⟩
set_option maxRecDepth 100000 in
theorem xm_194 : (Jvm.Cond.code ({ cls := "BrokerTree", name := "linkBetween", desc := "(II)LBrokerTree$Link;" } : Jvm.MethodName) prog_1_method_16_code (3 : Nat) (Option.some (Jvm.ClassFile.FieldType.object "BrokerTree$Link"))) ∈ xWS := List.mem_filter.mpr ⟨List.mem_append_right _ (List.mem_of_getElem? (i := 194) rfl), rfl⟩
set_option maxRecDepth 100000 in
theorem xm_195 : (Jvm.Cond.methodLink "BrokerTree" (141 : Nat) ({ cls := "BrokerTree$Queue", name := "size", desc := "()I" } : Jvm.MethodName)) ∈ xWS := List.mem_filter.mpr ⟨List.mem_append_right _ (List.mem_of_getElem? (i := 195) (by decide +kernel)), rfl⟩
set_option maxRecDepth 100000 in
theorem xm_196 : (Jvm.Cond.instanceMethod ({ cls := "BrokerTree$Queue", name := "size", desc := "()I" } : Jvm.MethodName)) ∈ xWS := List.mem_filter.mpr ⟨List.mem_append_right _ (List.mem_of_getElem? (i := 196) (by decide +kernel)), rfl⟩
set_option maxRecDepth 100000 in
theorem xm_197 : (Jvm.Cond.selects "BrokerTree$Queue" ({ cls := "BrokerTree$Queue", name := "size", desc := "()I" } : Jvm.MethodName) ({ cls := "BrokerTree$Queue", name := "size", desc := "()I" } : Jvm.MethodName)) ∈ xWS := List.mem_filter.mpr ⟨List.mem_append_right _ (List.mem_of_getElem? (i := 197) (by decide +kernel)), rfl⟩
set_option maxRecDepth 100000 in
theorem xm_198 : (Jvm.Cond.code ({ cls := "BrokerTree$Queue", name := "size", desc := "()I" } : Jvm.MethodName) prog_6_method_2_code (1 : Nat) (Option.some Jvm.ClassFile.FieldType.int)) ∈ xWS := List.mem_filter.mpr ⟨List.mem_append_right _ (List.mem_of_getElem? (i := 198) rfl), rfl⟩
set_option maxRecDepth 100000 in
theorem xm_199 : (Jvm.Cond.methodLink "BrokerTreeLaw" (78 : Nat) ({ cls := "BrokerTree", name := "run", desc := "()I" } : Jvm.MethodName)) ∈ xWS := List.mem_filter.mpr ⟨List.mem_append_right _ (List.mem_of_getElem? (i := 199) (by decide +kernel)), rfl⟩
set_option maxRecDepth 100000 in
theorem xm_200 : (Jvm.Cond.instanceMethod ({ cls := "BrokerTree", name := "run", desc := "()I" } : Jvm.MethodName)) ∈ xWS := List.mem_filter.mpr ⟨List.mem_append_right _ (List.mem_of_getElem? (i := 200) (by decide +kernel)), rfl⟩
set_option maxRecDepth 100000 in
theorem xm_201 : (Jvm.Cond.selects "BrokerTree" ({ cls := "BrokerTree", name := "run", desc := "()I" } : Jvm.MethodName) ({ cls := "BrokerTree", name := "run", desc := "()I" } : Jvm.MethodName)) ∈ xWS := List.mem_filter.mpr ⟨List.mem_append_right _ (List.mem_of_getElem? (i := 201) (by decide +kernel)), rfl⟩
set_option maxRecDepth 100000 in
theorem xm_202 : (Jvm.Cond.code ({ cls := "BrokerTree", name := "run", desc := "()I" } : Jvm.MethodName) prog_1_method_8_code (3 : Nat) (Option.some Jvm.ClassFile.FieldType.int)) ∈ xWS := List.mem_filter.mpr ⟨List.mem_append_right _ (List.mem_of_getElem? (i := 202) rfl), rfl⟩
set_option maxRecDepth 100000 in
theorem xm_203 : (Jvm.Cond.methodLink "BrokerTree" (146 : Nat) ({ cls := "BrokerTree", name := "firstBusyLink", desc := "()LBrokerTree$Link;" } : Jvm.MethodName)) ∈ xWS := List.mem_filter.mpr ⟨List.mem_append_right _ (List.mem_of_getElem? (i := 203) (by decide +kernel)), rfl⟩
set_option maxRecDepth 100000 in
theorem xm_205 : (Jvm.Cond.instanceMethod ({ cls := "BrokerTree", name := "firstBusyLink", desc := "()LBrokerTree$Link;" } : Jvm.MethodName)) ∈ xWS := List.mem_filter.mpr ⟨List.mem_append_right _ (List.mem_of_getElem? (i := 205) (by decide +kernel)), rfl⟩
set_option maxRecDepth 100000 in
theorem xm_206 : (Jvm.Cond.code ({ cls := "BrokerTree", name := "firstBusyLink", desc := "()LBrokerTree$Link;" } : Jvm.MethodName) prog_1_method_17_code (3 : Nat) (Option.some (Jvm.ClassFile.FieldType.object "BrokerTree$Link"))) ∈ xWS := List.mem_filter.mpr ⟨List.mem_append_right _ (List.mem_of_getElem? (i := 206) rfl), rfl⟩
set_option maxRecDepth 100000 in
theorem xm_207 : (Jvm.Cond.methodLink "BrokerTree" (142 : Nat) ({ cls := "BrokerTree", name := "takeFirst", desc := "(LBrokerTree$Link;)I" } : Jvm.MethodName)) ∈ xWS := List.mem_filter.mpr ⟨List.mem_append_right _ (List.mem_of_getElem? (i := 207) (by decide +kernel)), rfl⟩
set_option maxRecDepth 100000 in
theorem xm_209 : (Jvm.Cond.instanceMethod ({ cls := "BrokerTree", name := "takeFirst", desc := "(LBrokerTree$Link;)I" } : Jvm.MethodName)) ∈ xWS := List.mem_filter.mpr ⟨List.mem_append_right _ (List.mem_of_getElem? (i := 209) (by decide +kernel)), rfl⟩
set_option maxRecDepth 100000 in
theorem xm_210 : (Jvm.Cond.code ({ cls := "BrokerTree", name := "takeFirst", desc := "(LBrokerTree$Link;)I" } : Jvm.MethodName) prog_1_method_18_code (5 : Nat) (Option.some Jvm.ClassFile.FieldType.int)) ∈ xWS := List.mem_filter.mpr ⟨List.mem_append_right _ (List.mem_of_getElem? (i := 210) rfl), rfl⟩
set_option maxRecDepth 100000 in
theorem xm_211 : (Jvm.Cond.methodLink "BrokerTree" (150 : Nat) ({ cls := "BrokerTree$Queue", name := "removeFirst", desc := "()I" } : Jvm.MethodName)) ∈ xWS := List.mem_filter.mpr ⟨List.mem_append_right _ (List.mem_of_getElem? (i := 211) (by decide +kernel)), rfl⟩
set_option maxRecDepth 100000 in
theorem xm_212 : (Jvm.Cond.instanceMethod ({ cls := "BrokerTree$Queue", name := "removeFirst", desc := "()I" } : Jvm.MethodName)) ∈ xWS := List.mem_filter.mpr ⟨List.mem_append_right _ (List.mem_of_getElem? (i := 212) (by decide +kernel)), rfl⟩
set_option maxRecDepth 100000 in
theorem xm_213 : (Jvm.Cond.selects "BrokerTree$Queue" ({ cls := "BrokerTree$Queue", name := "removeFirst", desc := "()I" } : Jvm.MethodName) ({ cls := "BrokerTree$Queue", name := "removeFirst", desc := "()I" } : Jvm.MethodName)) ∈ xWS := List.mem_filter.mpr ⟨List.mem_append_right _ (List.mem_of_getElem? (i := 213) (by decide +kernel)), rfl⟩
set_option maxRecDepth 100000 in
theorem xm_214 : (Jvm.Cond.code ({ cls := "BrokerTree$Queue", name := "removeFirst", desc := "()I" } : Jvm.MethodName) prog_6_method_4_code (2 : Nat) (Option.some Jvm.ClassFile.FieldType.int)) ∈ xWS := List.mem_filter.mpr ⟨List.mem_append_right _ (List.mem_of_getElem? (i := 214) rfl), rfl⟩
set_option maxRecDepth 100000 in
theorem xm_215 : (Jvm.Cond.methodLink "BrokerTree" (130 : Nat) ({ cls := "BrokerTree", name := "handle", desc := "(III)V" } : Jvm.MethodName)) ∈ xWS := List.mem_filter.mpr ⟨List.mem_append_right _ (List.mem_of_getElem? (i := 215) (by decide +kernel)), rfl⟩
set_option maxRecDepth 100000 in
theorem xm_217 : (Jvm.Cond.instanceMethod ({ cls := "BrokerTree", name := "handle", desc := "(III)V" } : Jvm.MethodName)) ∈ xWS := List.mem_filter.mpr ⟨List.mem_append_right _ (List.mem_of_getElem? (i := 217) (by decide +kernel)), rfl⟩
set_option maxRecDepth 100000 in
theorem xm_218 : (Jvm.Cond.code ({ cls := "BrokerTree", name := "handle", desc := "(III)V" } : Jvm.MethodName) prog_1_method_24_code (8 : Nat) (Option.none : Option Jvm.ClassFile.FieldType)) ∈ xWS := List.mem_filter.mpr ⟨List.mem_append_right _ (List.mem_of_getElem? (i := 218) rfl), rfl⟩
set_option maxRecDepth 100000 in
theorem xm_219 : (Jvm.Cond.methodLink "BrokerTree" (117 : Nat) ({ cls := "java/util/ArrayList", name := "size", desc := "()I" } : Jvm.MethodName)) ∈ xWS := List.mem_filter.mpr ⟨List.mem_append_right _ (List.mem_of_getElem? (i := 219) (by decide +kernel)), rfl⟩
set_option maxRecDepth 100000 in
theorem xm_220 : (Jvm.Cond.instanceMethod ({ cls := "java/util/ArrayList", name := "size", desc := "()I" } : Jvm.MethodName)) ∈ xWS := List.mem_filter.mpr ⟨List.mem_append_right _ (List.mem_of_getElem? (i := 220) (by decide +kernel)), rfl⟩
set_option maxRecDepth 100000 in
theorem xm_221 : (Jvm.Cond.selects "java/util/ArrayList" ({ cls := "java/util/ArrayList", name := "size", desc := "()I" } : Jvm.MethodName) ({ cls := "java/util/ArrayList", name := "size", desc := "()I" } : Jvm.MethodName)) ∈ xWS := List.mem_filter.mpr ⟨List.mem_append_right _ (List.mem_of_getElem? (i := 221) (by decide +kernel)), rfl⟩
set_option maxRecDepth 100000 in
theorem xm_222 : (Jvm.Cond.code ({ cls := "java/util/ArrayList", name := "size", desc := "()I" } : Jvm.MethodName) prog_24_method_8_code (1 : Nat) (Option.some Jvm.ClassFile.FieldType.int)) ∈ xWS := List.mem_filter.mpr ⟨List.mem_append_right _ (List.mem_of_getElem? (i := 222) rfl), rfl⟩
set_option maxRecDepth 100000 in
theorem xm_223 : (Jvm.Cond.methodLink "BrokerTree" (213 : Nat) ({ cls := "java/util/ArrayList", name := "get", desc := "(I)Ljava/lang/Object;" } : Jvm.MethodName)) ∈ xWS := List.mem_filter.mpr ⟨List.mem_append_right _ (List.mem_of_getElem? (i := 223) (by decide +kernel)), rfl⟩
set_option maxRecDepth 100000 in
theorem xm_224 : (Jvm.Cond.instanceMethod ({ cls := "java/util/ArrayList", name := "get", desc := "(I)Ljava/lang/Object;" } : Jvm.MethodName)) ∈ xWS := List.mem_filter.mpr ⟨List.mem_append_right _ (List.mem_of_getElem? (i := 224) (by decide +kernel)), rfl⟩
set_option maxRecDepth 100000 in
theorem xm_225 : (Jvm.Cond.selects "java/util/ArrayList" ({ cls := "java/util/ArrayList", name := "get", desc := "(I)Ljava/lang/Object;" } : Jvm.MethodName) ({ cls := "java/util/ArrayList", name := "get", desc := "(I)Ljava/lang/Object;" } : Jvm.MethodName)) ∈ xWS := List.mem_filter.mpr ⟨List.mem_append_right _ (List.mem_of_getElem? (i := 225) (by decide +kernel)), rfl⟩
set_option maxRecDepth 100000 in
theorem xm_226 : (Jvm.Cond.code ({ cls := "java/util/ArrayList", name := "get", desc := "(I)Ljava/lang/Object;" } : Jvm.MethodName) prog_24_method_20_code (2 : Nat) (Option.some (Jvm.ClassFile.FieldType.object "java/lang/Object"))) ∈ xWS := List.mem_filter.mpr ⟨List.mem_append_right _ (List.mem_of_getElem? (i := 226) rfl), rfl⟩
set_option maxRecDepth 100000 in
theorem xm_227 : (Jvm.Cond.methodLink "java/util/ArrayList" (118 : Nat) ({ cls := "java/util/Objects", name := "checkIndex", desc := "(II)I" } : Jvm.MethodName)) ∈ xWS := List.mem_filter.mpr ⟨List.mem_append_right _ (List.mem_of_getElem? (i := 227) (by decide +kernel)), rfl⟩
set_option maxRecDepth 100000 in
theorem xm_228 : (Jvm.Cond.static ({ cls := "java/util/Objects", name := "checkIndex", desc := "(II)I" } : Jvm.MethodName)) ∈ xWS := List.mem_filter.mpr ⟨List.mem_append_right _ (List.mem_of_getElem? (i := 228) (by decide +kernel)), rfl⟩
set_option maxRecDepth 100000 in
theorem xm_229 : (Jvm.Cond.code ({ cls := "java/util/Objects", name := "checkIndex", desc := "(II)I" } : Jvm.MethodName) prog_29_method_17_code (2 : Nat) (Option.some Jvm.ClassFile.FieldType.int)) ∈ xWS := List.mem_filter.mpr ⟨List.mem_append_right _ (List.mem_of_getElem? (i := 229) rfl), rfl⟩
set_option maxRecDepth 100000 in
theorem xm_230 : (Jvm.Cond.methodLink "java/util/Objects" (105 : Nat) ({ cls := "jdk/internal/util/Preconditions", name := "checkIndex", desc := "(IILjava/util/function/BiFunction;)I" } : Jvm.MethodName)) ∈ xWS := List.mem_filter.mpr ⟨List.mem_append_right _ (List.mem_of_getElem? (i := 230) (by decide +kernel)), rfl⟩
set_option maxRecDepth 100000 in
theorem xm_231 : (Jvm.Cond.static ({ cls := "jdk/internal/util/Preconditions", name := "checkIndex", desc := "(IILjava/util/function/BiFunction;)I" } : Jvm.MethodName)) ∈ xWS := List.mem_filter.mpr ⟨List.mem_append_right _ (List.mem_of_getElem? (i := 231) (by decide +kernel)), rfl⟩
set_option maxRecDepth 100000 in
theorem xm_232 : (Jvm.Cond.code ({ cls := "jdk/internal/util/Preconditions", name := "checkIndex", desc := "(IILjava/util/function/BiFunction;)I" } : Jvm.MethodName) prog_33_method_11_code (3 : Nat) (Option.some Jvm.ClassFile.FieldType.int)) ∈ xWS := List.mem_filter.mpr ⟨List.mem_append_right _ (List.mem_of_getElem? (i := 232) rfl), rfl⟩
set_option maxRecDepth 100000 in
theorem xm_233 : (Jvm.Cond.methodLink "java/util/ArrayList" (123 : Nat) ({ cls := "java/util/ArrayList", name := "elementData", desc := "(I)Ljava/lang/Object;" } : Jvm.MethodName)) ∈ xWS := List.mem_filter.mpr ⟨List.mem_append_right _ (List.mem_of_getElem? (i := 233) (by decide +kernel)), rfl⟩
set_option maxRecDepth 100000 in
theorem xm_234 : (Jvm.Cond.instanceMethod ({ cls := "java/util/ArrayList", name := "elementData", desc := "(I)Ljava/lang/Object;" } : Jvm.MethodName)) ∈ xWS := List.mem_filter.mpr ⟨List.mem_append_right _ (List.mem_of_getElem? (i := 234) (by decide +kernel)), rfl⟩
set_option maxRecDepth 100000 in
theorem xm_235 : (Jvm.Cond.selects "java/util/ArrayList" ({ cls := "java/util/ArrayList", name := "elementData", desc := "(I)Ljava/lang/Object;" } : Jvm.MethodName) ({ cls := "java/util/ArrayList", name := "elementData", desc := "(I)Ljava/lang/Object;" } : Jvm.MethodName)) ∈ xWS := List.mem_filter.mpr ⟨List.mem_append_right _ (List.mem_of_getElem? (i := 235) (by decide +kernel)), rfl⟩
set_option maxRecDepth 100000 in
theorem xm_236 : (Jvm.Cond.code ({ cls := "java/util/ArrayList", name := "elementData", desc := "(I)Ljava/lang/Object;" } : Jvm.MethodName) prog_24_method_18_code (2 : Nat) (Option.some (Jvm.ClassFile.FieldType.object "java/lang/Object"))) ∈ xWS := List.mem_filter.mpr ⟨List.mem_append_right _ (List.mem_of_getElem? (i := 236) rfl), rfl⟩
set_option maxRecDepth 100000 in
theorem xm_237 : (Jvm.Cond.classLink "BrokerTree" (121 : Nat) "BrokerTree$Note") ∈ xWS := List.mem_filter.mpr ⟨List.mem_append_right _ (List.mem_of_getElem? (i := 237) (by decide +kernel)), rfl⟩
set_option maxRecDepth 100000 in
theorem xm_238 : (Jvm.Cond.methodLink "BrokerTree" (96 : Nat) ({ cls := "BrokerTree", name := "brokerOf", desc := "(I)I" } : Jvm.MethodName)) ∈ xWS := List.mem_filter.mpr ⟨List.mem_append_right _ (List.mem_of_getElem? (i := 238) (by decide +kernel)), rfl⟩
set_option maxRecDepth 100000 in
theorem xm_239 : (Jvm.Cond.static ({ cls := "BrokerTree", name := "brokerOf", desc := "(I)I" } : Jvm.MethodName)) ∈ xWS := List.mem_filter.mpr ⟨List.mem_append_right _ (List.mem_of_getElem? (i := 239) (by decide +kernel)), rfl⟩
set_option maxRecDepth 100000 in
theorem xm_240 : (Jvm.Cond.code ({ cls := "BrokerTree", name := "brokerOf", desc := "(I)I" } : Jvm.MethodName) prog_1_method_15_code (1 : Nat) (Option.some Jvm.ClassFile.FieldType.int)) ∈ xWS := List.mem_filter.mpr ⟨List.mem_append_right _ (List.mem_of_getElem? (i := 240) rfl), rfl⟩
set_option maxRecDepth 100000 in
theorem xm_241 : (Jvm.Cond.methodLink "BrokerTree" (216 : Nat) ({ cls := "BrokerTree", name := "wants", desc := "(ILBrokerTree$Note;)Z" } : Jvm.MethodName)) ∈ xWS := List.mem_filter.mpr ⟨List.mem_append_right _ (List.mem_of_getElem? (i := 241) (by decide +kernel)), rfl⟩
set_option maxRecDepth 100000 in
theorem xm_243 : (Jvm.Cond.instanceMethod ({ cls := "BrokerTree", name := "wants", desc := "(ILBrokerTree$Note;)Z" } : Jvm.MethodName)) ∈ xWS := List.mem_filter.mpr ⟨List.mem_append_right _ (List.mem_of_getElem? (i := 243) (by decide +kernel)), rfl⟩
set_option maxRecDepth 100000 in
theorem xm_244 : (Jvm.Cond.code ({ cls := "BrokerTree", name := "wants", desc := "(ILBrokerTree$Note;)Z" } : Jvm.MethodName) prog_1_method_25_code (4 : Nat) (Option.some Jvm.ClassFile.FieldType.boolean)) ∈ xWS := List.mem_filter.mpr ⟨List.mem_append_right _ (List.mem_of_getElem? (i := 244) rfl), rfl⟩
set_option maxRecDepth 100000 in
theorem xm_245 : (Jvm.Cond.methodLink "BrokerTree" (225 : Nat) ({ cls := "BrokerTree$Catalog", name := "matches", desc := "(ILBrokerTree$Note;)Z" } : Jvm.MethodName)) ∈ xWS := List.mem_filter.mpr ⟨List.mem_append_right _ (List.mem_of_getElem? (i := 245) (by decide +kernel)), rfl⟩
set_option maxRecDepth 100000 in
theorem xm_246 : (Jvm.Cond.instanceMethod ({ cls := "BrokerTree$Catalog", name := "matches", desc := "(ILBrokerTree$Note;)Z" } : Jvm.MethodName)) ∈ xWS := List.mem_filter.mpr ⟨List.mem_append_right _ (List.mem_of_getElem? (i := 246) (by decide +kernel)), rfl⟩
set_option maxRecDepth 100000 in
theorem xm_247 : (Jvm.Cond.selects "BrokerTree$Catalog" ({ cls := "BrokerTree$Catalog", name := "matches", desc := "(ILBrokerTree$Note;)Z" } : Jvm.MethodName) ({ cls := "BrokerTree$Catalog", name := "matches", desc := "(ILBrokerTree$Note;)Z" } : Jvm.MethodName)) ∈ xWS := List.mem_filter.mpr ⟨List.mem_append_right _ (List.mem_of_getElem? (i := 247) (by decide +kernel)), rfl⟩
set_option maxRecDepth 100000 in
theorem xm_248 : (Jvm.Cond.code ({ cls := "BrokerTree$Catalog", name := "matches", desc := "(ILBrokerTree$Note;)Z" } : Jvm.MethodName) prog_2_method_4_code (3 : Nat) (Option.some Jvm.ClassFile.FieldType.boolean)) ∈ xWS := List.mem_filter.mpr ⟨List.mem_append_right _ (List.mem_of_getElem? (i := 248) rfl), rfl⟩
set_option maxRecDepth 100000 in
theorem xm_249 : (Jvm.Cond.methodLink "BrokerTree$Catalog" (22 : Nat) ({ cls := "java/util/ArrayList", name := "size", desc := "()I" } : Jvm.MethodName)) ∈ xWS := List.mem_filter.mpr ⟨List.mem_append_right _ (List.mem_of_getElem? (i := 249) (by decide +kernel)), rfl⟩
set_option maxRecDepth 100000 in
theorem xm_250 : (Jvm.Cond.methodLink "BrokerTree$Catalog" (26 : Nat) ({ cls := "java/util/ArrayList", name := "get", desc := "(I)Ljava/lang/Object;" } : Jvm.MethodName)) ∈ xWS := List.mem_filter.mpr ⟨List.mem_append_right _ (List.mem_of_getElem? (i := 250) (by decide +kernel)), rfl⟩
set_option maxRecDepth 100000 in
theorem xm_251 : (Jvm.Cond.classLink "BrokerTree$Catalog" (30 : Nat) "BrokerTree$Filter") ∈ xWS := List.mem_filter.mpr ⟨List.mem_append_right _ (List.mem_of_getElem? (i := 251) (by decide +kernel)), rfl⟩
set_option maxRecDepth 100000 in
theorem xm_252 : (Jvm.Cond.methodLink "BrokerTree$Catalog" (45 : Nat) ({ cls := "BrokerTree$Filter", name := "matches", desc := "(LBrokerTree$Note;)Z" } : Jvm.MethodName)) ∈ xWS := List.mem_filter.mpr ⟨List.mem_append_right _ (List.mem_of_getElem? (i := 252) (by decide +kernel)), rfl⟩
set_option maxRecDepth 100000 in
theorem xm_253 : (Jvm.Cond.instanceMethod ({ cls := "BrokerTree$Filter", name := "matches", desc := "(LBrokerTree$Note;)Z" } : Jvm.MethodName)) ∈ xWS := List.mem_filter.mpr ⟨List.mem_append_right _ (List.mem_of_getElem? (i := 253) (by decide +kernel)), rfl⟩
set_option maxRecDepth 100000 in
theorem xm_254 : (Jvm.Cond.selects "BrokerTree$Filter" ({ cls := "BrokerTree$Filter", name := "matches", desc := "(LBrokerTree$Note;)Z" } : Jvm.MethodName) ({ cls := "BrokerTree$Filter", name := "matches", desc := "(LBrokerTree$Note;)Z" } : Jvm.MethodName)) ∈ xWS := List.mem_filter.mpr ⟨List.mem_append_right _ (List.mem_of_getElem? (i := 254) (by decide +kernel)), rfl⟩
set_option maxRecDepth 100000 in
theorem xm_255 : (Jvm.Cond.code ({ cls := "BrokerTree$Filter", name := "matches", desc := "(LBrokerTree$Note;)Z" } : Jvm.MethodName) prog_3_method_3_code (2 : Nat) (Option.some Jvm.ClassFile.FieldType.boolean)) ∈ xWS := List.mem_filter.mpr ⟨List.mem_append_right _ (List.mem_of_getElem? (i := 255) rfl), rfl⟩
set_option maxRecDepth 100000 in
theorem xm_256 : (Jvm.Cond.methodLink "BrokerTree$Filter" (46 : Nat) ({ cls := "BrokerTree$Span", name := "has", desc := "(I)Z" } : Jvm.MethodName)) ∈ xWS := List.mem_filter.mpr ⟨List.mem_append_right _ (List.mem_of_getElem? (i := 256) (by decide +kernel)), rfl⟩
set_option maxRecDepth 100000 in
theorem xm_257 : (Jvm.Cond.instanceMethod ({ cls := "BrokerTree$Span", name := "has", desc := "(I)Z" } : Jvm.MethodName)) ∈ xWS := List.mem_filter.mpr ⟨List.mem_append_right _ (List.mem_of_getElem? (i := 257) (by decide +kernel)), rfl⟩
set_option maxRecDepth 100000 in
theorem xm_258 : (Jvm.Cond.selects "BrokerTree$Span" ({ cls := "BrokerTree$Span", name := "has", desc := "(I)Z" } : Jvm.MethodName) ({ cls := "BrokerTree$Span", name := "has", desc := "(I)Z" } : Jvm.MethodName)) ∈ xWS := List.mem_filter.mpr ⟨List.mem_append_right _ (List.mem_of_getElem? (i := 258) (by decide +kernel)), rfl⟩
set_option maxRecDepth 100000 in
theorem xm_259 : (Jvm.Cond.code ({ cls := "BrokerTree$Span", name := "has", desc := "(I)Z" } : Jvm.MethodName) prog_8_method_6_code (3 : Nat) (Option.some Jvm.ClassFile.FieldType.boolean)) ∈ xWS := List.mem_filter.mpr ⟨List.mem_append_right _ (List.mem_of_getElem? (i := 259) rfl), rfl⟩
set_option maxRecDepth 100000 in
theorem xm_260 : (Jvm.Cond.methodLink "BrokerTree" (220 : Nat) ({ cls := "BrokerTree$Queue", name := "add", desc := "(I)V" } : Jvm.MethodName)) ∈ xWS := List.mem_filter.mpr ⟨List.mem_append_right _ (List.mem_of_getElem? (i := 260) (by decide +kernel)), rfl⟩
set_option maxRecDepth 100000 in
theorem xm_261 : (Jvm.Cond.instanceMethod ({ cls := "BrokerTree$Queue", name := "add", desc := "(I)V" } : Jvm.MethodName)) ∈ xWS := List.mem_filter.mpr ⟨List.mem_append_right _ (List.mem_of_getElem? (i := 261) (by decide +kernel)), rfl⟩
set_option maxRecDepth 100000 in
theorem xm_262 : (Jvm.Cond.selects "BrokerTree$Queue" ({ cls := "BrokerTree$Queue", name := "add", desc := "(I)V" } : Jvm.MethodName) ({ cls := "BrokerTree$Queue", name := "add", desc := "(I)V" } : Jvm.MethodName)) ∈ xWS := List.mem_filter.mpr ⟨List.mem_append_right _ (List.mem_of_getElem? (i := 262) (by decide +kernel)), rfl⟩
set_option maxRecDepth 100000 in
theorem xm_263 : (Jvm.Cond.code ({ cls := "BrokerTree$Queue", name := "add", desc := "(I)V" } : Jvm.MethodName) prog_6_method_3_code (2 : Nat) (Option.none : Option Jvm.ClassFile.FieldType)) ∈ xWS := List.mem_filter.mpr ⟨List.mem_append_right _ (List.mem_of_getElem? (i := 263) rfl), rfl⟩
set_option maxRecDepth 100000 in
theorem xm_264 : (Jvm.Cond.methodLink "BrokerTree$Queue" (19 : Nat) ({ cls := "BrokerTree$Queue", name := "grow", desc := "()V" } : Jvm.MethodName)) ∈ xWS := List.mem_filter.mpr ⟨List.mem_append_right _ (List.mem_of_getElem? (i := 264) (by decide +kernel)), rfl⟩
set_option maxRecDepth 100000 in
theorem xm_266 : (Jvm.Cond.instanceMethod ({ cls := "BrokerTree$Queue", name := "grow", desc := "()V" } : Jvm.MethodName)) ∈ xWS := List.mem_filter.mpr ⟨List.mem_append_right _ (List.mem_of_getElem? (i := 266) (by decide +kernel)), rfl⟩
set_option maxRecDepth 100000 in
theorem xm_267 : (Jvm.Cond.code ({ cls := "BrokerTree$Queue", name := "grow", desc := "()V" } : Jvm.MethodName) prog_6_method_5_code (3 : Nat) (Option.none : Option Jvm.ClassFile.FieldType)) ∈ xWS := List.mem_filter.mpr ⟨List.mem_append_right _ (List.mem_of_getElem? (i := 267) rfl), rfl⟩
set_option maxRecDepth 100000 in
theorem xm_268 : (Jvm.Cond.methodLink "BrokerTree" (221 : Nat) ({ cls := "BrokerTree$Catalog", name := "anyMatches", desc := "(LBrokerTree$Row;LBrokerTree$Note;)Z" } : Jvm.MethodName)) ∈ xWS := List.mem_filter.mpr ⟨List.mem_append_right _ (List.mem_of_getElem? (i := 268) (by decide +kernel)), rfl⟩
set_option maxRecDepth 100000 in
theorem xm_269 : (Jvm.Cond.instanceMethod ({ cls := "BrokerTree$Catalog", name := "anyMatches", desc := "(LBrokerTree$Row;LBrokerTree$Note;)Z" } : Jvm.MethodName)) ∈ xWS := List.mem_filter.mpr ⟨List.mem_append_right _ (List.mem_of_getElem? (i := 269) (by decide +kernel)), rfl⟩
set_option maxRecDepth 100000 in
theorem xm_270 : (Jvm.Cond.selects "BrokerTree$Catalog" ({ cls := "BrokerTree$Catalog", name := "anyMatches", desc := "(LBrokerTree$Row;LBrokerTree$Note;)Z" } : Jvm.MethodName) ({ cls := "BrokerTree$Catalog", name := "anyMatches", desc := "(LBrokerTree$Row;LBrokerTree$Note;)Z" } : Jvm.MethodName)) ∈ xWS := List.mem_filter.mpr ⟨List.mem_append_right _ (List.mem_of_getElem? (i := 270) (by decide +kernel)), rfl⟩
set_option maxRecDepth 100000 in
theorem xm_271 : (Jvm.Cond.code ({ cls := "BrokerTree$Catalog", name := "anyMatches", desc := "(LBrokerTree$Row;LBrokerTree$Note;)Z" } : Jvm.MethodName) prog_2_method_5_code (4 : Nat) (Option.some Jvm.ClassFile.FieldType.boolean)) ∈ xWS := List.mem_filter.mpr ⟨List.mem_append_right _ (List.mem_of_getElem? (i := 271) rfl), rfl⟩
set_option maxRecDepth 100000 in
theorem xm_272 : (Jvm.Cond.methodLink "BrokerTree$Catalog" (49 : Nat) ({ cls := "BrokerTree$Row", name := "size", desc := "()I" } : Jvm.MethodName)) ∈ xWS := List.mem_filter.mpr ⟨List.mem_append_right _ (List.mem_of_getElem? (i := 272) (by decide +kernel)), rfl⟩
set_option maxRecDepth 100000 in
theorem xm_273 : (Jvm.Cond.instanceMethod ({ cls := "BrokerTree$Row", name := "size", desc := "()I" } : Jvm.MethodName)) ∈ xWS := List.mem_filter.mpr ⟨List.mem_append_right _ (List.mem_of_getElem? (i := 273) (by decide +kernel)), rfl⟩
set_option maxRecDepth 100000 in
theorem xm_274 : (Jvm.Cond.selects "BrokerTree$Row" ({ cls := "BrokerTree$Row", name := "size", desc := "()I" } : Jvm.MethodName) ({ cls := "BrokerTree$Row", name := "size", desc := "()I" } : Jvm.MethodName)) ∈ xWS := List.mem_filter.mpr ⟨List.mem_append_right _ (List.mem_of_getElem? (i := 274) (by decide +kernel)), rfl⟩
set_option maxRecDepth 100000 in
theorem xm_275 : (Jvm.Cond.code ({ cls := "BrokerTree$Row", name := "size", desc := "()I" } : Jvm.MethodName) prog_7_method_2_code (1 : Nat) (Option.some Jvm.ClassFile.FieldType.int)) ∈ xWS := List.mem_filter.mpr ⟨List.mem_append_right _ (List.mem_of_getElem? (i := 275) rfl), rfl⟩
set_option maxRecDepth 100000 in
theorem xm_276 : (Jvm.Cond.methodLink "BrokerTree$Catalog" (50 : Nat) ({ cls := "BrokerTree$Row", name := "get", desc := "(I)I" } : Jvm.MethodName)) ∈ xWS := List.mem_filter.mpr ⟨List.mem_append_right _ (List.mem_of_getElem? (i := 276) (by decide +kernel)), rfl⟩
set_option maxRecDepth 100000 in
theorem xm_277 : (Jvm.Cond.instanceMethod ({ cls := "BrokerTree$Row", name := "get", desc := "(I)I" } : Jvm.MethodName)) ∈ xWS := List.mem_filter.mpr ⟨List.mem_append_right _ (List.mem_of_getElem? (i := 277) (by decide +kernel)), rfl⟩
set_option maxRecDepth 100000 in
theorem xm_278 : (Jvm.Cond.selects "BrokerTree$Row" ({ cls := "BrokerTree$Row", name := "get", desc := "(I)I" } : Jvm.MethodName) ({ cls := "BrokerTree$Row", name := "get", desc := "(I)I" } : Jvm.MethodName)) ∈ xWS := List.mem_filter.mpr ⟨List.mem_append_right _ (List.mem_of_getElem? (i := 278) (by decide +kernel)), rfl⟩
set_option maxRecDepth 100000 in
theorem xm_279 : (Jvm.Cond.code ({ cls := "BrokerTree$Row", name := "get", desc := "(I)I" } : Jvm.MethodName) prog_7_method_3_code (2 : Nat) (Option.some Jvm.ClassFile.FieldType.int)) ∈ xWS := List.mem_filter.mpr ⟨List.mem_append_right _ (List.mem_of_getElem? (i := 279) rfl), rfl⟩
set_option maxRecDepth 100000 in
theorem xm_280 : (Jvm.Cond.methodLink "BrokerTree$Catalog" (53 : Nat) ({ cls := "BrokerTree$Catalog", name := "matches", desc := "(ILBrokerTree$Note;)Z" } : Jvm.MethodName)) ∈ xWS := List.mem_filter.mpr ⟨List.mem_append_right _ (List.mem_of_getElem? (i := 280) (by decide +kernel)), rfl⟩
set_option maxRecDepth 100000 in
theorem xm_281 : (Jvm.Cond.methodLink "BrokerTree" (209 : Nat) ({ cls := "BrokerTree", name := "put", desc := "(LBrokerTree$Link;II)V" } : Jvm.MethodName)) ∈ xWS := List.mem_filter.mpr ⟨List.mem_append_right _ (List.mem_of_getElem? (i := 281) (by decide +kernel)), rfl⟩
set_option maxRecDepth 100000 in
theorem xm_282 : (Jvm.Cond.static ({ cls := "BrokerTree", name := "put", desc := "(LBrokerTree$Link;II)V" } : Jvm.MethodName)) ∈ xWS := List.mem_filter.mpr ⟨List.mem_append_right _ (List.mem_of_getElem? (i := 282) (by decide +kernel)), rfl⟩
set_option maxRecDepth 100000 in
theorem xm_283 : (Jvm.Cond.code ({ cls := "BrokerTree", name := "put", desc := "(LBrokerTree$Link;II)V" } : Jvm.MethodName) prog_1_method_26_code (3 : Nat) (Option.none : Option Jvm.ClassFile.FieldType)) ∈ xWS := List.mem_filter.mpr ⟨List.mem_append_right _ (List.mem_of_getElem? (i := 283) rfl), rfl⟩
set_option maxRecDepth 100000 in
theorem xm_284 : (Jvm.Cond.methodLink "BrokerTree" (174 : Nat) ({ cls := "BrokerTree$Row", name := "add", desc := "(I)V" } : Jvm.MethodName)) ∈ xWS := List.mem_filter.mpr ⟨List.mem_append_right _ (List.mem_of_getElem? (i := 284) (by decide +kernel)), rfl⟩
set_option maxRecDepth 100000 in
theorem xm_285 : (Jvm.Cond.instanceMethod ({ cls := "BrokerTree$Row", name := "add", desc := "(I)V" } : Jvm.MethodName)) ∈ xWS := List.mem_filter.mpr ⟨List.mem_append_right _ (List.mem_of_getElem? (i := 285) (by decide +kernel)), rfl⟩
set_option maxRecDepth 100000 in
theorem xm_286 : (Jvm.Cond.selects "BrokerTree$Row" ({ cls := "BrokerTree$Row", name := "add", desc := "(I)V" } : Jvm.MethodName) ({ cls := "BrokerTree$Row", name := "add", desc := "(I)V" } : Jvm.MethodName)) ∈ xWS := List.mem_filter.mpr ⟨List.mem_append_right _ (List.mem_of_getElem? (i := 286) (by decide +kernel)), rfl⟩
set_option maxRecDepth 100000 in
theorem xm_287 : (Jvm.Cond.code ({ cls := "BrokerTree$Row", name := "add", desc := "(I)V" } : Jvm.MethodName) prog_7_method_7_code (2 : Nat) (Option.none : Option Jvm.ClassFile.FieldType)) ∈ xWS := List.mem_filter.mpr ⟨List.mem_append_right _ (List.mem_of_getElem? (i := 287) rfl), rfl⟩
set_option maxRecDepth 100000 in
theorem xm_288 : (Jvm.Cond.methodLink "BrokerTree$Row" (22 : Nat) ({ cls := "BrokerTree$Row", name := "has", desc := "(I)Z" } : Jvm.MethodName)) ∈ xWS := List.mem_filter.mpr ⟨List.mem_append_right _ (List.mem_of_getElem? (i := 288) (by decide +kernel)), rfl⟩
set_option maxRecDepth 100000 in
theorem xm_289 : (Jvm.Cond.instanceMethod ({ cls := "BrokerTree$Row", name := "has", desc := "(I)Z" } : Jvm.MethodName)) ∈ xWS := List.mem_filter.mpr ⟨List.mem_append_right _ (List.mem_of_getElem? (i := 289) (by decide +kernel)), rfl⟩
set_option maxRecDepth 100000 in
theorem xm_290 : (Jvm.Cond.selects "BrokerTree$Row" ({ cls := "BrokerTree$Row", name := "has", desc := "(I)Z" } : Jvm.MethodName) ({ cls := "BrokerTree$Row", name := "has", desc := "(I)Z" } : Jvm.MethodName)) ∈ xWS := List.mem_filter.mpr ⟨List.mem_append_right _ (List.mem_of_getElem? (i := 290) (by decide +kernel)), rfl⟩
set_option maxRecDepth 100000 in
theorem xm_291 : (Jvm.Cond.code ({ cls := "BrokerTree$Row", name := "has", desc := "(I)Z" } : Jvm.MethodName) prog_7_method_4_code (2 : Nat) (Option.some Jvm.ClassFile.FieldType.boolean)) ∈ xWS := List.mem_filter.mpr ⟨List.mem_append_right _ (List.mem_of_getElem? (i := 291) rfl), rfl⟩
set_option maxRecDepth 100000 in
theorem xm_292 : (Jvm.Cond.methodLink "BrokerTree" (176 : Nat) ({ cls := "BrokerTree$Row", name := "remove", desc := "(I)V" } : Jvm.MethodName)) ∈ xWS := List.mem_filter.mpr ⟨List.mem_append_right _ (List.mem_of_getElem? (i := 292) (by decide +kernel)), rfl⟩
set_option maxRecDepth 100000 in
theorem xm_293 : (Jvm.Cond.instanceMethod ({ cls := "BrokerTree$Row", name := "remove", desc := "(I)V" } : Jvm.MethodName)) ∈ xWS := List.mem_filter.mpr ⟨List.mem_append_right _ (List.mem_of_getElem? (i := 293) (by decide +kernel)), rfl⟩
set_option maxRecDepth 100000 in
theorem xm_294 : (Jvm.Cond.selects "BrokerTree$Row" ({ cls := "BrokerTree$Row", name := "remove", desc := "(I)V" } : Jvm.MethodName) ({ cls := "BrokerTree$Row", name := "remove", desc := "(I)V" } : Jvm.MethodName)) ∈ xWS := List.mem_filter.mpr ⟨List.mem_append_right _ (List.mem_of_getElem? (i := 294) (by decide +kernel)), rfl⟩
set_option maxRecDepth 100000 in
theorem xm_295 : (Jvm.Cond.code ({ cls := "BrokerTree$Row", name := "remove", desc := "(I)V" } : Jvm.MethodName) prog_7_method_9_code (4 : Nat) (Option.none : Option Jvm.ClassFile.FieldType)) ∈ xWS := List.mem_filter.mpr ⟨List.mem_append_right _ (List.mem_of_getElem? (i := 295) rfl), rfl⟩
set_option maxRecDepth 100000 in
theorem xm_296 : (Jvm.Cond.methodLink "BrokerTree" (100 : Nat) ({ cls := "BrokerTree", name := "settle", desc := "(I)V" } : Jvm.MethodName)) ∈ xWS := List.mem_filter.mpr ⟨List.mem_append_right _ (List.mem_of_getElem? (i := 296) (by decide +kernel)), rfl⟩
set_option maxRecDepth 100000 in
theorem xm_298 : (Jvm.Cond.instanceMethod ({ cls := "BrokerTree", name := "settle", desc := "(I)V" } : Jvm.MethodName)) ∈ xWS := List.mem_filter.mpr ⟨List.mem_append_right _ (List.mem_of_getElem? (i := 298) (by decide +kernel)), rfl⟩
set_option maxRecDepth 100000 in
theorem xm_299 : (Jvm.Cond.code ({ cls := "BrokerTree", name := "settle", desc := "(I)V" } : Jvm.MethodName) prog_1_method_19_code (4 : Nat) (Option.none : Option Jvm.ClassFile.FieldType)) ∈ xWS := List.mem_filter.mpr ⟨List.mem_append_right _ (List.mem_of_getElem? (i := 299) rfl), rfl⟩
set_option maxRecDepth 100000 in
theorem xm_300 : (Jvm.Cond.methodLink "BrokerTree" (179 : Nat) ({ cls := "BrokerTree", name := "gatherOffered", desc := "(LBrokerTree$Link;)V" } : Jvm.MethodName)) ∈ xWS := List.mem_filter.mpr ⟨List.mem_append_right _ (List.mem_of_getElem? (i := 300) (by decide +kernel)), rfl⟩
set_option maxRecDepth 100000 in
theorem xm_302 : (Jvm.Cond.instanceMethod ({ cls := "BrokerTree", name := "gatherOffered", desc := "(LBrokerTree$Link;)V" } : Jvm.MethodName)) ∈ xWS := List.mem_filter.mpr ⟨List.mem_append_right _ (List.mem_of_getElem? (i := 302) (by decide +kernel)), rfl⟩
set_option maxRecDepth 100000 in
theorem xm_303 : (Jvm.Cond.code ({ cls := "BrokerTree", name := "gatherOffered", desc := "(LBrokerTree$Link;)V" } : Jvm.MethodName) prog_1_method_20_code (4 : Nat) (Option.none : Option Jvm.ClassFile.FieldType)) ∈ xWS := List.mem_filter.mpr ⟨List.mem_append_right _ (List.mem_of_getElem? (i := 303) rfl), rfl⟩
set_option maxRecDepth 100000 in
theorem xm_304 : (Jvm.Cond.methodLink "BrokerTree" (192 : Nat) ({ cls := "BrokerTree$Row", name := "clear", desc := "()V" } : Jvm.MethodName)) ∈ xWS := List.mem_filter.mpr ⟨List.mem_append_right _ (List.mem_of_getElem? (i := 304) (by decide +kernel)), rfl⟩
set_option maxRecDepth 100000 in
theorem xm_305 : (Jvm.Cond.instanceMethod ({ cls := "BrokerTree$Row", name := "clear", desc := "()V" } : Jvm.MethodName)) ∈ xWS := List.mem_filter.mpr ⟨List.mem_append_right _ (List.mem_of_getElem? (i := 305) (by decide +kernel)), rfl⟩
set_option maxRecDepth 100000 in
theorem xm_306 : (Jvm.Cond.selects "BrokerTree$Row" ({ cls := "BrokerTree$Row", name := "clear", desc := "()V" } : Jvm.MethodName) ({ cls := "BrokerTree$Row", name := "clear", desc := "()V" } : Jvm.MethodName)) ∈ xWS := List.mem_filter.mpr ⟨List.mem_append_right _ (List.mem_of_getElem? (i := 306) (by decide +kernel)), rfl⟩
set_option maxRecDepth 100000 in
theorem xm_307 : (Jvm.Cond.code ({ cls := "BrokerTree$Row", name := "clear", desc := "()V" } : Jvm.MethodName) prog_7_method_6_code (1 : Nat) (Option.none : Option Jvm.ClassFile.FieldType)) ∈ xWS := List.mem_filter.mpr ⟨List.mem_append_right _ (List.mem_of_getElem? (i := 307) rfl), rfl⟩
set_option maxRecDepth 100000 in
theorem xm_308 : (Jvm.Cond.methodLink "BrokerTree" (195 : Nat) ({ cls := "BrokerTree$Row", name := "addAll", desc := "(LBrokerTree$Row;)V" } : Jvm.MethodName)) ∈ xWS := List.mem_filter.mpr ⟨List.mem_append_right _ (List.mem_of_getElem? (i := 308) (by decide +kernel)), rfl⟩
set_option maxRecDepth 100000 in
theorem xm_309 : (Jvm.Cond.instanceMethod ({ cls := "BrokerTree$Row", name := "addAll", desc := "(LBrokerTree$Row;)V" } : Jvm.MethodName)) ∈ xWS := List.mem_filter.mpr ⟨List.mem_append_right _ (List.mem_of_getElem? (i := 309) (by decide +kernel)), rfl⟩
set_option maxRecDepth 100000 in
theorem xm_310 : (Jvm.Cond.selects "BrokerTree$Row" ({ cls := "BrokerTree$Row", name := "addAll", desc := "(LBrokerTree$Row;)V" } : Jvm.MethodName) ({ cls := "BrokerTree$Row", name := "addAll", desc := "(LBrokerTree$Row;)V" } : Jvm.MethodName)) ∈ xWS := List.mem_filter.mpr ⟨List.mem_append_right _ (List.mem_of_getElem? (i := 310) (by decide +kernel)), rfl⟩
set_option maxRecDepth 100000 in
theorem xm_311 : (Jvm.Cond.code ({ cls := "BrokerTree$Row", name := "addAll", desc := "(LBrokerTree$Row;)V" } : Jvm.MethodName) prog_7_method_8_code (3 : Nat) (Option.none : Option Jvm.ClassFile.FieldType)) ∈ xWS := List.mem_filter.mpr ⟨List.mem_append_right _ (List.mem_of_getElem? (i := 311) rfl), rfl⟩
set_option maxRecDepth 100000 in
theorem xm_312 : (Jvm.Cond.methodLink "BrokerTree$Row" (26 : Nat) ({ cls := "BrokerTree$Row", name := "add", desc := "(I)V" } : Jvm.MethodName)) ∈ xWS := List.mem_filter.mpr ⟨List.mem_append_right _ (List.mem_of_getElem? (i := 312) (by decide +kernel)), rfl⟩
set_option maxRecDepth 100000 in
theorem xm_313 : (Jvm.Cond.methodLink "BrokerTree" (183 : Nat) ({ cls := "BrokerTree", name := "gatherNeed", desc := "()V" } : Jvm.MethodName)) ∈ xWS := List.mem_filter.mpr ⟨List.mem_append_right _ (List.mem_of_getElem? (i := 313) (by decide +kernel)), rfl⟩
set_option maxRecDepth 100000 in
theorem xm_315 : (Jvm.Cond.instanceMethod ({ cls := "BrokerTree", name := "gatherNeed", desc := "()V" } : Jvm.MethodName)) ∈ xWS := List.mem_filter.mpr ⟨List.mem_append_right _ (List.mem_of_getElem? (i := 315) (by decide +kernel)), rfl⟩
set_option maxRecDepth 100000 in
theorem xm_316 : (Jvm.Cond.code ({ cls := "BrokerTree", name := "gatherNeed", desc := "()V" } : Jvm.MethodName) prog_1_method_21_code (3 : Nat) (Option.none : Option Jvm.ClassFile.FieldType)) ∈ xWS := List.mem_filter.mpr ⟨List.mem_append_right _ (List.mem_of_getElem? (i := 316) rfl), rfl⟩
set_option maxRecDepth 100000 in
theorem xm_317 : (Jvm.Cond.methodLink "BrokerTree" (156 : Nat) ({ cls := "BrokerTree$Row", name := "size", desc := "()I" } : Jvm.MethodName)) ∈ xWS := List.mem_filter.mpr ⟨List.mem_append_right _ (List.mem_of_getElem? (i := 317) (by decide +kernel)), rfl⟩
set_option maxRecDepth 100000 in
theorem xm_318 : (Jvm.Cond.methodLink "BrokerTree" (199 : Nat) ({ cls := "BrokerTree$Row", name := "get", desc := "(I)I" } : Jvm.MethodName)) ∈ xWS := List.mem_filter.mpr ⟨List.mem_append_right _ (List.mem_of_getElem? (i := 318) (by decide +kernel)), rfl⟩
set_option maxRecDepth 100000 in
theorem xm_319 : (Jvm.Cond.methodLink "BrokerTree" (202 : Nat) ({ cls := "BrokerTree$Catalog", name := "hasCoverer", desc := "(ILBrokerTree$Row;)Z" } : Jvm.MethodName)) ∈ xWS := List.mem_filter.mpr ⟨List.mem_append_right _ (List.mem_of_getElem? (i := 319) (by decide +kernel)), rfl⟩
set_option maxRecDepth 100000 in
theorem xm_320 : (Jvm.Cond.instanceMethod ({ cls := "BrokerTree$Catalog", name := "hasCoverer", desc := "(ILBrokerTree$Row;)Z" } : Jvm.MethodName)) ∈ xWS := List.mem_filter.mpr ⟨List.mem_append_right _ (List.mem_of_getElem? (i := 320) (by decide +kernel)), rfl⟩
set_option maxRecDepth 100000 in
theorem xm_321 : (Jvm.Cond.selects "BrokerTree$Catalog" ({ cls := "BrokerTree$Catalog", name := "hasCoverer", desc := "(ILBrokerTree$Row;)Z" } : Jvm.MethodName) ({ cls := "BrokerTree$Catalog", name := "hasCoverer", desc := "(ILBrokerTree$Row;)Z" } : Jvm.MethodName)) ∈ xWS := List.mem_filter.mpr ⟨List.mem_append_right _ (List.mem_of_getElem? (i := 321) (by decide +kernel)), rfl⟩
set_option maxRecDepth 100000 in
theorem xm_322 : (Jvm.Cond.code ({ cls := "BrokerTree$Catalog", name := "hasCoverer", desc := "(ILBrokerTree$Row;)Z" } : Jvm.MethodName) prog_2_method_3_code (3 : Nat) (Option.some Jvm.ClassFile.FieldType.boolean)) ∈ xWS := List.mem_filter.mpr ⟨List.mem_append_right _ (List.mem_of_getElem? (i := 322) rfl), rfl⟩
set_option maxRecDepth 100000 in
theorem xm_323 : (Jvm.Cond.methodLink "BrokerTree$Catalog" (40 : Nat) ({ cls := "BrokerTree$Row", name := "members", desc := "()I" } : Jvm.MethodName)) ∈ xWS := List.mem_filter.mpr ⟨List.mem_append_right _ (List.mem_of_getElem? (i := 323) (by decide +kernel)), rfl⟩
set_option maxRecDepth 100000 in
theorem xm_324 : (Jvm.Cond.instanceMethod ({ cls := "BrokerTree$Row", name := "members", desc := "()I" } : Jvm.MethodName)) ∈ xWS := List.mem_filter.mpr ⟨List.mem_append_right _ (List.mem_of_getElem? (i := 324) (by decide +kernel)), rfl⟩
set_option maxRecDepth 100000 in
theorem xm_325 : (Jvm.Cond.selects "BrokerTree$Row" ({ cls := "BrokerTree$Row", name := "members", desc := "()I" } : Jvm.MethodName) ({ cls := "BrokerTree$Row", name := "members", desc := "()I" } : Jvm.MethodName)) ∈ xWS := List.mem_filter.mpr ⟨List.mem_append_right _ (List.mem_of_getElem? (i := 325) (by decide +kernel)), rfl⟩
set_option maxRecDepth 100000 in
theorem xm_326 : (Jvm.Cond.code ({ cls := "BrokerTree$Row", name := "members", desc := "()I" } : Jvm.MethodName) prog_7_method_5_code (1 : Nat) (Option.some Jvm.ClassFile.FieldType.int)) ∈ xWS := List.mem_filter.mpr ⟨List.mem_append_right _ (List.mem_of_getElem? (i := 326) rfl), rfl⟩
set_option maxRecDepth 100000 in
theorem xm_327 : (Jvm.Cond.methodLink "BrokerTree" (186 : Nat) ({ cls := "BrokerTree", name := "tellNeeded", desc := "(LBrokerTree$Link;)V" } : Jvm.MethodName)) ∈ xWS := List.mem_filter.mpr ⟨List.mem_append_right _ (List.mem_of_getElem? (i := 327) (by decide +kernel)), rfl⟩
set_option maxRecDepth 100000 in
theorem xm_329 : (Jvm.Cond.instanceMethod ({ cls := "BrokerTree", name := "tellNeeded", desc := "(LBrokerTree$Link;)V" } : Jvm.MethodName)) ∈ xWS := List.mem_filter.mpr ⟨List.mem_append_right _ (List.mem_of_getElem? (i := 329) (by decide +kernel)), rfl⟩
set_option maxRecDepth 100000 in
theorem xm_330 : (Jvm.Cond.code ({ cls := "BrokerTree", name := "tellNeeded", desc := "(LBrokerTree$Link;)V" } : Jvm.MethodName) prog_1_method_22_code (4 : Nat) (Option.none : Option Jvm.ClassFile.FieldType)) ∈ xWS := List.mem_filter.mpr ⟨List.mem_append_right _ (List.mem_of_getElem? (i := 330) rfl), rfl⟩
set_option maxRecDepth 100000 in
theorem xm_331 : (Jvm.Cond.methodLink "BrokerTree" (206 : Nat) ({ cls := "BrokerTree$Row", name := "has", desc := "(I)Z" } : Jvm.MethodName)) ∈ xWS := List.mem_filter.mpr ⟨List.mem_append_right _ (List.mem_of_getElem? (i := 331) (by decide +kernel)), rfl⟩
set_option maxRecDepth 100000 in
theorem xm_332 : (Jvm.Cond.methodLink "BrokerTree" (189 : Nat) ({ cls := "BrokerTree", name := "dropNotNeeded", desc := "(LBrokerTree$Link;)V" } : Jvm.MethodName)) ∈ xWS := List.mem_filter.mpr ⟨List.mem_append_right _ (List.mem_of_getElem? (i := 332) (by decide +kernel)), rfl⟩
set_option maxRecDepth 100000 in
theorem xm_334 : (Jvm.Cond.instanceMethod ({ cls := "BrokerTree", name := "dropNotNeeded", desc := "(LBrokerTree$Link;)V" } : Jvm.MethodName)) ∈ xWS := List.mem_filter.mpr ⟨List.mem_append_right _ (List.mem_of_getElem? (i := 334) (by decide +kernel)), rfl⟩
set_option maxRecDepth 100000 in
theorem xm_335 : (Jvm.Cond.code ({ cls := "BrokerTree", name := "dropNotNeeded", desc := "(LBrokerTree$Link;)V" } : Jvm.MethodName) prog_1_method_23_code (5 : Nat) (Option.none : Option Jvm.ClassFile.FieldType)) ∈ xWS := List.mem_filter.mpr ⟨List.mem_append_right _ (List.mem_of_getElem? (i := 335) rfl), rfl⟩
set_option maxRecDepth 100000 in
theorem xm_336 : (Jvm.Cond.methodLink "BrokerTreeLaw" (85 : Nat) ({ cls := "BrokerTree", name := "filters", desc := "(IIZ)I" } : Jvm.MethodName)) ∈ xWS := List.mem_filter.mpr ⟨List.mem_append_right _ (List.mem_of_getElem? (i := 336) (by decide +kernel)), rfl⟩
set_option maxRecDepth 100000 in
theorem xm_337 : (Jvm.Cond.instanceMethod ({ cls := "BrokerTree", name := "filters", desc := "(IIZ)I" } : Jvm.MethodName)) ∈ xWS := List.mem_filter.mpr ⟨List.mem_append_right _ (List.mem_of_getElem? (i := 337) (by decide +kernel)), rfl⟩
set_option maxRecDepth 100000 in
theorem xm_338 : (Jvm.Cond.selects "BrokerTree" ({ cls := "BrokerTree", name := "filters", desc := "(IIZ)I" } : Jvm.MethodName) ({ cls := "BrokerTree", name := "filters", desc := "(IIZ)I" } : Jvm.MethodName)) ∈ xWS := List.mem_filter.mpr ⟨List.mem_append_right _ (List.mem_of_getElem? (i := 338) (by decide +kernel)), rfl⟩
set_option maxRecDepth 100000 in
theorem xm_339 : (Jvm.Cond.code ({ cls := "BrokerTree", name := "filters", desc := "(IIZ)I" } : Jvm.MethodName) prog_1_method_10_code (5 : Nat) (Option.some Jvm.ClassFile.FieldType.int)) ∈ xWS := List.mem_filter.mpr ⟨List.mem_append_right _ (List.mem_of_getElem? (i := 339) rfl), rfl⟩
set_option maxRecDepth 100000 in
theorem xm_340 : (Jvm.Cond.methodLink "BrokerTreeLaw" (94 : Nat) ({ cls := "BrokerTree", name := "count", desc := "(I)I" } : Jvm.MethodName)) ∈ xWS := List.mem_filter.mpr ⟨List.mem_append_right _ (List.mem_of_getElem? (i := 340) (by decide +kernel)), rfl⟩
set_option maxRecDepth 100000 in
theorem xm_341 : (Jvm.Cond.instanceMethod ({ cls := "BrokerTree", name := "count", desc := "(I)I" } : Jvm.MethodName)) ∈ xWS := List.mem_filter.mpr ⟨List.mem_append_right _ (List.mem_of_getElem? (i := 341) (by decide +kernel)), rfl⟩
set_option maxRecDepth 100000 in
theorem xm_342 : (Jvm.Cond.selects "BrokerTree" ({ cls := "BrokerTree", name := "count", desc := "(I)I" } : Jvm.MethodName) ({ cls := "BrokerTree", name := "count", desc := "(I)I" } : Jvm.MethodName)) ∈ xWS := List.mem_filter.mpr ⟨List.mem_append_right _ (List.mem_of_getElem? (i := 342) (by decide +kernel)), rfl⟩
set_option maxRecDepth 100000 in
theorem xm_343 : (Jvm.Cond.code ({ cls := "BrokerTree", name := "count", desc := "(I)I" } : Jvm.MethodName) prog_1_method_12_code (2 : Nat) (Option.some Jvm.ClassFile.FieldType.int)) ∈ xWS := List.mem_filter.mpr ⟨List.mem_append_right _ (List.mem_of_getElem? (i := 343) rfl), rfl⟩
set_option maxRecDepth 100000 in
theorem xm_344 : (Jvm.Cond.methodLink "BrokerTreeLaw" (38 : Nat) ({ cls := "BrokerTreeLaw", name := "cell", desc := "([II)I" } : Jvm.MethodName)) ∈ xWS := List.mem_filter.mpr ⟨List.mem_append_right _ (List.mem_of_getElem? (i := 344) (by decide +kernel)), rfl⟩
set_option maxRecDepth 100000 in
theorem xm_345 : (Jvm.Cond.static ({ cls := "BrokerTreeLaw", name := "cell", desc := "([II)I" } : Jvm.MethodName)) ∈ xWS := List.mem_filter.mpr ⟨List.mem_append_right _ (List.mem_of_getElem? (i := 345) (by decide +kernel)), rfl⟩
set_option maxRecDepth 100000 in
theorem xm_346 : (Jvm.Cond.code ({ cls := "BrokerTreeLaw", name := "cell", desc := "([II)I" } : Jvm.MethodName) method_2_code (2 : Nat) (Option.some Jvm.ClassFile.FieldType.int)) ∈ xWS := List.mem_filter.mpr ⟨List.mem_append_right _ (List.mem_of_getElem? (i := 346) rfl), rfl⟩
set_option maxRecDepth 100000 in
theorem xm_347 : (Jvm.Cond.methodLink "BrokerTreeLaw" (54 : Nat) ({ cls := "BrokerTreeLaw", name := "subscribe", desc := "(LBrokerTree;I[J)I" } : Jvm.MethodName)) ∈ xWS := List.mem_filter.mpr ⟨List.mem_append_right _ (List.mem_of_getElem? (i := 347) (by decide +kernel)), rfl⟩
set_option maxRecDepth 100000 in
theorem xm_352 : (Jvm.Cond.methodLink "BrokerTreeLaw" (7 : Nat) ({ cls := "BrokerTree", name := "subscribe", desc := "(I)I" } : Jvm.MethodName)) ∈ xWS := List.mem_filter.mpr ⟨List.mem_append_right _ (List.mem_of_getElem? (i := 352) (by decide +kernel)), rfl⟩
set_option maxRecDepth 100000 in
theorem xm_353 : (Jvm.Cond.instanceMethod ({ cls := "BrokerTree", name := "subscribe", desc := "(I)I" } : Jvm.MethodName)) ∈ xWS := List.mem_filter.mpr ⟨List.mem_append_right _ (List.mem_of_getElem? (i := 353) (by decide +kernel)), rfl⟩
set_option maxRecDepth 100000 in
theorem xm_354 : (Jvm.Cond.selects "BrokerTree" ({ cls := "BrokerTree", name := "subscribe", desc := "(I)I" } : Jvm.MethodName) ({ cls := "BrokerTree", name := "subscribe", desc := "(I)I" } : Jvm.MethodName)) ∈ xWS := List.mem_filter.mpr ⟨List.mem_append_right _ (List.mem_of_getElem? (i := 354) (by decide +kernel)), rfl⟩
set_option maxRecDepth 100000 in
theorem xm_355 : (Jvm.Cond.code ({ cls := "BrokerTree", name := "subscribe", desc := "(I)I" } : Jvm.MethodName) prog_1_method_3_code (4 : Nat) (Option.some Jvm.ClassFile.FieldType.int)) ∈ xWS := List.mem_filter.mpr ⟨List.mem_append_right _ (List.mem_of_getElem? (i := 355) rfl), rfl⟩
set_option maxRecDepth 100000 in
theorem xm_356 : (Jvm.Cond.methodLink "BrokerTree" (73 : Nat) ({ cls := "BrokerTree$Filter", name := "parse", desc := "([CII)LBrokerTree$Filter;" } : Jvm.MethodName)) ∈ xWS := List.mem_filter.mpr ⟨List.mem_append_right _ (List.mem_of_getElem? (i := 356) (by decide +kernel)), rfl⟩
set_option maxRecDepth 100000 in
theorem xm_357 : (Jvm.Cond.static ({ cls := "BrokerTree$Filter", name := "parse", desc := "([CII)LBrokerTree$Filter;" } : Jvm.MethodName)) ∈ xWS := List.mem_filter.mpr ⟨List.mem_append_right _ (List.mem_of_getElem? (i := 357) (by decide +kernel)), rfl⟩
set_option maxRecDepth 100000 in
theorem xm_358 : (Jvm.Cond.code ({ cls := "BrokerTree$Filter", name := "parse", desc := "([CII)LBrokerTree$Filter;" } : Jvm.MethodName) prog_3_method_2_code (7 : Nat) (Option.some (Jvm.ClassFile.FieldType.object "BrokerTree$Filter"))) ∈ xWS := List.mem_filter.mpr ⟨List.mem_append_right _ (List.mem_of_getElem? (i := 358) rfl), rfl⟩
set_option maxRecDepth 100000 in
theorem xm_359 : (Jvm.Cond.classLink "BrokerTree$Filter" (15 : Nat) "BrokerTree$Filter") ∈ xWS := List.mem_filter.mpr ⟨List.mem_append_right _ (List.mem_of_getElem? (i := 359) (by decide +kernel)), rfl⟩
set_option maxRecDepth 100000 in
theorem xm_360 : (Jvm.Cond.instantiable "BrokerTree$Filter" (3 : Nat)) ∈ xWS := List.mem_filter.mpr ⟨List.mem_append_right _ (List.mem_of_getElem? (i := 360) (by decide +kernel)), rfl⟩
set_option maxRecDepth 100000 in
theorem xm_361 : (Jvm.Cond.methodLink "BrokerTree$Filter" (27 : Nat) ({ cls := "BrokerTree$Filter", name := "<init>", desc := "()V" } : Jvm.MethodName)) ∈ xWS := List.mem_filter.mpr ⟨List.mem_append_right _ (List.mem_of_getElem? (i := 361) (by decide +kernel)), rfl⟩
set_option maxRecDepth 100000 in
theorem xm_362 : (Jvm.Cond.instanceMethod ({ cls := "BrokerTree$Filter", name := "<init>", desc := "()V" } : Jvm.MethodName)) ∈ xWS := List.mem_filter.mpr ⟨List.mem_append_right _ (List.mem_of_getElem? (i := 362) (by decide +kernel)), rfl⟩
set_option maxRecDepth 100000 in
theorem xm_363 : (Jvm.Cond.code ({ cls := "BrokerTree$Filter", name := "<init>", desc := "()V" } : Jvm.MethodName) prog_3_method_1_code (1 : Nat) (Option.none : Option Jvm.ClassFile.FieldType)) ∈ xWS := List.mem_filter.mpr ⟨List.mem_append_right _ (List.mem_of_getElem? (i := 363) rfl), rfl⟩
set_option maxRecDepth 100000 in
theorem xm_364 : (Jvm.Cond.methodLink "BrokerTree$Filter" (3 : Nat) ({ cls := "java/lang/Object", name := "<init>", desc := "()V" } : Jvm.MethodName)) ∈ xWS := List.mem_filter.mpr ⟨List.mem_append_right _ (List.mem_of_getElem? (i := 364) (by decide +kernel)), rfl⟩
set_option maxRecDepth 100000 in
theorem xm_365 : (Jvm.Cond.classLink "BrokerTree$Filter" (9 : Nat) "BrokerTree$Span") ∈ xWS := List.mem_filter.mpr ⟨List.mem_append_right _ (List.mem_of_getElem? (i := 365) (by decide +kernel)), rfl⟩
set_option maxRecDepth 100000 in
theorem xm_366 : (Jvm.Cond.instantiable "BrokerTree$Span" (4 : Nat)) ∈ xWS := List.mem_filter.mpr ⟨List.mem_append_right _ (List.mem_of_getElem? (i := 366) (by decide +kernel)), rfl⟩
set_option maxRecDepth 100000 in
theorem xm_367 : (Jvm.Cond.methodLink "BrokerTree$Filter" (11 : Nat) ({ cls := "BrokerTree$Span", name := "<init>", desc := "(II)V" } : Jvm.MethodName)) ∈ xWS := List.mem_filter.mpr ⟨List.mem_append_right _ (List.mem_of_getElem? (i := 367) (by decide +kernel)), rfl⟩
set_option maxRecDepth 100000 in
theorem xm_368 : (Jvm.Cond.instanceMethod ({ cls := "BrokerTree$Span", name := "<init>", desc := "(II)V" } : Jvm.MethodName)) ∈ xWS := List.mem_filter.mpr ⟨List.mem_append_right _ (List.mem_of_getElem? (i := 368) (by decide +kernel)), rfl⟩
set_option maxRecDepth 100000 in
theorem xm_369 : (Jvm.Cond.code ({ cls := "BrokerTree$Span", name := "<init>", desc := "(II)V" } : Jvm.MethodName) prog_8_method_1_code (3 : Nat) (Option.none : Option Jvm.ClassFile.FieldType)) ∈ xWS := List.mem_filter.mpr ⟨List.mem_append_right _ (List.mem_of_getElem? (i := 369) rfl), rfl⟩
set_option maxRecDepth 100000 in
theorem xm_370 : (Jvm.Cond.methodLink "BrokerTree$Span" (3 : Nat) ({ cls := "java/lang/Object", name := "<init>", desc := "()V" } : Jvm.MethodName)) ∈ xWS := List.mem_filter.mpr ⟨List.mem_append_right _ (List.mem_of_getElem? (i := 370) (by decide +kernel)), rfl⟩
set_option maxRecDepth 100000 in
theorem xm_371 : (Jvm.Cond.fieldLink "BrokerTree$Span" (15 : Nat) "BrokerTree$Span" "least" "I") ∈ xWS := List.mem_filter.mpr ⟨List.mem_append_right _ (List.mem_of_getElem? (i := 371) (by decide +kernel)), rfl⟩
set_option maxRecDepth 100000 in
theorem xm_372 : (Jvm.Cond.fieldLink "BrokerTree$Span" (19 : Nat) "BrokerTree$Span" "most" "I") ∈ xWS := List.mem_filter.mpr ⟨List.mem_append_right _ (List.mem_of_getElem? (i := 372) (by decide +kernel)), rfl⟩
set_option maxRecDepth 100000 in
theorem xm_373 : (Jvm.Cond.fieldLink "BrokerTree$Span" (9 : Nat) "BrokerTree$Span" "excluded" "[I") ∈ xWS := List.mem_filter.mpr ⟨List.mem_append_right _ (List.mem_of_getElem? (i := 373) (by decide +kernel)), rfl⟩
set_option maxRecDepth 100000 in
theorem xm_374 : (Jvm.Cond.fieldLink "BrokerTree$Span" (31 : Nat) "BrokerTree$Span" "exclusions" "I") ∈ xWS := List.mem_filter.mpr ⟨List.mem_append_right _ (List.mem_of_getElem? (i := 374) (by decide +kernel)), rfl⟩
set_option maxRecDepth 100000 in
theorem xm_375 : (Jvm.Cond.lays "BrokerTree$Span" "BrokerTree$Span" "least" "I") ∈ xWS := List.mem_filter.mpr ⟨List.mem_append_right _ (List.mem_of_getElem? (i := 375) (by decide +kernel)), rfl⟩
set_option maxRecDepth 100000 in
theorem xm_377 : (Jvm.Cond.lays "BrokerTree$Span" "BrokerTree$Span" "most" "I") ∈ xWS := List.mem_filter.mpr ⟨List.mem_append_right _ (List.mem_of_getElem? (i := 377) (by decide +kernel)), rfl⟩
set_option maxRecDepth 100000 in
theorem xm_379 : (Jvm.Cond.laysFinal "BrokerTree$Span" "BrokerTree$Span" "excluded" "[I") ∈ xWS := List.mem_filter.mpr ⟨List.mem_append_right _ (List.mem_of_getElem? (i := 379) (by decide +kernel)), rfl⟩
set_option maxRecDepth 100000 in
theorem xm_381 : (Jvm.Cond.lays "BrokerTree$Span" "BrokerTree$Span" "exclusions" "I") ∈ xWS := List.mem_filter.mpr ⟨List.mem_append_right _ (List.mem_of_getElem? (i := 381) (by decide +kernel)), rfl⟩
set_option maxRecDepth 100000 in
theorem xm_384 : (Jvm.Cond.constant "BrokerTree$Filter" (23 : Nat) (1048575 : Int32)) ∈ xWS := List.mem_filter.mpr ⟨List.mem_append_right _ (List.mem_of_getElem? (i := 384) (by decide +kernel)), rfl⟩
set_option maxRecDepth 100000 in
theorem xm_385 : (Jvm.Cond.fieldLink "BrokerTree$Filter" (14 : Nat) "BrokerTree$Filter" "a" "LBrokerTree$Span;") ∈ xWS := List.mem_filter.mpr ⟨List.mem_append_right _ (List.mem_of_getElem? (i := 385) (by decide +kernel)), rfl⟩
set_option maxRecDepth 100000 in
theorem xm_386 : (Jvm.Cond.fieldLink "BrokerTree$Filter" (20 : Nat) "BrokerTree$Filter" "b" "LBrokerTree$Span;") ∈ xWS := List.mem_filter.mpr ⟨List.mem_append_right _ (List.mem_of_getElem? (i := 386) (by decide +kernel)), rfl⟩
set_option maxRecDepth 100000 in
theorem xm_387 : (Jvm.Cond.fieldLink "BrokerTree$Filter" (24 : Nat) "BrokerTree$Filter" "c" "LBrokerTree$Span;") ∈ xWS := List.mem_filter.mpr ⟨List.mem_append_right _ (List.mem_of_getElem? (i := 387) (by decide +kernel)), rfl⟩
set_option maxRecDepth 100000 in
theorem xm_388 : (Jvm.Cond.laysFinal "BrokerTree$Filter" "BrokerTree$Filter" "a" "LBrokerTree$Span;") ∈ xWS := List.mem_filter.mpr ⟨List.mem_append_right _ (List.mem_of_getElem? (i := 388) (by decide +kernel)), rfl⟩
set_option maxRecDepth 100000 in
theorem xm_390 : (Jvm.Cond.laysFinal "BrokerTree$Filter" "BrokerTree$Filter" "b" "LBrokerTree$Span;") ∈ xWS := List.mem_filter.mpr ⟨List.mem_append_right _ (List.mem_of_getElem? (i := 390) (by decide +kernel)), rfl⟩
set_option maxRecDepth 100000 in
theorem xm_392 : (Jvm.Cond.laysFinal "BrokerTree$Filter" "BrokerTree$Filter" "c" "LBrokerTree$Span;") ∈ xWS := List.mem_filter.mpr ⟨List.mem_append_right _ (List.mem_of_getElem? (i := 392) (by decide +kernel)), rfl⟩
set_option maxRecDepth 100000 in
theorem xm_395 : (Jvm.Cond.methodLink "BrokerTree$Filter" (28 : Nat) ({ cls := "BrokerTree$Texts", name := "find", desc := "(C[CII)I" } : Jvm.MethodName)) ∈ xWS := List.mem_filter.mpr ⟨List.mem_append_right _ (List.mem_of_getElem? (i := 395) (by decide +kernel)), rfl⟩
set_option maxRecDepth 100000 in
theorem xm_396 : (Jvm.Cond.static ({ cls := "BrokerTree$Texts", name := "find", desc := "(C[CII)I" } : Jvm.MethodName)) ∈ xWS := List.mem_filter.mpr ⟨List.mem_append_right _ (List.mem_of_getElem? (i := 396) (by decide +kernel)), rfl⟩
set_option maxRecDepth 100000 in
theorem xm_397 : (Jvm.Cond.code ({ cls := "BrokerTree$Texts", name := "find", desc := "(C[CII)I" } : Jvm.MethodName) prog_9_method_2_code (5 : Nat) (Option.some Jvm.ClassFile.FieldType.int)) ∈ xWS := List.mem_filter.mpr ⟨List.mem_append_right _ (List.mem_of_getElem? (i := 397) rfl), rfl⟩
set_option maxRecDepth 100000 in
theorem xm_398 : (Jvm.Cond.methodLink "BrokerTree$Filter" (34 : Nat) ({ cls := "BrokerTree$Filter", name := "addCondition", desc := "([CII)Z" } : Jvm.MethodName)) ∈ xWS := List.mem_filter.mpr ⟨List.mem_append_right _ (List.mem_of_getElem? (i := 398) (by decide +kernel)), rfl⟩
set_option maxRecDepth 100000 in
theorem xm_400 : (Jvm.Cond.instanceMethod ({ cls := "BrokerTree$Filter", name := "addCondition", desc := "([CII)Z" } : Jvm.MethodName)) ∈ xWS := List.mem_filter.mpr ⟨List.mem_append_right _ (List.mem_of_getElem? (i := 400) (by decide +kernel)), rfl⟩
set_option maxRecDepth 100000 in
theorem xm_401 : (Jvm.Cond.code ({ cls := "BrokerTree$Filter", name := "addCondition", desc := "([CII)Z" } : Jvm.MethodName) prog_3_method_7_code (6 : Nat) (Option.some Jvm.ClassFile.FieldType.boolean)) ∈ xWS := List.mem_filter.mpr ⟨List.mem_append_right _ (List.mem_of_getElem? (i := 401) rfl), rfl⟩
set_option maxRecDepth 100000 in
theorem xm_402 : (Jvm.Cond.methodLink "BrokerTree$Filter" (64 : Nat) ({ cls := "BrokerTree$Texts", name := "word", desc := "([CII)I" } : Jvm.MethodName)) ∈ xWS := List.mem_filter.mpr ⟨List.mem_append_right _ (List.mem_of_getElem? (i := 402) (by decide +kernel)), rfl⟩
set_option maxRecDepth 100000 in
theorem xm_403 : (Jvm.Cond.static ({ cls := "BrokerTree$Texts", name := "word", desc := "([CII)I" } : Jvm.MethodName)) ∈ xWS := List.mem_filter.mpr ⟨List.mem_append_right _ (List.mem_of_getElem? (i := 403) (by decide +kernel)), rfl⟩
set_option maxRecDepth 100000 in
theorem xm_404 : (Jvm.Cond.code ({ cls := "BrokerTree$Texts", name := "word", desc := "([CII)I" } : Jvm.MethodName) prog_9_method_4_code (6 : Nat) (Option.some Jvm.ClassFile.FieldType.int)) ∈ xWS := List.mem_filter.mpr ⟨List.mem_append_right _ (List.mem_of_getElem? (i := 404) rfl), rfl⟩
set_option maxRecDepth 100000 in
theorem xm_405 : (Jvm.Cond.constant "BrokerTree$Texts" (9 : Nat) (-2147483648 : Int32)) ∈ xWS := List.mem_filter.mpr ⟨List.mem_append_right _ (List.mem_of_getElem? (i := 405) (by decide +kernel)), rfl⟩
set_option maxRecDepth 100000 in
theorem xm_406 : (Jvm.Cond.methodLink "BrokerTree$Filter" (68 : Nat) ({ cls := "BrokerTree$Filter", name := "narrowWord", desc := "(III)Z" } : Jvm.MethodName)) ∈ xWS := List.mem_filter.mpr ⟨List.mem_append_right _ (List.mem_of_getElem? (i := 406) (by decide +kernel)), rfl⟩
set_option maxRecDepth 100000 in
theorem xm_408 : (Jvm.Cond.instanceMethod ({ cls := "BrokerTree$Filter", name := "narrowWord", desc := "(III)Z" } : Jvm.MethodName)) ∈ xWS := List.mem_filter.mpr ⟨List.mem_append_right _ (List.mem_of_getElem? (i := 408) (by decide +kernel)), rfl⟩
set_option maxRecDepth 100000 in
theorem xm_409 : (Jvm.Cond.code ({ cls := "BrokerTree$Filter", name := "narrowWord", desc := "(III)Z" } : Jvm.MethodName) prog_3_method_9_code (4 : Nat) (Option.some Jvm.ClassFile.FieldType.boolean)) ∈ xWS := List.mem_filter.mpr ⟨List.mem_append_right _ (List.mem_of_getElem? (i := 409) rfl), rfl⟩
set_option maxRecDepth 100000 in
theorem xm_410 : (Jvm.Cond.constant "BrokerTree$Filter" (79 : Nat) (-2147483648 : Int32)) ∈ xWS := List.mem_filter.mpr ⟨List.mem_append_right _ (List.mem_of_getElem? (i := 410) (by decide +kernel)), rfl⟩
set_option maxRecDepth 100000 in
theorem xm_411 : (Jvm.Cond.methodLink "BrokerTree$Filter" (80 : Nat) ({ cls := "BrokerTree$Span", name := "keep", desc := "(II)V" } : Jvm.MethodName)) ∈ xWS := List.mem_filter.mpr ⟨List.mem_append_right _ (List.mem_of_getElem? (i := 411) (by decide +kernel)), rfl⟩
set_option maxRecDepth 100000 in
theorem xm_412 : (Jvm.Cond.instanceMethod ({ cls := "BrokerTree$Span", name := "keep", desc := "(II)V" } : Jvm.MethodName)) ∈ xWS := List.mem_filter.mpr ⟨List.mem_append_right _ (List.mem_of_getElem? (i := 412) (by decide +kernel)), rfl⟩
set_option maxRecDepth 100000 in
theorem xm_413 : (Jvm.Cond.selects "BrokerTree$Span" ({ cls := "BrokerTree$Span", name := "keep", desc := "(II)V" } : Jvm.MethodName) ({ cls := "BrokerTree$Span", name := "keep", desc := "(II)V" } : Jvm.MethodName)) ∈ xWS := List.mem_filter.mpr ⟨List.mem_append_right _ (List.mem_of_getElem? (i := 413) (by decide +kernel)), rfl⟩
set_option maxRecDepth 100000 in
theorem xm_414 : (Jvm.Cond.code ({ cls := "BrokerTree$Span", name := "keep", desc := "(II)V" } : Jvm.MethodName) prog_8_method_2_code (3 : Nat) (Option.none : Option Jvm.ClassFile.FieldType)) ∈ xWS := List.mem_filter.mpr ⟨List.mem_append_right _ (List.mem_of_getElem? (i := 414) rfl), rfl⟩
set_option maxRecDepth 100000 in
theorem xm_415 : (Jvm.Cond.methodLink "BrokerTree$Span" (22 : Nat) ({ cls := "java/lang/Math", name := "max", desc := "(II)I" } : Jvm.MethodName)) ∈ xWS := List.mem_filter.mpr ⟨List.mem_append_right _ (List.mem_of_getElem? (i := 415) (by decide +kernel)), rfl⟩
set_option maxRecDepth 100000 in
theorem xm_416 : (Jvm.Cond.static ({ cls := "java/lang/Math", name := "max", desc := "(II)I" } : Jvm.MethodName)) ∈ xWS := List.mem_filter.mpr ⟨List.mem_append_right _ (List.mem_of_getElem? (i := 416) (by decide +kernel)), rfl⟩
set_option maxRecDepth 100000 in
theorem xm_417 : (Jvm.Cond.code ({ cls := "java/lang/Math", name := "max", desc := "(II)I" } : Jvm.MethodName) prog_18_method_65_code (2 : Nat) (Option.some Jvm.ClassFile.FieldType.int)) ∈ xWS := List.mem_filter.mpr ⟨List.mem_append_right _ (List.mem_of_getElem? (i := 417) rfl), rfl⟩
set_option maxRecDepth 100000 in
theorem xm_418 : (Jvm.Cond.methodLink "BrokerTree$Span" (28 : Nat) ({ cls := "java/lang/Math", name := "min", desc := "(II)I" } : Jvm.MethodName)) ∈ xWS := List.mem_filter.mpr ⟨List.mem_append_right _ (List.mem_of_getElem? (i := 418) (by decide +kernel)), rfl⟩
set_option maxRecDepth 100000 in
theorem xm_419 : (Jvm.Cond.static ({ cls := "java/lang/Math", name := "min", desc := "(II)I" } : Jvm.MethodName)) ∈ xWS := List.mem_filter.mpr ⟨List.mem_append_right _ (List.mem_of_getElem? (i := 419) (by decide +kernel)), rfl⟩
set_option maxRecDepth 100000 in
theorem xm_420 : (Jvm.Cond.code ({ cls := "java/lang/Math", name := "min", desc := "(II)I" } : Jvm.MethodName) prog_18_method_69_code (2 : Nat) (Option.some Jvm.ClassFile.FieldType.int)) ∈ xWS := List.mem_filter.mpr ⟨List.mem_append_right _ (List.mem_of_getElem? (i := 420) rfl), rfl⟩
set_option maxRecDepth 100000 in
theorem xm_421 : (Jvm.Cond.methodLink "BrokerTree$Filter" (83 : Nat) ({ cls := "BrokerTree$Span", name := "exclude", desc := "(I)V" } : Jvm.MethodName)) ∈ xWS := List.mem_filter.mpr ⟨List.mem_append_right _ (List.mem_of_getElem? (i := 421) (by decide +kernel)), rfl⟩
set_option maxRecDepth 100000 in
theorem xm_422 : (Jvm.Cond.instanceMethod ({ cls := "BrokerTree$Span", name := "exclude", desc := "(I)V" } : Jvm.MethodName)) ∈ xWS := List.mem_filter.mpr ⟨List.mem_append_right _ (List.mem_of_getElem? (i := 422) (by decide +kernel)), rfl⟩
set_option maxRecDepth 100000 in
theorem xm_423 : (Jvm.Cond.selects "BrokerTree$Span" ({ cls := "BrokerTree$Span", name := "exclude", desc := "(I)V" } : Jvm.MethodName) ({ cls := "BrokerTree$Span", name := "exclude", desc := "(I)V" } : Jvm.MethodName)) ∈ xWS := List.mem_filter.mpr ⟨List.mem_append_right _ (List.mem_of_getElem? (i := 423) (by decide +kernel)), rfl⟩
set_option maxRecDepth 100000 in
theorem xm_424 : (Jvm.Cond.code ({ cls := "BrokerTree$Span", name := "exclude", desc := "(I)V" } : Jvm.MethodName) prog_8_method_3_code (2 : Nat) (Option.none : Option Jvm.ClassFile.FieldType)) ∈ xWS := List.mem_filter.mpr ⟨List.mem_append_right _ (List.mem_of_getElem? (i := 424) rfl), rfl⟩
set_option maxRecDepth 100000 in
theorem xm_425 : (Jvm.Cond.methodLink "BrokerTree$Filter" (87 : Nat) ({ cls := "BrokerTree$Texts", name := "endings", desc := "(I)I" } : Jvm.MethodName)) ∈ xWS := List.mem_filter.mpr ⟨List.mem_append_right _ (List.mem_of_getElem? (i := 425) (by decide +kernel)), rfl⟩
set_option maxRecDepth 100000 in
theorem xm_426 : (Jvm.Cond.static ({ cls := "BrokerTree$Texts", name := "endings", desc := "(I)I" } : Jvm.MethodName)) ∈ xWS := List.mem_filter.mpr ⟨List.mem_append_right _ (List.mem_of_getElem? (i := 426) (by decide +kernel)), rfl⟩
set_option maxRecDepth 100000 in
theorem xm_427 : (Jvm.Cond.code ({ cls := "BrokerTree$Texts", name := "endings", desc := "(I)I" } : Jvm.MethodName) prog_9_method_5_code (1 : Nat) (Option.some Jvm.ClassFile.FieldType.int)) ∈ xWS := List.mem_filter.mpr ⟨List.mem_append_right _ (List.mem_of_getElem? (i := 427) rfl), rfl⟩
set_option maxRecDepth 100000 in
theorem xm_428 : (Jvm.Cond.methodLink "BrokerTree$Filter" (72 : Nat) ({ cls := "BrokerTree$Texts", name := "number", desc := "([CII)I" } : Jvm.MethodName)) ∈ xWS := List.mem_filter.mpr ⟨List.mem_append_right _ (List.mem_of_getElem? (i := 428) (by decide +kernel)), rfl⟩
set_option maxRecDepth 100000 in
theorem xm_429 : (Jvm.Cond.static ({ cls := "BrokerTree$Texts", name := "number", desc := "([CII)I" } : Jvm.MethodName)) ∈ xWS := List.mem_filter.mpr ⟨List.mem_append_right _ (List.mem_of_getElem? (i := 429) (by decide +kernel)), rfl⟩
set_option maxRecDepth 100000 in
theorem xm_430 : (Jvm.Cond.code ({ cls := "BrokerTree$Texts", name := "number", desc := "([CII)I" } : Jvm.MethodName) prog_9_method_3_code (8 : Nat) (Option.some Jvm.ClassFile.FieldType.int)) ∈ xWS := List.mem_filter.mpr ⟨List.mem_append_right _ (List.mem_of_getElem? (i := 430) rfl), rfl⟩
set_option maxRecDepth 100000 in
theorem xm_431 : (Jvm.Cond.methodLink "BrokerTree$Filter" (75 : Nat) ({ cls := "BrokerTree$Filter", name := "narrowNumber", desc := "(LBrokerTree$Span;II)Z" } : Jvm.MethodName)) ∈ xWS := List.mem_filter.mpr ⟨List.mem_append_right _ (List.mem_of_getElem? (i := 431) (by decide +kernel)), rfl⟩
set_option maxRecDepth 100000 in
theorem xm_432 : (Jvm.Cond.static ({ cls := "BrokerTree$Filter", name := "narrowNumber", desc := "(LBrokerTree$Span;II)Z" } : Jvm.MethodName)) ∈ xWS := List.mem_filter.mpr ⟨List.mem_append_right _ (List.mem_of_getElem? (i := 432) (by decide +kernel)), rfl⟩
set_option maxRecDepth 100000 in
theorem xm_433 : (Jvm.Cond.code ({ cls := "BrokerTree$Filter", name := "narrowNumber", desc := "(LBrokerTree$Span;II)Z" } : Jvm.MethodName) prog_3_method_8_code (3 : Nat) (Option.some Jvm.ClassFile.FieldType.boolean)) ∈ xWS := List.mem_filter.mpr ⟨List.mem_append_right _ (List.mem_of_getElem? (i := 433) rfl), rfl⟩
set_option maxRecDepth 100000 in
theorem xm_434 : (Jvm.Cond.methodLink "BrokerTree$Filter" (38 : Nat) ({ cls := "BrokerTree$Filter", name := "tighten", desc := "()V" } : Jvm.MethodName)) ∈ xWS := List.mem_filter.mpr ⟨List.mem_append_right _ (List.mem_of_getElem? (i := 434) (by decide +kernel)), rfl⟩
set_option maxRecDepth 100000 in
theorem xm_436 : (Jvm.Cond.instanceMethod ({ cls := "BrokerTree$Filter", name := "tighten", desc := "()V" } : Jvm.MethodName)) ∈ xWS := List.mem_filter.mpr ⟨List.mem_append_right _ (List.mem_of_getElem? (i := 436) (by decide +kernel)), rfl⟩
set_option maxRecDepth 100000 in
theorem xm_437 : (Jvm.Cond.code ({ cls := "BrokerTree$Filter", name := "tighten", desc := "()V" } : Jvm.MethodName) prog_3_method_6_code (1 : Nat) (Option.none : Option Jvm.ClassFile.FieldType)) ∈ xWS := List.mem_filter.mpr ⟨List.mem_append_right _ (List.mem_of_getElem? (i := 437) rfl), rfl⟩
set_option maxRecDepth 100000 in
theorem xm_438 : (Jvm.Cond.methodLink "BrokerTree$Filter" (63 : Nat) ({ cls := "BrokerTree$Span", name := "tighten", desc := "()V" } : Jvm.MethodName)) ∈ xWS := List.mem_filter.mpr ⟨List.mem_append_right _ (List.mem_of_getElem? (i := 438) (by decide +kernel)), rfl⟩
set_option maxRecDepth 100000 in
theorem xm_439 : (Jvm.Cond.instanceMethod ({ cls := "BrokerTree$Span", name := "tighten", desc := "()V" } : Jvm.MethodName)) ∈ xWS := List.mem_filter.mpr ⟨List.mem_append_right _ (List.mem_of_getElem? (i := 439) (by decide +kernel)), rfl⟩
set_option maxRecDepth 100000 in
theorem xm_440 : (Jvm.Cond.selects "BrokerTree$Span" ({ cls := "BrokerTree$Span", name := "tighten", desc := "()V" } : Jvm.MethodName) ({ cls := "BrokerTree$Span", name := "tighten", desc := "()V" } : Jvm.MethodName)) ∈ xWS := List.mem_filter.mpr ⟨List.mem_append_right _ (List.mem_of_getElem? (i := 440) (by decide +kernel)), rfl⟩
set_option maxRecDepth 100000 in
theorem xm_441 : (Jvm.Cond.code ({ cls := "BrokerTree$Span", name := "tighten", desc := "()V" } : Jvm.MethodName) prog_8_method_4_code (2 : Nat) (Option.none : Option Jvm.ClassFile.FieldType)) ∈ xWS := List.mem_filter.mpr ⟨List.mem_append_right _ (List.mem_of_getElem? (i := 441) rfl), rfl⟩
set_option maxRecDepth 100000 in
theorem xm_442 : (Jvm.Cond.methodLink "BrokerTree$Span" (34 : Nat) ({ cls := "BrokerTree$Span", name := "has", desc := "(I)Z" } : Jvm.MethodName)) ∈ xWS := List.mem_filter.mpr ⟨List.mem_append_right _ (List.mem_of_getElem? (i := 442) (by decide +kernel)), rfl⟩
set_option maxRecDepth 100000 in
theorem xm_443 : (Jvm.Cond.methodLink "BrokerTree" (79 : Nat) ({ cls := "BrokerTree", name := "isClient", desc := "(I)Z" } : Jvm.MethodName)) ∈ xWS := List.mem_filter.mpr ⟨List.mem_append_right _ (List.mem_of_getElem? (i := 443) (by decide +kernel)), rfl⟩
set_option maxRecDepth 100000 in
theorem xm_444 : (Jvm.Cond.static ({ cls := "BrokerTree", name := "isClient", desc := "(I)Z" } : Jvm.MethodName)) ∈ xWS := List.mem_filter.mpr ⟨List.mem_append_right _ (List.mem_of_getElem? (i := 444) (by decide +kernel)), rfl⟩
set_option maxRecDepth 100000 in
theorem xm_445 : (Jvm.Cond.code ({ cls := "BrokerTree", name := "isClient", desc := "(I)Z" } : Jvm.MethodName) prog_1_method_13_code (1 : Nat) (Option.some Jvm.ClassFile.FieldType.boolean)) ∈ xWS := List.mem_filter.mpr ⟨List.mem_append_right _ (List.mem_of_getElem? (i := 445) rfl), rfl⟩
set_option maxRecDepth 100000 in
theorem xm_487 : (Jvm.Cond.methodLink "BrokerTree" (85 : Nat) ({ cls := "java/lang/IllegalArgumentException", name := "<init>", desc := "()V" } : Jvm.MethodName)) ∈ xWS := List.mem_filter.mpr ⟨List.mem_append_right _ (List.mem_of_getElem? (i := 487) (by decide +kernel)), rfl⟩
set_option maxRecDepth 100000 in
theorem xm_518 : (Jvm.Cond.methodLink "BrokerTree" (91 : Nat) ({ cls := "java/lang/IllegalStateException", name := "<init>", desc := "()V" } : Jvm.MethodName)) ∈ xWS := List.mem_filter.mpr ⟨List.mem_append_right _ (List.mem_of_getElem? (i := 518) (by decide +kernel)), rfl⟩
set_option maxRecDepth 100000 in
theorem xm_524 : (Jvm.Cond.methodLink "BrokerTree" (92 : Nat) ({ cls := "BrokerTree$Catalog", name := "numberOf", desc := "(LBrokerTree$Filter;)I" } : Jvm.MethodName)) ∈ xWS := List.mem_filter.mpr ⟨List.mem_append_right _ (List.mem_of_getElem? (i := 524) (by decide +kernel)), rfl⟩
set_option maxRecDepth 100000 in
theorem xm_525 : (Jvm.Cond.instanceMethod ({ cls := "BrokerTree$Catalog", name := "numberOf", desc := "(LBrokerTree$Filter;)I" } : Jvm.MethodName)) ∈ xWS := List.mem_filter.mpr ⟨List.mem_append_right _ (List.mem_of_getElem? (i := 525) (by decide +kernel)), rfl⟩
set_option maxRecDepth 100000 in
theorem xm_526 : (Jvm.Cond.selects "BrokerTree$Catalog" ({ cls := "BrokerTree$Catalog", name := "numberOf", desc := "(LBrokerTree$Filter;)I" } : Jvm.MethodName) ({ cls := "BrokerTree$Catalog", name := "numberOf", desc := "(LBrokerTree$Filter;)I" } : Jvm.MethodName)) ∈ xWS := List.mem_filter.mpr ⟨List.mem_append_right _ (List.mem_of_getElem? (i := 526) (by decide +kernel)), rfl⟩
set_option maxRecDepth 100000 in
theorem xm_527 : (Jvm.Cond.code ({ cls := "BrokerTree$Catalog", name := "numberOf", desc := "(LBrokerTree$Filter;)I" } : Jvm.MethodName) prog_2_method_2_code (4 : Nat) (Option.some Jvm.ClassFile.FieldType.int)) ∈ xWS := List.mem_filter.mpr ⟨List.mem_append_right _ (List.mem_of_getElem? (i := 527) rfl), rfl⟩
set_option maxRecDepth 100000 in
theorem xm_528 : (Jvm.Cond.methodLink "BrokerTree$Catalog" (32 : Nat) ({ cls := "BrokerTree$Filter", name := "includes", desc := "(LBrokerTree$Filter;)Z" } : Jvm.MethodName)) ∈ xWS := List.mem_filter.mpr ⟨List.mem_append_right _ (List.mem_of_getElem? (i := 528) (by decide +kernel)), rfl⟩
set_option maxRecDepth 100000 in
theorem xm_529 : (Jvm.Cond.instanceMethod ({ cls := "BrokerTree$Filter", name := "includes", desc := "(LBrokerTree$Filter;)Z" } : Jvm.MethodName)) ∈ xWS := List.mem_filter.mpr ⟨List.mem_append_right _ (List.mem_of_getElem? (i := 529) (by decide +kernel)), rfl⟩
set_option maxRecDepth 100000 in
theorem xm_530 : (Jvm.Cond.selects "BrokerTree$Filter" ({ cls := "BrokerTree$Filter", name := "includes", desc := "(LBrokerTree$Filter;)Z" } : Jvm.MethodName) ({ cls := "BrokerTree$Filter", name := "includes", desc := "(LBrokerTree$Filter;)Z" } : Jvm.MethodName)) ∈ xWS := List.mem_filter.mpr ⟨List.mem_append_right _ (List.mem_of_getElem? (i := 530) (by decide +kernel)), rfl⟩
set_option maxRecDepth 100000 in
theorem xm_531 : (Jvm.Cond.code ({ cls := "BrokerTree$Filter", name := "includes", desc := "(LBrokerTree$Filter;)Z" } : Jvm.MethodName) prog_3_method_4_code (2 : Nat) (Option.some Jvm.ClassFile.FieldType.boolean)) ∈ xWS := List.mem_filter.mpr ⟨List.mem_append_right _ (List.mem_of_getElem? (i := 531) rfl), rfl⟩
set_option maxRecDepth 100000 in
theorem xm_532 : (Jvm.Cond.methodLink "BrokerTree$Filter" (54 : Nat) ({ cls := "BrokerTree$Filter", name := "isEmpty", desc := "()Z" } : Jvm.MethodName)) ∈ xWS := List.mem_filter.mpr ⟨List.mem_append_right _ (List.mem_of_getElem? (i := 532) (by decide +kernel)), rfl⟩
set_option maxRecDepth 100000 in
theorem xm_534 : (Jvm.Cond.instanceMethod ({ cls := "BrokerTree$Filter", name := "isEmpty", desc := "()Z" } : Jvm.MethodName)) ∈ xWS := List.mem_filter.mpr ⟨List.mem_append_right _ (List.mem_of_getElem? (i := 534) (by decide +kernel)), rfl⟩
set_option maxRecDepth 100000 in
theorem xm_535 : (Jvm.Cond.code ({ cls := "BrokerTree$Filter", name := "isEmpty", desc := "()Z" } : Jvm.MethodName) prog_3_method_5_code (1 : Nat) (Option.some Jvm.ClassFile.FieldType.boolean)) ∈ xWS := List.mem_filter.mpr ⟨List.mem_append_right _ (List.mem_of_getElem? (i := 535) rfl), rfl⟩
set_option maxRecDepth 100000 in
theorem xm_536 : (Jvm.Cond.methodLink "BrokerTree$Filter" (62 : Nat) ({ cls := "BrokerTree$Span", name := "isEmpty", desc := "()Z" } : Jvm.MethodName)) ∈ xWS := List.mem_filter.mpr ⟨List.mem_append_right _ (List.mem_of_getElem? (i := 536) (by decide +kernel)), rfl⟩
set_option maxRecDepth 100000 in
theorem xm_537 : (Jvm.Cond.instanceMethod ({ cls := "BrokerTree$Span", name := "isEmpty", desc := "()Z" } : Jvm.MethodName)) ∈ xWS := List.mem_filter.mpr ⟨List.mem_append_right _ (List.mem_of_getElem? (i := 537) (by decide +kernel)), rfl⟩
set_option maxRecDepth 100000 in
theorem xm_538 : (Jvm.Cond.selects "BrokerTree$Span" ({ cls := "BrokerTree$Span", name := "isEmpty", desc := "()Z" } : Jvm.MethodName) ({ cls := "BrokerTree$Span", name := "isEmpty", desc := "()Z" } : Jvm.MethodName)) ∈ xWS := List.mem_filter.mpr ⟨List.mem_append_right _ (List.mem_of_getElem? (i := 538) (by decide +kernel)), rfl⟩
set_option maxRecDepth 100000 in
theorem xm_539 : (Jvm.Cond.code ({ cls := "BrokerTree$Span", name := "isEmpty", desc := "()Z" } : Jvm.MethodName) prog_8_method_5_code (1 : Nat) (Option.some Jvm.ClassFile.FieldType.boolean)) ∈ xWS := List.mem_filter.mpr ⟨List.mem_append_right _ (List.mem_of_getElem? (i := 539) rfl), rfl⟩
set_option maxRecDepth 100000 in
theorem xm_540 : (Jvm.Cond.methodLink "BrokerTree$Filter" (58 : Nat) ({ cls := "BrokerTree$Span", name := "includes", desc := "(LBrokerTree$Span;)Z" } : Jvm.MethodName)) ∈ xWS := List.mem_filter.mpr ⟨List.mem_append_right _ (List.mem_of_getElem? (i := 540) (by decide +kernel)), rfl⟩
set_option maxRecDepth 100000 in
theorem xm_541 : (Jvm.Cond.instanceMethod ({ cls := "BrokerTree$Span", name := "includes", desc := "(LBrokerTree$Span;)Z" } : Jvm.MethodName)) ∈ xWS := List.mem_filter.mpr ⟨List.mem_append_right _ (List.mem_of_getElem? (i := 541) (by decide +kernel)), rfl⟩
set_option maxRecDepth 100000 in
theorem xm_542 : (Jvm.Cond.selects "BrokerTree$Span" ({ cls := "BrokerTree$Span", name := "includes", desc := "(LBrokerTree$Span;)Z" } : Jvm.MethodName) ({ cls := "BrokerTree$Span", name := "includes", desc := "(LBrokerTree$Span;)Z" } : Jvm.MethodName)) ∈ xWS := List.mem_filter.mpr ⟨List.mem_append_right _ (List.mem_of_getElem? (i := 542) (by decide +kernel)), rfl⟩
set_option maxRecDepth 100000 in
theorem xm_543 : (Jvm.Cond.code ({ cls := "BrokerTree$Span", name := "includes", desc := "(LBrokerTree$Span;)Z" } : Jvm.MethodName) prog_8_method_7_code (3 : Nat) (Option.some Jvm.ClassFile.FieldType.boolean)) ∈ xWS := List.mem_filter.mpr ⟨List.mem_append_right _ (List.mem_of_getElem? (i := 543) rfl), rfl⟩
set_option maxRecDepth 100000 in
theorem xm_544 : (Jvm.Cond.methodLink "BrokerTree$Catalog" (36 : Nat) ({ cls := "java/util/ArrayList", name := "add", desc := "(Ljava/lang/Object;)Z" } : Jvm.MethodName)) ∈ xWS := List.mem_filter.mpr ⟨List.mem_append_right _ (List.mem_of_getElem? (i := 544) (by decide +kernel)), rfl⟩
set_option maxRecDepth 100000 in
theorem xm_545 : (Jvm.Cond.instanceMethod ({ cls := "java/util/ArrayList", name := "add", desc := "(Ljava/lang/Object;)Z" } : Jvm.MethodName)) ∈ xWS := List.mem_filter.mpr ⟨List.mem_append_right _ (List.mem_of_getElem? (i := 545) (by decide +kernel)), rfl⟩
set_option maxRecDepth 100000 in
theorem xm_546 : (Jvm.Cond.selects "java/util/ArrayList" ({ cls := "java/util/ArrayList", name := "add", desc := "(Ljava/lang/Object;)Z" } : Jvm.MethodName) ({ cls := "java/util/ArrayList", name := "add", desc := "(Ljava/lang/Object;)Z" } : Jvm.MethodName)) ∈ xWS := List.mem_filter.mpr ⟨List.mem_append_right _ (List.mem_of_getElem? (i := 546) (by decide +kernel)), rfl⟩
set_option maxRecDepth 100000 in
theorem xm_547 : (Jvm.Cond.code ({ cls := "java/util/ArrayList", name := "add", desc := "(Ljava/lang/Object;)Z" } : Jvm.MethodName) prog_24_method_25_code (2 : Nat) (Option.some Jvm.ClassFile.FieldType.boolean)) ∈ xWS := List.mem_filter.mpr ⟨List.mem_append_right _ (List.mem_of_getElem? (i := 547) rfl), rfl⟩
set_option maxRecDepth 100000 in
theorem xm_548 : (Jvm.Cond.methodLink "java/util/ArrayList" (131 : Nat) ({ cls := "java/util/ArrayList", name := "add", desc := "(Ljava/lang/Object;[Ljava/lang/Object;I)V" } : Jvm.MethodName)) ∈ xWS := List.mem_filter.mpr ⟨List.mem_append_right _ (List.mem_of_getElem? (i := 548) (by decide +kernel)), rfl⟩
set_option maxRecDepth 100000 in
theorem xm_550 : (Jvm.Cond.instanceMethod ({ cls := "java/util/ArrayList", name := "add", desc := "(Ljava/lang/Object;[Ljava/lang/Object;I)V" } : Jvm.MethodName)) ∈ xWS := List.mem_filter.mpr ⟨List.mem_append_right _ (List.mem_of_getElem? (i := 550) (by decide +kernel)), rfl⟩
set_option maxRecDepth 100000 in
theorem xm_551 : (Jvm.Cond.code ({ cls := "java/util/ArrayList", name := "add", desc := "(Ljava/lang/Object;[Ljava/lang/Object;I)V" } : Jvm.MethodName) prog_24_method_24_code (4 : Nat) (Option.none : Option Jvm.ClassFile.FieldType)) ∈ xWS := List.mem_filter.mpr ⟨List.mem_append_right _ (List.mem_of_getElem? (i := 551) rfl), rfl⟩
set_option maxRecDepth 100000 in
theorem xm_552 : (Jvm.Cond.methodLink "java/util/ArrayList" (129 : Nat) ({ cls := "java/util/ArrayList", name := "grow", desc := "()[Ljava/lang/Object;" } : Jvm.MethodName)) ∈ xWS := List.mem_filter.mpr ⟨List.mem_append_right _ (List.mem_of_getElem? (i := 552) (by decide +kernel)), rfl⟩
set_option maxRecDepth 100000 in
theorem xm_554 : (Jvm.Cond.instanceMethod ({ cls := "java/util/ArrayList", name := "grow", desc := "()[Ljava/lang/Object;" } : Jvm.MethodName)) ∈ xWS := List.mem_filter.mpr ⟨List.mem_append_right _ (List.mem_of_getElem? (i := 554) (by decide +kernel)), rfl⟩
set_option maxRecDepth 100000 in
theorem xm_555 : (Jvm.Cond.code ({ cls := "java/util/ArrayList", name := "grow", desc := "()[Ljava/lang/Object;" } : Jvm.MethodName) prog_24_method_7_code (1 : Nat) (Option.some (Jvm.ClassFile.FieldType.array (Jvm.ClassFile.FieldType.object "java/lang/Object")))) ∈ xWS := List.mem_filter.mpr ⟨List.mem_append_right _ (List.mem_of_getElem? (i := 555) rfl), rfl⟩
set_option maxRecDepth 100000 in
theorem xm_556 : (Jvm.Cond.methodLink "java/util/ArrayList" (69 : Nat) ({ cls := "java/util/ArrayList", name := "grow", desc := "(I)[Ljava/lang/Object;" } : Jvm.MethodName)) ∈ xWS := List.mem_filter.mpr ⟨List.mem_append_right _ (List.mem_of_getElem? (i := 556) (by decide +kernel)), rfl⟩
set_option maxRecDepth 100000 in
theorem xm_558 : (Jvm.Cond.instanceMethod ({ cls := "java/util/ArrayList", name := "grow", desc := "(I)[Ljava/lang/Object;" } : Jvm.MethodName)) ∈ xWS := List.mem_filter.mpr ⟨List.mem_append_right _ (List.mem_of_getElem? (i := 558) (by decide +kernel)), rfl⟩
set_option maxRecDepth 100000 in
theorem xm_559 : (Jvm.Cond.code ({ cls := "java/util/ArrayList", name := "grow", desc := "(I)[Ljava/lang/Object;" } : Jvm.MethodName) prog_24_method_6_code (4 : Nat) (Option.some (Jvm.ClassFile.FieldType.array (Jvm.ClassFile.FieldType.object "java/lang/Object")))) ∈ xWS := List.mem_filter.mpr ⟨List.mem_append_right _ (List.mem_of_getElem? (i := 559) rfl), rfl⟩
set_option maxRecDepth 100000 in
theorem xm_560 : (Jvm.Cond.methodLink "java/util/ArrayList" (73 : Nat) ({ cls := "jdk/internal/util/ArraysSupport", name := "newLength", desc := "(III)I" } : Jvm.MethodName)) ∈ xWS := List.mem_filter.mpr ⟨List.mem_append_right _ (List.mem_of_getElem? (i := 560) (by decide +kernel)), rfl⟩
set_option maxRecDepth 100000 in
theorem xm_561 : (Jvm.Cond.static ({ cls := "jdk/internal/util/ArraysSupport", name := "newLength", desc := "(III)I" } : Jvm.MethodName)) ∈ xWS := List.mem_filter.mpr ⟨List.mem_append_right _ (List.mem_of_getElem? (i := 561) (by decide +kernel)), rfl⟩
set_option maxRecDepth 100000 in
theorem xm_562 : (Jvm.Cond.code ({ cls := "jdk/internal/util/ArraysSupport", name := "newLength", desc := "(III)I" } : Jvm.MethodName) prog_32_method_27_code (4 : Nat) (Option.some Jvm.ClassFile.FieldType.int)) ∈ xWS := List.mem_filter.mpr ⟨List.mem_append_right _ (List.mem_of_getElem? (i := 562) rfl), rfl⟩
set_option maxRecDepth 100000 in
theorem xm_563 : (Jvm.Cond.methodLink "jdk/internal/util/ArraysSupport" (194 : Nat) ({ cls := "java/lang/Math", name := "max", desc := "(II)I" } : Jvm.MethodName)) ∈ xWS := List.mem_filter.mpr ⟨List.mem_append_right _ (List.mem_of_getElem? (i := 563) (by decide +kernel)), rfl⟩
set_option maxRecDepth 100000 in
theorem xm_564 : (Jvm.Cond.constant "jdk/internal/util/ArraysSupport" (200 : Nat) (2147483639 : Int32)) ∈ xWS := List.mem_filter.mpr ⟨List.mem_append_right _ (List.mem_of_getElem? (i := 564) (by decide +kernel)), rfl⟩
set_option maxRecDepth 100000 in
theorem xm_565 : (Jvm.Cond.methodLink "jdk/internal/util/ArraysSupport" (201 : Nat) ({ cls := "jdk/internal/util/ArraysSupport", name := "hugeLength", desc := "(II)I" } : Jvm.MethodName)) ∈ xWS := List.mem_filter.mpr ⟨List.mem_append_right _ (List.mem_of_getElem? (i := 565) (by decide +kernel)), rfl⟩
set_option maxRecDepth 100000 in
theorem xm_566 : (Jvm.Cond.static ({ cls := "jdk/internal/util/ArraysSupport", name := "hugeLength", desc := "(II)I" } : Jvm.MethodName)) ∈ xWS := List.mem_filter.mpr ⟨List.mem_append_right _ (List.mem_of_getElem? (i := 566) (by decide +kernel)), rfl⟩
set_option maxRecDepth 100000 in
theorem xm_567 : (Jvm.Cond.code ({ cls := "jdk/internal/util/ArraysSupport", name := "hugeLength", desc := "(II)I" } : Jvm.MethodName) prog_32_method_28_code (3 : Nat) (Option.some Jvm.ClassFile.FieldType.int)) ∈ xWS := List.mem_filter.mpr ⟨List.mem_append_right _ (List.mem_of_getElem? (i := 567) rfl), rfl⟩
set_option maxRecDepth 100000 in
theorem xm_568 : (Jvm.Cond.methodLink "java/util/ArrayList" (66 : Nat) ({ cls := "java/util/Arrays", name := "copyOf", desc := "([Ljava/lang/Object;I)[Ljava/lang/Object;" } : Jvm.MethodName)) ∈ xWS := List.mem_filter.mpr ⟨List.mem_append_right _ (List.mem_of_getElem? (i := 568) (by decide +kernel)), rfl⟩
set_option maxRecDepth 100000 in
theorem xm_569 : (Jvm.Cond.static ({ cls := "java/util/Arrays", name := "copyOf", desc := "([Ljava/lang/Object;I)[Ljava/lang/Object;" } : Jvm.MethodName)) ∈ xWS := List.mem_filter.mpr ⟨List.mem_append_right _ (List.mem_of_getElem? (i := 569) (by decide +kernel)), rfl⟩
set_option maxRecDepth 100000 in
theorem xm_570 : (Jvm.Cond.code ({ cls := "java/util/Arrays", name := "copyOf", desc := "([Ljava/lang/Object;I)[Ljava/lang/Object;" } : Jvm.MethodName) prog_25_method_119_code (2 : Nat) (Option.some (Jvm.ClassFile.FieldType.array (Jvm.ClassFile.FieldType.object "java/lang/Object")))) ∈ xWS := List.mem_filter.mpr ⟨List.mem_append_right _ (List.mem_of_getElem? (i := 570) rfl), rfl⟩
set_option maxRecDepth 100000 in
theorem xm_571 : (Jvm.Cond.methodLink "java/util/Arrays" (86 : Nat) ({ cls := "java/lang/Object", name := "getClass", desc := "()Ljava/lang/Class;" } : Jvm.MethodName)) ∈ xWS := List.mem_filter.mpr ⟨List.mem_append_right _ (List.mem_of_getElem? (i := 571) (by decide +kernel)), rfl⟩
set_option maxRecDepth 100000 in
theorem xm_588 : (Jvm.Cond.methodLink "java/util/Arrays" (300 : Nat) ({ cls := "java/util/Arrays", name := "copyOf", desc := "([Ljava/lang/Object;ILjava/lang/Class;)[Ljava/lang/Object;" } : Jvm.MethodName)) ∈ xWS := List.mem_filter.mpr ⟨List.mem_append_right _ (List.mem_of_getElem? (i := 588) (by decide +kernel)), rfl⟩
set_option maxRecDepth 100000 in
theorem xm_589 : (Jvm.Cond.static ({ cls := "java/util/Arrays", name := "copyOf", desc := "([Ljava/lang/Object;ILjava/lang/Class;)[Ljava/lang/Object;" } : Jvm.MethodName)) ∈ xWS := List.mem_filter.mpr ⟨List.mem_append_right _ (List.mem_of_getElem? (i := 589) (by decide +kernel)), rfl⟩
set_option maxRecDepth 100000 in
theorem xm_590 : (Jvm.Cond.code ({ cls := "java/util/Arrays", name := "copyOf", desc := "([Ljava/lang/Object;ILjava/lang/Class;)[Ljava/lang/Object;" } : Jvm.MethodName) prog_25_method_120_code (4 : Nat) (Option.some (Jvm.ClassFile.FieldType.array (Jvm.ClassFile.FieldType.object "java/lang/Object")))) ∈ xWS := List.mem_filter.mpr ⟨List.mem_append_right _ (List.mem_of_getElem? (i := 590) rfl), rfl⟩
set_option maxRecDepth 100000 in
theorem xm_594 : (Jvm.Cond.methodLink "java/util/Arrays" (304 : Nat) ({ cls := "java/lang/Math", name := "min", desc := "(II)I" } : Jvm.MethodName)) ∈ xWS := List.mem_filter.mpr ⟨List.mem_append_right _ (List.mem_of_getElem? (i := 594) (by decide +kernel)), rfl⟩
set_option maxRecDepth 100000 in
theorem xm_595 : (Jvm.Cond.methodLink "java/util/Arrays" (150 : Nat) ({ cls := "java/lang/System", name := "arraycopy", desc := "(Ljava/lang/Object;ILjava/lang/Object;II)V" } : Jvm.MethodName)) ∈ xWS := List.mem_filter.mpr ⟨List.mem_append_right _ (List.mem_of_getElem? (i := 595) (by decide +kernel)), rfl⟩
set_option maxRecDepth 100000 in
theorem xm_598 : (Jvm.Cond.methodLink "java/util/ArrayList" (79 : Nat) ({ cls := "java/lang/Math", name := "max", desc := "(II)I" } : Jvm.MethodName)) ∈ xWS := List.mem_filter.mpr ⟨List.mem_append_right _ (List.mem_of_getElem? (i := 598) (by decide +kernel)), rfl⟩
set_option maxRecDepth 100000 in
theorem xm_600 : (Jvm.Cond.methodLink "BrokerTreeLaw" (62 : Nat) ({ cls := "BrokerTreeLaw", name := "unsubscribe", desc := "(LBrokerTree;I)I" } : Jvm.MethodName)) ∈ xWS := List.mem_filter.mpr ⟨List.mem_append_right _ (List.mem_of_getElem? (i := 600) (by decide +kernel)), rfl⟩
set_option maxRecDepth 100000 in
theorem xm_604 : (Jvm.Cond.methodLink "BrokerTreeLaw" (17 : Nat) ({ cls := "BrokerTree", name := "unsubscribe", desc := "(I)V" } : Jvm.MethodName)) ∈ xWS := List.mem_filter.mpr ⟨List.mem_append_right _ (List.mem_of_getElem? (i := 604) (by decide +kernel)), rfl⟩
set_option maxRecDepth 100000 in
theorem xm_605 : (Jvm.Cond.instanceMethod ({ cls := "BrokerTree", name := "unsubscribe", desc := "(I)V" } : Jvm.MethodName)) ∈ xWS := List.mem_filter.mpr ⟨List.mem_append_right _ (List.mem_of_getElem? (i := 605) (by decide +kernel)), rfl⟩
set_option maxRecDepth 100000 in
theorem xm_606 : (Jvm.Cond.selects "BrokerTree" ({ cls := "BrokerTree", name := "unsubscribe", desc := "(I)V" } : Jvm.MethodName) ({ cls := "BrokerTree", name := "unsubscribe", desc := "(I)V" } : Jvm.MethodName)) ∈ xWS := List.mem_filter.mpr ⟨List.mem_append_right _ (List.mem_of_getElem? (i := 606) (by decide +kernel)), rfl⟩
set_option maxRecDepth 100000 in
theorem xm_607 : (Jvm.Cond.code ({ cls := "BrokerTree", name := "unsubscribe", desc := "(I)V" } : Jvm.MethodName) prog_1_method_4_code (2 : Nat) (Option.none : Option Jvm.ClassFile.FieldType)) ∈ xWS := List.mem_filter.mpr ⟨List.mem_append_right _ (List.mem_of_getElem? (i := 607) rfl), rfl⟩
set_option maxRecDepth 100000 in
theorem xm_617 : (Jvm.Cond.methodLink "BrokerTree" (106 : Nat) ({ cls := "java/util/NoSuchElementException", name := "<init>", desc := "()V" } : Jvm.MethodName)) ∈ xWS := List.mem_filter.mpr ⟨List.mem_append_right _ (List.mem_of_getElem? (i := 617) (by decide +kernel)), rfl⟩
set_option maxRecDepth 100000 in
theorem xm_623 : (Jvm.Cond.methodLink "BrokerTreeLaw" (66 : Nat) ({ cls := "BrokerTreeLaw", name := "publish", desc := "(LBrokerTree;III[J)I" } : Jvm.MethodName)) ∈ xWS := List.mem_filter.mpr ⟨List.mem_append_right _ (List.mem_of_getElem? (i := 623) (by decide +kernel)), rfl⟩
set_option maxRecDepth 100000 in
theorem xm_626 : (Jvm.Cond.methodLink "BrokerTreeLaw" (23 : Nat) ({ cls := "BrokerTree", name := "publish", desc := "(III)I" } : Jvm.MethodName)) ∈ xWS := List.mem_filter.mpr ⟨List.mem_append_right _ (List.mem_of_getElem? (i := 626) (by decide +kernel)), rfl⟩
set_option maxRecDepth 100000 in
theorem xm_627 : (Jvm.Cond.instanceMethod ({ cls := "BrokerTree", name := "publish", desc := "(III)I" } : Jvm.MethodName)) ∈ xWS := List.mem_filter.mpr ⟨List.mem_append_right _ (List.mem_of_getElem? (i := 627) (by decide +kernel)), rfl⟩
set_option maxRecDepth 100000 in
theorem xm_628 : (Jvm.Cond.selects "BrokerTree" ({ cls := "BrokerTree", name := "publish", desc := "(III)I" } : Jvm.MethodName) ({ cls := "BrokerTree", name := "publish", desc := "(III)I" } : Jvm.MethodName)) ∈ xWS := List.mem_filter.mpr ⟨List.mem_append_right _ (List.mem_of_getElem? (i := 628) (by decide +kernel)), rfl⟩
set_option maxRecDepth 100000 in
theorem xm_629 : (Jvm.Cond.code ({ cls := "BrokerTree", name := "publish", desc := "(III)I" } : Jvm.MethodName) prog_1_method_5_code (6 : Nat) (Option.some Jvm.ClassFile.FieldType.int)) ∈ xWS := List.mem_filter.mpr ⟨List.mem_append_right _ (List.mem_of_getElem? (i := 629) rfl), rfl⟩
set_option maxRecDepth 100000 in
theorem xm_630 : (Jvm.Cond.methodLink "BrokerTree" (107 : Nat) ({ cls := "BrokerTree$Texts", name := "word", desc := "([CII)I" } : Jvm.MethodName)) ∈ xWS := List.mem_filter.mpr ⟨List.mem_append_right _ (List.mem_of_getElem? (i := 630) (by decide +kernel)), rfl⟩
set_option maxRecDepth 100000 in
theorem xm_631 : (Jvm.Cond.methodLink "BrokerTree" (113 : Nat) ({ cls := "BrokerTree", name := "isNumberOrNone", desc := "(I)Z" } : Jvm.MethodName)) ∈ xWS := List.mem_filter.mpr ⟨List.mem_append_right _ (List.mem_of_getElem? (i := 631) (by decide +kernel)), rfl⟩
set_option maxRecDepth 100000 in
theorem xm_632 : (Jvm.Cond.static ({ cls := "BrokerTree", name := "isNumberOrNone", desc := "(I)Z" } : Jvm.MethodName)) ∈ xWS := List.mem_filter.mpr ⟨List.mem_append_right _ (List.mem_of_getElem? (i := 632) (by decide +kernel)), rfl⟩
set_option maxRecDepth 100000 in
theorem xm_633 : (Jvm.Cond.code ({ cls := "BrokerTree", name := "isNumberOrNone", desc := "(I)Z" } : Jvm.MethodName) prog_1_method_14_code (1 : Nat) (Option.some Jvm.ClassFile.FieldType.boolean)) ∈ xWS := List.mem_filter.mpr ⟨List.mem_append_right _ (List.mem_of_getElem? (i := 633) rfl), rfl⟩
set_option maxRecDepth 100000 in
theorem xm_634 : (Jvm.Cond.constant "BrokerTree" (116 : Nat) (-2147483648 : Int32)) ∈ xWS := List.mem_filter.mpr ⟨List.mem_append_right _ (List.mem_of_getElem? (i := 634) (by decide +kernel)), rfl⟩
set_option maxRecDepth 100000 in
theorem xm_635 : (Jvm.Cond.instantiable "BrokerTree$Note" (3 : Nat)) ∈ xWS := List.mem_filter.mpr ⟨List.mem_append_right _ (List.mem_of_getElem? (i := 635) (by decide +kernel)), rfl⟩
set_option maxRecDepth 100000 in
theorem xm_636 : (Jvm.Cond.methodLink "BrokerTree" (123 : Nat) ({ cls := "BrokerTree$Note", name := "<init>", desc := "(III)V" } : Jvm.MethodName)) ∈ xWS := List.mem_filter.mpr ⟨List.mem_append_right _ (List.mem_of_getElem? (i := 636) (by decide +kernel)), rfl⟩
set_option maxRecDepth 100000 in
theorem xm_637 : (Jvm.Cond.instanceMethod ({ cls := "BrokerTree$Note", name := "<init>", desc := "(III)V" } : Jvm.MethodName)) ∈ xWS := List.mem_filter.mpr ⟨List.mem_append_right _ (List.mem_of_getElem? (i := 637) (by decide +kernel)), rfl⟩
set_option maxRecDepth 100000 in
theorem xm_638 : (Jvm.Cond.code ({ cls := "BrokerTree$Note", name := "<init>", desc := "(III)V" } : Jvm.MethodName) prog_5_method_1_code (4 : Nat) (Option.none : Option Jvm.ClassFile.FieldType)) ∈ xWS := List.mem_filter.mpr ⟨List.mem_append_right _ (List.mem_of_getElem? (i := 638) rfl), rfl⟩
set_option maxRecDepth 100000 in
theorem xm_639 : (Jvm.Cond.methodLink "BrokerTree$Note" (1 : Nat) ({ cls := "java/lang/Object", name := "<init>", desc := "()V" } : Jvm.MethodName)) ∈ xWS := List.mem_filter.mpr ⟨List.mem_append_right _ (List.mem_of_getElem? (i := 639) (by decide +kernel)), rfl⟩
set_option maxRecDepth 100000 in
theorem xm_640 : (Jvm.Cond.fieldLink "BrokerTree$Note" (7 : Nat) "BrokerTree$Note" "a" "I") ∈ xWS := List.mem_filter.mpr ⟨List.mem_append_right _ (List.mem_of_getElem? (i := 640) (by decide +kernel)), rfl⟩
set_option maxRecDepth 100000 in
theorem xm_641 : (Jvm.Cond.fieldLink "BrokerTree$Filter" (41 : Nat) "BrokerTree$Note" "a" "I") ∈ xWS := List.mem_filter.mpr ⟨List.mem_append_right _ (List.mem_of_getElem? (i := 641) (by decide +kernel)), rfl⟩
set_option maxRecDepth 100000 in
theorem xm_642 : (Jvm.Cond.fieldLink "BrokerTree$Note" (13 : Nat) "BrokerTree$Note" "b" "I") ∈ xWS := List.mem_filter.mpr ⟨List.mem_append_right _ (List.mem_of_getElem? (i := 642) (by decide +kernel)), rfl⟩
set_option maxRecDepth 100000 in
theorem xm_643 : (Jvm.Cond.fieldLink "BrokerTree$Filter" (50 : Nat) "BrokerTree$Note" "b" "I") ∈ xWS := List.mem_filter.mpr ⟨List.mem_append_right _ (List.mem_of_getElem? (i := 643) (by decide +kernel)), rfl⟩
set_option maxRecDepth 100000 in
theorem xm_644 : (Jvm.Cond.fieldLink "BrokerTree$Note" (16 : Nat) "BrokerTree$Note" "c" "I") ∈ xWS := List.mem_filter.mpr ⟨List.mem_append_right _ (List.mem_of_getElem? (i := 644) (by decide +kernel)), rfl⟩
set_option maxRecDepth 100000 in
theorem xm_645 : (Jvm.Cond.fieldLink "BrokerTree$Filter" (52 : Nat) "BrokerTree$Note" "c" "I") ∈ xWS := List.mem_filter.mpr ⟨List.mem_append_right _ (List.mem_of_getElem? (i := 645) (by decide +kernel)), rfl⟩
set_option maxRecDepth 100000 in
theorem xm_646 : (Jvm.Cond.laysFinal "BrokerTree$Note" "BrokerTree$Note" "a" "I") ∈ xWS := List.mem_filter.mpr ⟨List.mem_append_right _ (List.mem_of_getElem? (i := 646) (by decide +kernel)), rfl⟩
set_option maxRecDepth 100000 in
theorem xm_648 : (Jvm.Cond.laysFinal "BrokerTree$Note" "BrokerTree$Note" "b" "I") ∈ xWS := List.mem_filter.mpr ⟨List.mem_append_right _ (List.mem_of_getElem? (i := 648) (by decide +kernel)), rfl⟩
set_option maxRecDepth 100000 in
theorem xm_650 : (Jvm.Cond.laysFinal "BrokerTree$Note" "BrokerTree$Note" "c" "I") ∈ xWS := List.mem_filter.mpr ⟨List.mem_append_right _ (List.mem_of_getElem? (i := 650) (by decide +kernel)), rfl⟩
set_option maxRecDepth 100000 in
theorem xm_653 : (Jvm.Cond.methodLink "BrokerTree" (126 : Nat) ({ cls := "java/util/ArrayList", name := "add", desc := "(Ljava/lang/Object;)Z" } : Jvm.MethodName)) ∈ xWS := List.mem_filter.mpr ⟨List.mem_append_right _ (List.mem_of_getElem? (i := 653) (by decide +kernel)), rfl⟩
set_option maxRecDepth 100000 in
theorem xm_654 : (Jvm.Cond.methodLink "BrokerTreeLaw" (70 : Nat) ({ cls := "BrokerTreeLaw", name := "take", desc := "(LBrokerTree;II[J)I" } : Jvm.MethodName)) ∈ xWS := List.mem_filter.mpr ⟨List.mem_append_right _ (List.mem_of_getElem? (i := 654) (by decide +kernel)), rfl⟩
set_option maxRecDepth 100000 in
theorem xm_657 : (Jvm.Cond.methodLink "BrokerTreeLaw" (27 : Nat) ({ cls := "BrokerTree", name := "take", desc := "(II)I" } : Jvm.MethodName)) ∈ xWS := List.mem_filter.mpr ⟨List.mem_append_right _ (List.mem_of_getElem? (i := 657) (by decide +kernel)), rfl⟩
set_option maxRecDepth 100000 in
theorem xm_658 : (Jvm.Cond.instanceMethod ({ cls := "BrokerTree", name := "take", desc := "(II)I" } : Jvm.MethodName)) ∈ xWS := List.mem_filter.mpr ⟨List.mem_append_right _ (List.mem_of_getElem? (i := 658) (by decide +kernel)), rfl⟩
set_option maxRecDepth 100000 in
theorem xm_659 : (Jvm.Cond.selects "BrokerTree" ({ cls := "BrokerTree", name := "take", desc := "(II)I" } : Jvm.MethodName) ({ cls := "BrokerTree", name := "take", desc := "(II)I" } : Jvm.MethodName)) ∈ xWS := List.mem_filter.mpr ⟨List.mem_append_right _ (List.mem_of_getElem? (i := 659) (by decide +kernel)), rfl⟩
set_option maxRecDepth 100000 in
theorem xm_660 : (Jvm.Cond.code ({ cls := "BrokerTree", name := "take", desc := "(II)I" } : Jvm.MethodName) prog_1_method_6_code (4 : Nat) (Option.some Jvm.ClassFile.FieldType.int)) ∈ xWS := List.mem_filter.mpr ⟨List.mem_append_right _ (List.mem_of_getElem? (i := 660) rfl), rfl⟩
set_option maxRecDepth 100000 in
theorem xm_661 : (Jvm.Cond.methodLink "BrokerTreeLaw" (82 : Nat) ({ cls := "BrokerTreeLaw", name := "read", desc := "(LBrokerTree;I[J)I" } : Jvm.MethodName)) ∈ xWS := List.mem_filter.mpr ⟨List.mem_append_right _ (List.mem_of_getElem? (i := 661) (by decide +kernel)), rfl⟩
set_option maxRecDepth 100000 in
theorem xm_664 : (Jvm.Cond.methodLink "BrokerTreeLaw" (31 : Nat) ({ cls := "BrokerTree", name := "read", desc := "(I)I" } : Jvm.MethodName)) ∈ xWS := List.mem_filter.mpr ⟨List.mem_append_right _ (List.mem_of_getElem? (i := 664) (by decide +kernel)), rfl⟩
set_option maxRecDepth 100000 in
theorem xm_665 : (Jvm.Cond.instanceMethod ({ cls := "BrokerTree", name := "read", desc := "(I)I" } : Jvm.MethodName)) ∈ xWS := List.mem_filter.mpr ⟨List.mem_append_right _ (List.mem_of_getElem? (i := 665) (by decide +kernel)), rfl⟩
set_option maxRecDepth 100000 in
theorem xm_666 : (Jvm.Cond.selects "BrokerTree" ({ cls := "BrokerTree", name := "read", desc := "(I)I" } : Jvm.MethodName) ({ cls := "BrokerTree", name := "read", desc := "(I)I" } : Jvm.MethodName)) ∈ xWS := List.mem_filter.mpr ⟨List.mem_append_right _ (List.mem_of_getElem? (i := 666) (by decide +kernel)), rfl⟩
set_option maxRecDepth 100000 in
theorem xm_667 : (Jvm.Cond.code ({ cls := "BrokerTree", name := "read", desc := "(I)I" } : Jvm.MethodName) prog_1_method_9_code (3 : Nat) (Option.some Jvm.ClassFile.FieldType.int)) ∈ xWS := List.mem_filter.mpr ⟨List.mem_append_right _ (List.mem_of_getElem? (i := 667) rfl), rfl⟩
set_option maxRecDepth 100000 in
theorem xm_668 : (Jvm.Cond.methodLink "BrokerTreeLaw" (90 : Nat) ({ cls := "BrokerTreeLaw", name := "covers", desc := "(LBrokerTree;[J)I" } : Jvm.MethodName)) ∈ xWS := List.mem_filter.mpr ⟨List.mem_append_right _ (List.mem_of_getElem? (i := 668) (by decide +kernel)), rfl⟩
set_option maxRecDepth 100000 in
theorem xm_671 : (Jvm.Cond.methodLink "BrokerTreeLaw" (34 : Nat) ({ cls := "BrokerTree", name := "covers", desc := "()Z" } : Jvm.MethodName)) ∈ xWS := List.mem_filter.mpr ⟨List.mem_append_right _ (List.mem_of_getElem? (i := 671) (by decide +kernel)), rfl⟩
set_option maxRecDepth 100000 in
theorem xm_672 : (Jvm.Cond.instanceMethod ({ cls := "BrokerTree", name := "covers", desc := "()Z" } : Jvm.MethodName)) ∈ xWS := List.mem_filter.mpr ⟨List.mem_append_right _ (List.mem_of_getElem? (i := 672) (by decide +kernel)), rfl⟩
set_option maxRecDepth 100000 in
theorem xm_673 : (Jvm.Cond.selects "BrokerTree" ({ cls := "BrokerTree", name := "covers", desc := "()Z" } : Jvm.MethodName) ({ cls := "BrokerTree", name := "covers", desc := "()Z" } : Jvm.MethodName)) ∈ xWS := List.mem_filter.mpr ⟨List.mem_append_right _ (List.mem_of_getElem? (i := 673) (by decide +kernel)), rfl⟩
set_option maxRecDepth 100000 in
theorem xm_674 : (Jvm.Cond.code ({ cls := "BrokerTree", name := "covers", desc := "()Z" } : Jvm.MethodName) prog_1_method_11_code (4 : Nat) (Option.some Jvm.ClassFile.FieldType.boolean)) ∈ xWS := List.mem_filter.mpr ⟨List.mem_append_right _ (List.mem_of_getElem? (i := 674) rfl), rfl⟩
set_option maxRecDepth 100000 in
theorem xm_675 : (Jvm.Cond.methodLink "BrokerTree" (160 : Nat) ({ cls := "BrokerTree$Texts", name := "find", desc := "(C[CII)I" } : Jvm.MethodName)) ∈ xWS := List.mem_filter.mpr ⟨List.mem_append_right _ (List.mem_of_getElem? (i := 675) (by decide +kernel)), rfl⟩
set_option maxRecDepth 100000 in
theorem xm_676 : (Jvm.Cond.methodLink "BrokerTree" (164 : Nat) ({ cls := "BrokerTree$Filter", name := "includes", desc := "(LBrokerTree$Filter;)Z" } : Jvm.MethodName)) ∈ xWS := List.mem_filter.mpr ⟨List.mem_append_right _ (List.mem_of_getElem? (i := 676) (by decide +kernel)), rfl⟩
set_option maxRecDepth 100000 in
theorem xm_677 : (Jvm.Cond.classLink "BrokerTreeLaw" (46 : Nat) "BrokerTreeModel") ∈ xWS := List.mem_filter.mpr ⟨List.mem_append_right _ (List.mem_of_getElem? (i := 677) (by decide +kernel)), rfl⟩
set_option maxRecDepth 100000 in
theorem xm_678 : (Jvm.Cond.instantiable "BrokerTreeModel" (42 : Nat)) ∈ xWS := List.mem_filter.mpr ⟨List.mem_append_right _ (List.mem_of_getElem? (i := 678) (by decide +kernel)), rfl⟩
set_option maxRecDepth 100000 in
theorem xm_679 : (Jvm.Cond.methodLink "BrokerTreeLaw" (48 : Nat) ({ cls := "BrokerTreeModel", name := "<init>", desc := "(I)V" } : Jvm.MethodName)) ∈ xWS := List.mem_filter.mpr ⟨List.mem_append_right _ (List.mem_of_getElem? (i := 679) (by decide +kernel)), rfl⟩
set_option maxRecDepth 100000 in
theorem xm_680 : (Jvm.Cond.instanceMethod ({ cls := "BrokerTreeModel", name := "<init>", desc := "(I)V" } : Jvm.MethodName)) ∈ xWS := List.mem_filter.mpr ⟨List.mem_append_right _ (List.mem_of_getElem? (i := 680) (by decide +kernel)), rfl⟩
set_option maxRecDepth 100000 in
theorem xm_681 : (Jvm.Cond.code ({ cls := "BrokerTreeModel", name := "<init>", desc := "(I)V" } : Jvm.MethodName) prog_11_method_1_code (4 : Nat) (Option.none : Option Jvm.ClassFile.FieldType)) ∈ xWS := List.mem_filter.mpr ⟨List.mem_append_right _ (List.mem_of_getElem? (i := 681) rfl), rfl⟩
set_option maxRecDepth 100000 in
theorem xm_682 : (Jvm.Cond.methodLink "BrokerTreeModel" (1 : Nat) ({ cls := "java/lang/Object", name := "<init>", desc := "()V" } : Jvm.MethodName)) ∈ xWS := List.mem_filter.mpr ⟨List.mem_append_right _ (List.mem_of_getElem? (i := 682) (by decide +kernel)), rfl⟩
set_option maxRecDepth 100000 in
theorem xm_683 : (Jvm.Cond.fieldLink "BrokerTreeModel" (112 : Nat) "BrokerTreeModel" "fault" "I") ∈ xWS := List.mem_filter.mpr ⟨List.mem_append_right _ (List.mem_of_getElem? (i := 683) (by decide +kernel)), rfl⟩
set_option maxRecDepth 100000 in
theorem xm_684 : (Jvm.Cond.fieldLink "BrokerTreeModel" (7 : Nat) "BrokerTreeModel" "text" "[C") ∈ xWS := List.mem_filter.mpr ⟨List.mem_append_right _ (List.mem_of_getElem? (i := 684) (by decide +kernel)), rfl⟩
set_option maxRecDepth 100000 in
theorem xm_685 : (Jvm.Cond.fieldLink "BrokerTreeModel" (115 : Nat) "BrokerTreeModel" "written" "I") ∈ xWS := List.mem_filter.mpr ⟨List.mem_append_right _ (List.mem_of_getElem? (i := 685) (by decide +kernel)), rfl⟩
set_option maxRecDepth 100000 in
theorem xm_686 : (Jvm.Cond.fieldLink "BrokerTreeModel" (13 : Nat) "BrokerTreeModel" "lineOf" "[I") ∈ xWS := List.mem_filter.mpr ⟨List.mem_append_right _ (List.mem_of_getElem? (i := 686) (by decide +kernel)), rfl⟩
set_option maxRecDepth 100000 in
theorem xm_687 : (Jvm.Cond.fieldLink "BrokerTreeModel" (108 : Nat) "BrokerTreeModel" "lines" "I") ∈ xWS := List.mem_filter.mpr ⟨List.mem_append_right _ (List.mem_of_getElem? (i := 687) (by decide +kernel)), rfl⟩
set_option maxRecDepth 100000 in
theorem xm_688 : (Jvm.Cond.fieldLink "BrokerTreeModel" (17 : Nat) "BrokerTreeModel" "low" "[I") ∈ xWS := List.mem_filter.mpr ⟨List.mem_append_right _ (List.mem_of_getElem? (i := 688) (by decide +kernel)), rfl⟩
set_option maxRecDepth 100000 in
theorem xm_689 : (Jvm.Cond.fieldLink "BrokerTreeModel" (20 : Nat) "BrokerTreeModel" "high" "[I") ∈ xWS := List.mem_filter.mpr ⟨List.mem_append_right _ (List.mem_of_getElem? (i := 689) (by decide +kernel)), rfl⟩
set_option maxRecDepth 100000 in
theorem xm_690 : (Jvm.Cond.fieldLink "BrokerTreeModel" (23 : Nat) "BrokerTreeModel" "outs" "[I") ∈ xWS := List.mem_filter.mpr ⟨List.mem_append_right _ (List.mem_of_getElem? (i := 690) (by decide +kernel)), rfl⟩
set_option maxRecDepth 100000 in
theorem xm_691 : (Jvm.Cond.fieldLink "BrokerTreeModel" (26 : Nat) "BrokerTreeModel" "out" "[I") ∈ xWS := List.mem_filter.mpr ⟨List.mem_append_right _ (List.mem_of_getElem? (i := 691) (by decide +kernel)), rfl⟩
set_option maxRecDepth 100000 in
theorem xm_692 : (Jvm.Cond.fieldLink "BrokerTreeModel" (29 : Nat) "BrokerTreeModel" "word" "[I") ∈ xWS := List.mem_filter.mpr ⟨List.mem_append_right _ (List.mem_of_getElem? (i := 692) (by decide +kernel)), rfl⟩
set_option maxRecDepth 100000 in
theorem xm_693 : (Jvm.Cond.fieldLink "BrokerTreeModel" (32 : Nat) "BrokerTreeModel" "letters" "[I") ∈ xWS := List.mem_filter.mpr ⟨List.mem_append_right _ (List.mem_of_getElem? (i := 693) (by decide +kernel)), rfl⟩
set_option maxRecDepth 100000 in
theorem xm_694 : (Jvm.Cond.fieldLink "BrokerTreeModel" (35 : Nat) "BrokerTreeModel" "wordOuts" "[I") ∈ xWS := List.mem_filter.mpr ⟨List.mem_append_right _ (List.mem_of_getElem? (i := 694) (by decide +kernel)), rfl⟩
set_option maxRecDepth 100000 in
theorem xm_695 : (Jvm.Cond.fieldLink "BrokerTreeModel" (38 : Nat) "BrokerTreeModel" "wordOut" "[I") ∈ xWS := List.mem_filter.mpr ⟨List.mem_append_right _ (List.mem_of_getElem? (i := 695) (by decide +kernel)), rfl⟩
set_option maxRecDepth 100000 in
theorem xm_696 : (Jvm.Cond.fieldLink "BrokerTreeModel" (41 : Nat) "BrokerTreeModel" "has" "[Z") ∈ xWS := List.mem_filter.mpr ⟨List.mem_append_right _ (List.mem_of_getElem? (i := 696) (by decide +kernel)), rfl⟩
set_option maxRecDepth 100000 in
theorem xm_697 : (Jvm.Cond.fieldLink "BrokerTreeModel" (45 : Nat) "BrokerTreeModel" "hasWord" "[Z") ∈ xWS := List.mem_filter.mpr ⟨List.mem_append_right _ (List.mem_of_getElem? (i := 697) (by decide +kernel)), rfl⟩
set_option maxRecDepth 100000 in
theorem xm_698 : (Jvm.Cond.fieldLink "BrokerTreeModel" (48 : Nat) "BrokerTreeModel" "whole" "[Z") ∈ xWS := List.mem_filter.mpr ⟨List.mem_append_right _ (List.mem_of_getElem? (i := 698) (by decide +kernel)), rfl⟩
set_option maxRecDepth 100000 in
theorem xm_699 : (Jvm.Cond.fieldLink "BrokerTreeModel" (51 : Nat) "BrokerTreeModel" "empty" "[Z") ∈ xWS := List.mem_filter.mpr ⟨List.mem_append_right _ (List.mem_of_getElem? (i := 699) (by decide +kernel)), rfl⟩
set_option maxRecDepth 100000 in
theorem xm_700 : (Jvm.Cond.fieldLink "BrokerTreeModel" (54 : Nat) "BrokerTreeModel" "over" "[Z") ∈ xWS := List.mem_filter.mpr ⟨List.mem_append_right _ (List.mem_of_getElem? (i := 700) (by decide +kernel)), rfl⟩
set_option maxRecDepth 100000 in
theorem xm_701 : (Jvm.Cond.fieldLink "BrokerTreeModel" (184 : Nat) "BrokerTreeModel" "subs" "I") ∈ xWS := List.mem_filter.mpr ⟨List.mem_append_right _ (List.mem_of_getElem? (i := 701) (by decide +kernel)), rfl⟩
set_option maxRecDepth 100000 in
theorem xm_702 : (Jvm.Cond.fieldLink "BrokerTreeModel" (57 : Nat) "BrokerTreeModel" "client" "[I") ∈ xWS := List.mem_filter.mpr ⟨List.mem_append_right _ (List.mem_of_getElem? (i := 702) (by decide +kernel)), rfl⟩
set_option maxRecDepth 100000 in
theorem xm_703 : (Jvm.Cond.fieldLink "BrokerTreeModel" (60 : Nat) "BrokerTreeModel" "ended" "[Z") ∈ xWS := List.mem_filter.mpr ⟨List.mem_append_right _ (List.mem_of_getElem? (i := 703) (by decide +kernel)), rfl⟩
set_option maxRecDepth 100000 in
theorem xm_704 : (Jvm.Cond.fieldLink "BrokerTreeModel" (63 : Nat) "BrokerTreeModel" "toldMany" "[I") ∈ xWS := List.mem_filter.mpr ⟨List.mem_append_right _ (List.mem_of_getElem? (i := 704) (by decide +kernel)), rfl⟩
set_option maxRecDepth 100000 in
theorem xm_705 : (Jvm.Cond.fieldLink "BrokerTreeModel" (66 : Nat) "BrokerTreeModel" "told" "[I") ∈ xWS := List.mem_filter.mpr ⟨List.mem_append_right _ (List.mem_of_getElem? (i := 705) (by decide +kernel)), rfl⟩
set_option maxRecDepth 100000 in
theorem xm_706 : (Jvm.Cond.fieldLink "BrokerTreeModel" (69 : Nat) "BrokerTreeModel" "heardMany" "[I") ∈ xWS := List.mem_filter.mpr ⟨List.mem_append_right _ (List.mem_of_getElem? (i := 706) (by decide +kernel)), rfl⟩
set_option maxRecDepth 100000 in
theorem xm_707 : (Jvm.Cond.fieldLink "BrokerTreeModel" (72 : Nat) "BrokerTreeModel" "heard" "[I") ∈ xWS := List.mem_filter.mpr ⟨List.mem_append_right _ (List.mem_of_getElem? (i := 707) (by decide +kernel)), rfl⟩
set_option maxRecDepth 100000 in
theorem xm_708 : (Jvm.Cond.fieldLink "BrokerTreeModel" (75 : Nat) "BrokerTreeModel" "front" "[I") ∈ xWS := List.mem_filter.mpr ⟨List.mem_append_right _ (List.mem_of_getElem? (i := 708) (by decide +kernel)), rfl⟩
set_option maxRecDepth 100000 in
theorem xm_709 : (Jvm.Cond.fieldLink "BrokerTreeModel" (78 : Nat) "BrokerTreeModel" "back" "[I") ∈ xWS := List.mem_filter.mpr ⟨List.mem_append_right _ (List.mem_of_getElem? (i := 709) (by decide +kernel)), rfl⟩
set_option maxRecDepth 100000 in
theorem xm_710 : (Jvm.Cond.fieldLink "BrokerTreeModel" (81 : Nat) "BrokerTreeModel" "message" "[I") ∈ xWS := List.mem_filter.mpr ⟨List.mem_append_right _ (List.mem_of_getElem? (i := 710) (by decide +kernel)), rfl⟩
set_option maxRecDepth 100000 in
theorem xm_711 : (Jvm.Cond.fieldLink "BrokerTreeModel" (84 : Nat) "BrokerTreeModel" "row" "[I") ∈ xWS := List.mem_filter.mpr ⟨List.mem_append_right _ (List.mem_of_getElem? (i := 711) (by decide +kernel)), rfl⟩
set_option maxRecDepth 100000 in
theorem xm_712 : (Jvm.Cond.fieldLink "BrokerTreeModel" (181 : Nat) "BrokerTreeModel" "rows" "I") ∈ xWS := List.mem_filter.mpr ⟨List.mem_append_right _ (List.mem_of_getElem? (i := 712) (by decide +kernel)), rfl⟩
set_option maxRecDepth 100000 in
theorem xm_713 : (Jvm.Cond.fieldLink "BrokerTreeModel" (87 : Nat) "BrokerTreeModel" "kept" "[Z") ∈ xWS := List.mem_filter.mpr ⟨List.mem_append_right _ (List.mem_of_getElem? (i := 713) (by decide +kernel)), rfl⟩
set_option maxRecDepth 100000 in
theorem xm_714 : (Jvm.Cond.fieldLink "BrokerTreeModel" (233 : Nat) "BrokerTreeModel" "notes" "I") ∈ xWS := List.mem_filter.mpr ⟨List.mem_append_right _ (List.mem_of_getElem? (i := 714) (by decide +kernel)), rfl⟩
set_option maxRecDepth 100000 in
theorem xm_715 : (Jvm.Cond.fieldLink "BrokerTreeModel" (199 : Nat) "BrokerTreeModel" "noted" "I") ∈ xWS := List.mem_filter.mpr ⟨List.mem_append_right _ (List.mem_of_getElem? (i := 715) (by decide +kernel)), rfl⟩
set_option maxRecDepth 100000 in
theorem xm_716 : (Jvm.Cond.fieldLink "BrokerTreeModel" (242 : Nat) "BrokerTreeModel" "brought" "I") ∈ xWS := List.mem_filter.mpr ⟨List.mem_append_right _ (List.mem_of_getElem? (i := 716) (by decide +kernel)), rfl⟩
set_option maxRecDepth 100000 in
theorem xm_717 : (Jvm.Cond.fieldLink "BrokerTreeModel" (193 : Nat) "BrokerTreeModel" "tells" "I") ∈ xWS := List.mem_filter.mpr ⟨List.mem_append_right _ (List.mem_of_getElem? (i := 717) (by decide +kernel)), rfl⟩
set_option maxRecDepth 100000 in
theorem xm_718 : (Jvm.Cond.fieldLink "BrokerTreeModel" (196 : Nat) "BrokerTreeModel" "drops" "I") ∈ xWS := List.mem_filter.mpr ⟨List.mem_append_right _ (List.mem_of_getElem? (i := 718) (by decide +kernel)), rfl⟩
set_option maxRecDepth 100000 in
theorem xm_719 : (Jvm.Cond.fieldLink "BrokerTreeModel" (90 : Nat) "BrokerTreeModel" "noteA" "[I") ∈ xWS := List.mem_filter.mpr ⟨List.mem_append_right _ (List.mem_of_getElem? (i := 719) (by decide +kernel)), rfl⟩
set_option maxRecDepth 100000 in
theorem xm_720 : (Jvm.Cond.fieldLink "BrokerTreeModel" (93 : Nat) "BrokerTreeModel" "noteB" "[I") ∈ xWS := List.mem_filter.mpr ⟨List.mem_append_right _ (List.mem_of_getElem? (i := 720) (by decide +kernel)), rfl⟩
set_option maxRecDepth 100000 in
theorem xm_721 : (Jvm.Cond.fieldLink "BrokerTreeModel" (96 : Nat) "BrokerTreeModel" "noteC" "[I") ∈ xWS := List.mem_filter.mpr ⟨List.mem_append_right _ (List.mem_of_getElem? (i := 721) (by decide +kernel)), rfl⟩
set_option maxRecDepth 100000 in
theorem xm_722 : (Jvm.Cond.fieldLink "BrokerTreeModel" (99 : Nat) "BrokerTreeModel" "first" "[I") ∈ xWS := List.mem_filter.mpr ⟨List.mem_append_right _ (List.mem_of_getElem? (i := 722) (by decide +kernel)), rfl⟩
set_option maxRecDepth 100000 in
theorem xm_723 : (Jvm.Cond.fieldLink "BrokerTreeModel" (102 : Nat) "BrokerTreeModel" "last" "[I") ∈ xWS := List.mem_filter.mpr ⟨List.mem_append_right _ (List.mem_of_getElem? (i := 723) (by decide +kernel)), rfl⟩
set_option maxRecDepth 100000 in
theorem xm_724 : (Jvm.Cond.fieldLink "BrokerTreeModel" (105 : Nat) "BrokerTreeModel" "inbox" "[I") ∈ xWS := List.mem_filter.mpr ⟨List.mem_append_right _ (List.mem_of_getElem? (i := 724) (by decide +kernel)), rfl⟩
set_option maxRecDepth 100000 in
theorem xm_725 : (Jvm.Cond.lays "BrokerTreeModel" "BrokerTreeModel" "fault" "I") ∈ xWS := List.mem_filter.mpr ⟨List.mem_append_right _ (List.mem_of_getElem? (i := 725) (by decide +kernel)), rfl⟩
set_option maxRecDepth 100000 in
theorem xm_727 : (Jvm.Cond.laysFinal "BrokerTreeModel" "BrokerTreeModel" "text" "[C") ∈ xWS := List.mem_filter.mpr ⟨List.mem_append_right _ (List.mem_of_getElem? (i := 727) (by decide +kernel)), rfl⟩
set_option maxRecDepth 100000 in
theorem xm_729 : (Jvm.Cond.lays "BrokerTreeModel" "BrokerTreeModel" "written" "I") ∈ xWS := List.mem_filter.mpr ⟨List.mem_append_right _ (List.mem_of_getElem? (i := 729) (by decide +kernel)), rfl⟩
set_option maxRecDepth 100000 in
theorem xm_731 : (Jvm.Cond.laysFinal "BrokerTreeModel" "BrokerTreeModel" "lineOf" "[I") ∈ xWS := List.mem_filter.mpr ⟨List.mem_append_right _ (List.mem_of_getElem? (i := 731) (by decide +kernel)), rfl⟩
set_option maxRecDepth 100000 in
theorem xm_733 : (Jvm.Cond.lays "BrokerTreeModel" "BrokerTreeModel" "lines" "I") ∈ xWS := List.mem_filter.mpr ⟨List.mem_append_right _ (List.mem_of_getElem? (i := 733) (by decide +kernel)), rfl⟩
set_option maxRecDepth 100000 in
theorem xm_735 : (Jvm.Cond.laysFinal "BrokerTreeModel" "BrokerTreeModel" "low" "[I") ∈ xWS := List.mem_filter.mpr ⟨List.mem_append_right _ (List.mem_of_getElem? (i := 735) (by decide +kernel)), rfl⟩
set_option maxRecDepth 100000 in
theorem xm_737 : (Jvm.Cond.laysFinal "BrokerTreeModel" "BrokerTreeModel" "high" "[I") ∈ xWS := List.mem_filter.mpr ⟨List.mem_append_right _ (List.mem_of_getElem? (i := 737) (by decide +kernel)), rfl⟩
set_option maxRecDepth 100000 in
theorem xm_739 : (Jvm.Cond.laysFinal "BrokerTreeModel" "BrokerTreeModel" "outs" "[I") ∈ xWS := List.mem_filter.mpr ⟨List.mem_append_right _ (List.mem_of_getElem? (i := 739) (by decide +kernel)), rfl⟩
set_option maxRecDepth 100000 in
theorem xm_741 : (Jvm.Cond.laysFinal "BrokerTreeModel" "BrokerTreeModel" "out" "[I") ∈ xWS := List.mem_filter.mpr ⟨List.mem_append_right _ (List.mem_of_getElem? (i := 741) (by decide +kernel)), rfl⟩
set_option maxRecDepth 100000 in
theorem xm_743 : (Jvm.Cond.laysFinal "BrokerTreeModel" "BrokerTreeModel" "word" "[I") ∈ xWS := List.mem_filter.mpr ⟨List.mem_append_right _ (List.mem_of_getElem? (i := 743) (by decide +kernel)), rfl⟩
set_option maxRecDepth 100000 in
theorem xm_745 : (Jvm.Cond.laysFinal "BrokerTreeModel" "BrokerTreeModel" "letters" "[I") ∈ xWS := List.mem_filter.mpr ⟨List.mem_append_right _ (List.mem_of_getElem? (i := 745) (by decide +kernel)), rfl⟩
set_option maxRecDepth 100000 in
theorem xm_747 : (Jvm.Cond.laysFinal "BrokerTreeModel" "BrokerTreeModel" "wordOuts" "[I") ∈ xWS := List.mem_filter.mpr ⟨List.mem_append_right _ (List.mem_of_getElem? (i := 747) (by decide +kernel)), rfl⟩
set_option maxRecDepth 100000 in
theorem xm_749 : (Jvm.Cond.laysFinal "BrokerTreeModel" "BrokerTreeModel" "wordOut" "[I") ∈ xWS := List.mem_filter.mpr ⟨List.mem_append_right _ (List.mem_of_getElem? (i := 749) (by decide +kernel)), rfl⟩
set_option maxRecDepth 100000 in
theorem xm_751 : (Jvm.Cond.laysFinal "BrokerTreeModel" "BrokerTreeModel" "has" "[Z") ∈ xWS := List.mem_filter.mpr ⟨List.mem_append_right _ (List.mem_of_getElem? (i := 751) (by decide +kernel)), rfl⟩
set_option maxRecDepth 100000 in
theorem xm_753 : (Jvm.Cond.laysFinal "BrokerTreeModel" "BrokerTreeModel" "hasWord" "[Z") ∈ xWS := List.mem_filter.mpr ⟨List.mem_append_right _ (List.mem_of_getElem? (i := 753) (by decide +kernel)), rfl⟩
set_option maxRecDepth 100000 in
theorem xm_755 : (Jvm.Cond.laysFinal "BrokerTreeModel" "BrokerTreeModel" "whole" "[Z") ∈ xWS := List.mem_filter.mpr ⟨List.mem_append_right _ (List.mem_of_getElem? (i := 755) (by decide +kernel)), rfl⟩
set_option maxRecDepth 100000 in
theorem xm_757 : (Jvm.Cond.laysFinal "BrokerTreeModel" "BrokerTreeModel" "empty" "[Z") ∈ xWS := List.mem_filter.mpr ⟨List.mem_append_right _ (List.mem_of_getElem? (i := 757) (by decide +kernel)), rfl⟩
set_option maxRecDepth 100000 in
theorem xm_759 : (Jvm.Cond.laysFinal "BrokerTreeModel" "BrokerTreeModel" "over" "[Z") ∈ xWS := List.mem_filter.mpr ⟨List.mem_append_right _ (List.mem_of_getElem? (i := 759) (by decide +kernel)), rfl⟩
set_option maxRecDepth 100000 in
theorem xm_761 : (Jvm.Cond.lays "BrokerTreeModel" "BrokerTreeModel" "subs" "I") ∈ xWS := List.mem_filter.mpr ⟨List.mem_append_right _ (List.mem_of_getElem? (i := 761) (by decide +kernel)), rfl⟩
set_option maxRecDepth 100000 in
theorem xm_763 : (Jvm.Cond.laysFinal "BrokerTreeModel" "BrokerTreeModel" "client" "[I") ∈ xWS := List.mem_filter.mpr ⟨List.mem_append_right _ (List.mem_of_getElem? (i := 763) (by decide +kernel)), rfl⟩
set_option maxRecDepth 100000 in
theorem xm_765 : (Jvm.Cond.laysFinal "BrokerTreeModel" "BrokerTreeModel" "ended" "[Z") ∈ xWS := List.mem_filter.mpr ⟨List.mem_append_right _ (List.mem_of_getElem? (i := 765) (by decide +kernel)), rfl⟩
set_option maxRecDepth 100000 in
theorem xm_767 : (Jvm.Cond.laysFinal "BrokerTreeModel" "BrokerTreeModel" "toldMany" "[I") ∈ xWS := List.mem_filter.mpr ⟨List.mem_append_right _ (List.mem_of_getElem? (i := 767) (by decide +kernel)), rfl⟩
set_option maxRecDepth 100000 in
theorem xm_769 : (Jvm.Cond.laysFinal "BrokerTreeModel" "BrokerTreeModel" "told" "[I") ∈ xWS := List.mem_filter.mpr ⟨List.mem_append_right _ (List.mem_of_getElem? (i := 769) (by decide +kernel)), rfl⟩
set_option maxRecDepth 100000 in
theorem xm_771 : (Jvm.Cond.laysFinal "BrokerTreeModel" "BrokerTreeModel" "heardMany" "[I") ∈ xWS := List.mem_filter.mpr ⟨List.mem_append_right _ (List.mem_of_getElem? (i := 771) (by decide +kernel)), rfl⟩
set_option maxRecDepth 100000 in
theorem xm_773 : (Jvm.Cond.laysFinal "BrokerTreeModel" "BrokerTreeModel" "heard" "[I") ∈ xWS := List.mem_filter.mpr ⟨List.mem_append_right _ (List.mem_of_getElem? (i := 773) (by decide +kernel)), rfl⟩
set_option maxRecDepth 100000 in
theorem xm_775 : (Jvm.Cond.laysFinal "BrokerTreeModel" "BrokerTreeModel" "front" "[I") ∈ xWS := List.mem_filter.mpr ⟨List.mem_append_right _ (List.mem_of_getElem? (i := 775) (by decide +kernel)), rfl⟩
set_option maxRecDepth 100000 in
theorem xm_777 : (Jvm.Cond.laysFinal "BrokerTreeModel" "BrokerTreeModel" "back" "[I") ∈ xWS := List.mem_filter.mpr ⟨List.mem_append_right _ (List.mem_of_getElem? (i := 777) (by decide +kernel)), rfl⟩
set_option maxRecDepth 100000 in
theorem xm_779 : (Jvm.Cond.laysFinal "BrokerTreeModel" "BrokerTreeModel" "message" "[I") ∈ xWS := List.mem_filter.mpr ⟨List.mem_append_right _ (List.mem_of_getElem? (i := 779) (by decide +kernel)), rfl⟩
set_option maxRecDepth 100000 in
theorem xm_781 : (Jvm.Cond.laysFinal "BrokerTreeModel" "BrokerTreeModel" "row" "[I") ∈ xWS := List.mem_filter.mpr ⟨List.mem_append_right _ (List.mem_of_getElem? (i := 781) (by decide +kernel)), rfl⟩
set_option maxRecDepth 100000 in
theorem xm_783 : (Jvm.Cond.lays "BrokerTreeModel" "BrokerTreeModel" "rows" "I") ∈ xWS := List.mem_filter.mpr ⟨List.mem_append_right _ (List.mem_of_getElem? (i := 783) (by decide +kernel)), rfl⟩
set_option maxRecDepth 100000 in
theorem xm_785 : (Jvm.Cond.laysFinal "BrokerTreeModel" "BrokerTreeModel" "kept" "[Z") ∈ xWS := List.mem_filter.mpr ⟨List.mem_append_right _ (List.mem_of_getElem? (i := 785) (by decide +kernel)), rfl⟩
set_option maxRecDepth 100000 in
theorem xm_787 : (Jvm.Cond.lays "BrokerTreeModel" "BrokerTreeModel" "notes" "I") ∈ xWS := List.mem_filter.mpr ⟨List.mem_append_right _ (List.mem_of_getElem? (i := 787) (by decide +kernel)), rfl⟩
set_option maxRecDepth 100000 in
theorem xm_789 : (Jvm.Cond.lays "BrokerTreeModel" "BrokerTreeModel" "noted" "I") ∈ xWS := List.mem_filter.mpr ⟨List.mem_append_right _ (List.mem_of_getElem? (i := 789) (by decide +kernel)), rfl⟩
set_option maxRecDepth 100000 in
theorem xm_791 : (Jvm.Cond.lays "BrokerTreeModel" "BrokerTreeModel" "brought" "I") ∈ xWS := List.mem_filter.mpr ⟨List.mem_append_right _ (List.mem_of_getElem? (i := 791) (by decide +kernel)), rfl⟩
set_option maxRecDepth 100000 in
theorem xm_793 : (Jvm.Cond.lays "BrokerTreeModel" "BrokerTreeModel" "tells" "I") ∈ xWS := List.mem_filter.mpr ⟨List.mem_append_right _ (List.mem_of_getElem? (i := 793) (by decide +kernel)), rfl⟩
set_option maxRecDepth 100000 in
theorem xm_795 : (Jvm.Cond.lays "BrokerTreeModel" "BrokerTreeModel" "drops" "I") ∈ xWS := List.mem_filter.mpr ⟨List.mem_append_right _ (List.mem_of_getElem? (i := 795) (by decide +kernel)), rfl⟩
set_option maxRecDepth 100000 in
theorem xm_797 : (Jvm.Cond.laysFinal "BrokerTreeModel" "BrokerTreeModel" "noteA" "[I") ∈ xWS := List.mem_filter.mpr ⟨List.mem_append_right _ (List.mem_of_getElem? (i := 797) (by decide +kernel)), rfl⟩
set_option maxRecDepth 100000 in
theorem xm_799 : (Jvm.Cond.laysFinal "BrokerTreeModel" "BrokerTreeModel" "noteB" "[I") ∈ xWS := List.mem_filter.mpr ⟨List.mem_append_right _ (List.mem_of_getElem? (i := 799) (by decide +kernel)), rfl⟩
set_option maxRecDepth 100000 in
theorem xm_801 : (Jvm.Cond.laysFinal "BrokerTreeModel" "BrokerTreeModel" "noteC" "[I") ∈ xWS := List.mem_filter.mpr ⟨List.mem_append_right _ (List.mem_of_getElem? (i := 801) (by decide +kernel)), rfl⟩
set_option maxRecDepth 100000 in
theorem xm_803 : (Jvm.Cond.laysFinal "BrokerTreeModel" "BrokerTreeModel" "first" "[I") ∈ xWS := List.mem_filter.mpr ⟨List.mem_append_right _ (List.mem_of_getElem? (i := 803) (by decide +kernel)), rfl⟩
set_option maxRecDepth 100000 in
theorem xm_805 : (Jvm.Cond.laysFinal "BrokerTreeModel" "BrokerTreeModel" "last" "[I") ∈ xWS := List.mem_filter.mpr ⟨List.mem_append_right _ (List.mem_of_getElem? (i := 805) (by decide +kernel)), rfl⟩
set_option maxRecDepth 100000 in
theorem xm_807 : (Jvm.Cond.laysFinal "BrokerTreeModel" "BrokerTreeModel" "inbox" "[I") ∈ xWS := List.mem_filter.mpr ⟨List.mem_append_right _ (List.mem_of_getElem? (i := 807) (by decide +kernel)), rfl⟩
set_option maxRecDepth 100000 in
theorem xm_810 : (Jvm.Cond.methodLink "BrokerTreeLaw" (58 : Nat) ({ cls := "BrokerTreeModel", name := "thrown", desc := "()I" } : Jvm.MethodName)) ∈ xWS := List.mem_filter.mpr ⟨List.mem_append_right _ (List.mem_of_getElem? (i := 810) (by decide +kernel)), rfl⟩
set_option maxRecDepth 100000 in
theorem xm_811 : (Jvm.Cond.instanceMethod ({ cls := "BrokerTreeModel", name := "thrown", desc := "()I" } : Jvm.MethodName)) ∈ xWS := List.mem_filter.mpr ⟨List.mem_append_right _ (List.mem_of_getElem? (i := 811) (by decide +kernel)), rfl⟩
set_option maxRecDepth 100000 in
theorem xm_812 : (Jvm.Cond.selects "BrokerTreeModel" ({ cls := "BrokerTreeModel", name := "thrown", desc := "()I" } : Jvm.MethodName) ({ cls := "BrokerTreeModel", name := "thrown", desc := "()I" } : Jvm.MethodName)) ∈ xWS := List.mem_filter.mpr ⟨List.mem_append_right _ (List.mem_of_getElem? (i := 812) (by decide +kernel)), rfl⟩
set_option maxRecDepth 100000 in
theorem xm_813 : (Jvm.Cond.code ({ cls := "BrokerTreeModel", name := "thrown", desc := "()I" } : Jvm.MethodName) prog_11_method_2_code (1 : Nat) (Option.some Jvm.ClassFile.FieldType.int)) ∈ xWS := List.mem_filter.mpr ⟨List.mem_append_right _ (List.mem_of_getElem? (i := 813) rfl), rfl⟩
set_option maxRecDepth 100000 in
theorem xm_814 : (Jvm.Cond.methodLink "BrokerTreeLaw" (53 : Nat) ({ cls := "BrokerTreeModel", name := "write", desc := "(C)Z" } : Jvm.MethodName)) ∈ xWS := List.mem_filter.mpr ⟨List.mem_append_right _ (List.mem_of_getElem? (i := 814) (by decide +kernel)), rfl⟩
set_option maxRecDepth 100000 in
theorem xm_815 : (Jvm.Cond.instanceMethod ({ cls := "BrokerTreeModel", name := "write", desc := "(C)Z" } : Jvm.MethodName)) ∈ xWS := List.mem_filter.mpr ⟨List.mem_append_right _ (List.mem_of_getElem? (i := 815) (by decide +kernel)), rfl⟩
set_option maxRecDepth 100000 in
theorem xm_816 : (Jvm.Cond.selects "BrokerTreeModel" ({ cls := "BrokerTreeModel", name := "write", desc := "(C)Z" } : Jvm.MethodName) ({ cls := "BrokerTreeModel", name := "write", desc := "(C)Z" } : Jvm.MethodName)) ∈ xWS := List.mem_filter.mpr ⟨List.mem_append_right _ (List.mem_of_getElem? (i := 816) (by decide +kernel)), rfl⟩
set_option maxRecDepth 100000 in
theorem xm_817 : (Jvm.Cond.code ({ cls := "BrokerTreeModel", name := "write", desc := "(C)Z" } : Jvm.MethodName) prog_11_method_4_code (2 : Nat) (Option.some Jvm.ClassFile.FieldType.boolean)) ∈ xWS := List.mem_filter.mpr ⟨List.mem_append_right _ (List.mem_of_getElem? (i := 817) rfl), rfl⟩
set_option maxRecDepth 100000 in
theorem xm_818 : (Jvm.Cond.methodLink "BrokerTreeLaw" (93 : Nat) ({ cls := "BrokerTreeModel", name := "covers", desc := "()Z" } : Jvm.MethodName)) ∈ xWS := List.mem_filter.mpr ⟨List.mem_append_right _ (List.mem_of_getElem? (i := 818) (by decide +kernel)), rfl⟩
set_option maxRecDepth 100000 in
theorem xm_819 : (Jvm.Cond.instanceMethod ({ cls := "BrokerTreeModel", name := "covers", desc := "()Z" } : Jvm.MethodName)) ∈ xWS := List.mem_filter.mpr ⟨List.mem_append_right _ (List.mem_of_getElem? (i := 819) (by decide +kernel)), rfl⟩
set_option maxRecDepth 100000 in
theorem xm_820 : (Jvm.Cond.selects "BrokerTreeModel" ({ cls := "BrokerTreeModel", name := "covers", desc := "()Z" } : Jvm.MethodName) ({ cls := "BrokerTreeModel", name := "covers", desc := "()Z" } : Jvm.MethodName)) ∈ xWS := List.mem_filter.mpr ⟨List.mem_append_right _ (List.mem_of_getElem? (i := 820) (by decide +kernel)), rfl⟩
set_option maxRecDepth 100000 in
theorem xm_821 : (Jvm.Cond.code ({ cls := "BrokerTreeModel", name := "covers", desc := "()Z" } : Jvm.MethodName) prog_11_method_22_code (3 : Nat) (Option.some Jvm.ClassFile.FieldType.boolean)) ∈ xWS := List.mem_filter.mpr ⟨List.mem_append_right _ (List.mem_of_getElem? (i := 821) rfl), rfl⟩
set_option maxRecDepth 100000 in
theorem xm_822 : (Jvm.Cond.methodLink "BrokerTreeModel" (172 : Nat) ({ cls := "BrokerTreeModel", name := "reads", desc := "(III)Z" } : Jvm.MethodName)) ∈ xWS := List.mem_filter.mpr ⟨List.mem_append_right _ (List.mem_of_getElem? (i := 822) (by decide +kernel)), rfl⟩
set_option maxRecDepth 100000 in
theorem xm_824 : (Jvm.Cond.instanceMethod ({ cls := "BrokerTreeModel", name := "reads", desc := "(III)Z" } : Jvm.MethodName)) ∈ xWS := List.mem_filter.mpr ⟨List.mem_append_right _ (List.mem_of_getElem? (i := 824) (by decide +kernel)), rfl⟩
set_option maxRecDepth 100000 in
theorem xm_825 : (Jvm.Cond.code ({ cls := "BrokerTreeModel", name := "reads", desc := "(III)Z" } : Jvm.MethodName) prog_11_method_10_code (8 : Nat) (Option.some Jvm.ClassFile.FieldType.boolean)) ∈ xWS := List.mem_filter.mpr ⟨List.mem_append_right _ (List.mem_of_getElem? (i := 825) rfl), rfl⟩
set_option maxRecDepth 100000 in
theorem xm_826 : (Jvm.Cond.methodLink "BrokerTreeModel" (126 : Nat) ({ cls := "BrokerTreeModel", name := "begin", desc := "(I)V" } : Jvm.MethodName)) ∈ xWS := List.mem_filter.mpr ⟨List.mem_append_right _ (List.mem_of_getElem? (i := 826) (by decide +kernel)), rfl⟩
set_option maxRecDepth 100000 in
theorem xm_828 : (Jvm.Cond.instanceMethod ({ cls := "BrokerTreeModel", name := "begin", desc := "(I)V" } : Jvm.MethodName)) ∈ xWS := List.mem_filter.mpr ⟨List.mem_append_right _ (List.mem_of_getElem? (i := 828) (by decide +kernel)), rfl⟩
set_option maxRecDepth 100000 in
theorem xm_829 : (Jvm.Cond.code ({ cls := "BrokerTreeModel", name := "begin", desc := "(I)V" } : Jvm.MethodName) prog_11_method_11_code (3 : Nat) (Option.none : Option Jvm.ClassFile.FieldType)) ∈ xWS := List.mem_filter.mpr ⟨List.mem_append_right _ (List.mem_of_getElem? (i := 829) rfl), rfl⟩
set_option maxRecDepth 100000 in
theorem xm_830 : (Jvm.Cond.methodLink "BrokerTreeModel" (130 : Nat) ({ cls := "BrokerTreeModel", name := "condition", desc := "(III)I" } : Jvm.MethodName)) ∈ xWS := List.mem_filter.mpr ⟨List.mem_append_right _ (List.mem_of_getElem? (i := 830) (by decide +kernel)), rfl⟩
set_option maxRecDepth 100000 in
theorem xm_832 : (Jvm.Cond.instanceMethod ({ cls := "BrokerTreeModel", name := "condition", desc := "(III)I" } : Jvm.MethodName)) ∈ xWS := List.mem_filter.mpr ⟨List.mem_append_right _ (List.mem_of_getElem? (i := 832) (by decide +kernel)), rfl⟩
set_option maxRecDepth 100000 in
theorem xm_833 : (Jvm.Cond.code ({ cls := "BrokerTreeModel", name := "condition", desc := "(III)I" } : Jvm.MethodName) prog_11_method_12_code (10 : Nat) (Option.some Jvm.ClassFile.FieldType.int)) ∈ xWS := List.mem_filter.mpr ⟨List.mem_append_right _ (List.mem_of_getElem? (i := 833) rfl), rfl⟩
set_option maxRecDepth 100000 in
theorem xm_834 : (Jvm.Cond.methodLink "BrokerTreeModel" (118 : Nat) ({ cls := "BrokerTreeModel", name := "at", desc := "(II)C" } : Jvm.MethodName)) ∈ xWS := List.mem_filter.mpr ⟨List.mem_append_right _ (List.mem_of_getElem? (i := 834) (by decide +kernel)), rfl⟩
set_option maxRecDepth 100000 in
theorem xm_836 : (Jvm.Cond.instanceMethod ({ cls := "BrokerTreeModel", name := "at", desc := "(II)C" } : Jvm.MethodName)) ∈ xWS := List.mem_filter.mpr ⟨List.mem_append_right _ (List.mem_of_getElem? (i := 836) (by decide +kernel)), rfl⟩
set_option maxRecDepth 100000 in
theorem xm_837 : (Jvm.Cond.code ({ cls := "BrokerTreeModel", name := "at", desc := "(II)C" } : Jvm.MethodName) prog_11_method_5_code (3 : Nat) (Option.some Jvm.ClassFile.FieldType.char)) ∈ xWS := List.mem_filter.mpr ⟨List.mem_append_right _ (List.mem_of_getElem? (i := 837) rfl), rfl⟩
set_option maxRecDepth 100000 in
theorem xm_838 : (Jvm.Cond.methodLink "BrokerTreeModel" (137 : Nat) ({ cls := "BrokerTreeModel", name := "lettersAt", desc := "(II)I" } : Jvm.MethodName)) ∈ xWS := List.mem_filter.mpr ⟨List.mem_append_right _ (List.mem_of_getElem? (i := 838) (by decide +kernel)), rfl⟩
set_option maxRecDepth 100000 in
theorem xm_840 : (Jvm.Cond.instanceMethod ({ cls := "BrokerTreeModel", name := "lettersAt", desc := "(II)I" } : Jvm.MethodName)) ∈ xWS := List.mem_filter.mpr ⟨List.mem_append_right _ (List.mem_of_getElem? (i := 840) (by decide +kernel)), rfl⟩
set_option maxRecDepth 100000 in
theorem xm_841 : (Jvm.Cond.code ({ cls := "BrokerTreeModel", name := "lettersAt", desc := "(II)I" } : Jvm.MethodName) prog_11_method_8_code (4 : Nat) (Option.some Jvm.ClassFile.FieldType.int)) ∈ xWS := List.mem_filter.mpr ⟨List.mem_append_right _ (List.mem_of_getElem? (i := 841) rfl), rfl⟩
set_option maxRecDepth 100000 in
theorem xm_842 : (Jvm.Cond.methodLink "BrokerTreeModel" (122 : Nat) ({ cls := "BrokerTreeModel", name := "isLetter", desc := "(C)Z" } : Jvm.MethodName)) ∈ xWS := List.mem_filter.mpr ⟨List.mem_append_right _ (List.mem_of_getElem? (i := 842) (by decide +kernel)), rfl⟩
set_option maxRecDepth 100000 in
theorem xm_843 : (Jvm.Cond.static ({ cls := "BrokerTreeModel", name := "isLetter", desc := "(C)Z" } : Jvm.MethodName)) ∈ xWS := List.mem_filter.mpr ⟨List.mem_append_right _ (List.mem_of_getElem? (i := 843) (by decide +kernel)), rfl⟩
set_option maxRecDepth 100000 in
theorem xm_844 : (Jvm.Cond.code ({ cls := "BrokerTreeModel", name := "isLetter", desc := "(C)Z" } : Jvm.MethodName) prog_11_method_6_code (1 : Nat) (Option.some Jvm.ClassFile.FieldType.boolean)) ∈ xWS := List.mem_filter.mpr ⟨List.mem_append_right _ (List.mem_of_getElem? (i := 844) rfl), rfl⟩
set_option maxRecDepth 100000 in
theorem xm_845 : (Jvm.Cond.methodLink "BrokerTreeModel" (141 : Nat) ({ cls := "BrokerTreeModel", name := "wordAt", desc := "(II)I" } : Jvm.MethodName)) ∈ xWS := List.mem_filter.mpr ⟨List.mem_append_right _ (List.mem_of_getElem? (i := 845) (by decide +kernel)), rfl⟩
set_option maxRecDepth 100000 in
theorem xm_847 : (Jvm.Cond.instanceMethod ({ cls := "BrokerTreeModel", name := "wordAt", desc := "(II)I" } : Jvm.MethodName)) ∈ xWS := List.mem_filter.mpr ⟨List.mem_append_right _ (List.mem_of_getElem? (i := 847) (by decide +kernel)), rfl⟩
set_option maxRecDepth 100000 in
theorem xm_848 : (Jvm.Cond.code ({ cls := "BrokerTreeModel", name := "wordAt", desc := "(II)I" } : Jvm.MethodName) prog_11_method_9_code (5 : Nat) (Option.some Jvm.ClassFile.FieldType.int)) ∈ xWS := List.mem_filter.mpr ⟨List.mem_append_right _ (List.mem_of_getElem? (i := 848) rfl), rfl⟩
set_option maxRecDepth 100000 in
theorem xm_849 : (Jvm.Cond.methodLink "BrokerTreeModel" (144 : Nat) ({ cls := "BrokerTreeModel", name := "wordly", desc := "(ICII)V" } : Jvm.MethodName)) ∈ xWS := List.mem_filter.mpr ⟨List.mem_append_right _ (List.mem_of_getElem? (i := 849) (by decide +kernel)), rfl⟩
set_option maxRecDepth 100000 in
theorem xm_851 : (Jvm.Cond.instanceMethod ({ cls := "BrokerTreeModel", name := "wordly", desc := "(ICII)V" } : Jvm.MethodName)) ∈ xWS := List.mem_filter.mpr ⟨List.mem_append_right _ (List.mem_of_getElem? (i := 851) (by decide +kernel)), rfl⟩
set_option maxRecDepth 100000 in
theorem xm_852 : (Jvm.Cond.code ({ cls := "BrokerTreeModel", name := "wordly", desc := "(ICII)V" } : Jvm.MethodName) prog_11_method_15_code (7 : Nat) (Option.none : Option Jvm.ClassFile.FieldType)) ∈ xWS := List.mem_filter.mpr ⟨List.mem_append_right _ (List.mem_of_getElem? (i := 852) rfl), rfl⟩
set_option maxRecDepth 100000 in
theorem xm_853 : (Jvm.Cond.methodLink "BrokerTreeModel" (155 : Nat) ({ cls := "BrokerTreeModel", name := "begins", desc := "(III)Z" } : Jvm.MethodName)) ∈ xWS := List.mem_filter.mpr ⟨List.mem_append_right _ (List.mem_of_getElem? (i := 853) (by decide +kernel)), rfl⟩
set_option maxRecDepth 100000 in
theorem xm_854 : (Jvm.Cond.static ({ cls := "BrokerTreeModel", name := "begins", desc := "(III)Z" } : Jvm.MethodName)) ∈ xWS := List.mem_filter.mpr ⟨List.mem_append_right _ (List.mem_of_getElem? (i := 854) (by decide +kernel)), rfl⟩
set_option maxRecDepth 100000 in
theorem xm_855 : (Jvm.Cond.code ({ cls := "BrokerTreeModel", name := "begins", desc := "(III)Z" } : Jvm.MethodName) prog_11_method_14_code (3 : Nat) (Option.some Jvm.ClassFile.FieldType.boolean)) ∈ xWS := List.mem_filter.mpr ⟨List.mem_append_right _ (List.mem_of_getElem? (i := 855) rfl), rfl⟩
set_option maxRecDepth 100000 in
theorem xm_856 : (Jvm.Cond.methodLink "BrokerTreeModel" (148 : Nat) ({ cls := "BrokerTreeModel", name := "isDigit", desc := "(C)Z" } : Jvm.MethodName)) ∈ xWS := List.mem_filter.mpr ⟨List.mem_append_right _ (List.mem_of_getElem? (i := 856) (by decide +kernel)), rfl⟩
set_option maxRecDepth 100000 in
theorem xm_857 : (Jvm.Cond.static ({ cls := "BrokerTreeModel", name := "isDigit", desc := "(C)Z" } : Jvm.MethodName)) ∈ xWS := List.mem_filter.mpr ⟨List.mem_append_right _ (List.mem_of_getElem? (i := 857) (by decide +kernel)), rfl⟩
set_option maxRecDepth 100000 in
theorem xm_858 : (Jvm.Cond.code ({ cls := "BrokerTreeModel", name := "isDigit", desc := "(C)Z" } : Jvm.MethodName) prog_11_method_7_code (1 : Nat) (Option.some Jvm.ClassFile.FieldType.boolean)) ∈ xWS := List.mem_filter.mpr ⟨List.mem_append_right _ (List.mem_of_getElem? (i := 858) rfl), rfl⟩
set_option maxRecDepth 100000 in
theorem xm_859 : (Jvm.Cond.methodLink "BrokerTreeModel" (151 : Nat) ({ cls := "BrokerTreeModel", name := "bound", desc := "(ICI)V" } : Jvm.MethodName)) ∈ xWS := List.mem_filter.mpr ⟨List.mem_append_right _ (List.mem_of_getElem? (i := 859) (by decide +kernel)), rfl⟩
set_option maxRecDepth 100000 in
theorem xm_861 : (Jvm.Cond.instanceMethod ({ cls := "BrokerTreeModel", name := "bound", desc := "(ICI)V" } : Jvm.MethodName)) ∈ xWS := List.mem_filter.mpr ⟨List.mem_append_right _ (List.mem_of_getElem? (i := 861) (by decide +kernel)), rfl⟩
set_option maxRecDepth 100000 in
theorem xm_862 : (Jvm.Cond.code ({ cls := "BrokerTreeModel", name := "bound", desc := "(ICI)V" } : Jvm.MethodName) prog_11_method_13_code (6 : Nat) (Option.none : Option Jvm.ClassFile.FieldType)) ∈ xWS := List.mem_filter.mpr ⟨List.mem_append_right _ (List.mem_of_getElem? (i := 862) rfl), rfl⟩
set_option maxRecDepth 100000 in
theorem xm_863 : (Jvm.Cond.methodLink "BrokerTreeModel" (134 : Nat) ({ cls := "BrokerTreeModel", name := "settleBounds", desc := "(I)V" } : Jvm.MethodName)) ∈ xWS := List.mem_filter.mpr ⟨List.mem_append_right _ (List.mem_of_getElem? (i := 863) (by decide +kernel)), rfl⟩
set_option maxRecDepth 100000 in
theorem xm_865 : (Jvm.Cond.instanceMethod ({ cls := "BrokerTreeModel", name := "settleBounds", desc := "(I)V" } : Jvm.MethodName)) ∈ xWS := List.mem_filter.mpr ⟨List.mem_append_right _ (List.mem_of_getElem? (i := 865) (by decide +kernel)), rfl⟩
set_option maxRecDepth 100000 in
theorem xm_866 : (Jvm.Cond.code ({ cls := "BrokerTreeModel", name := "settleBounds", desc := "(I)V" } : Jvm.MethodName) prog_11_method_18_code (3 : Nat) (Option.none : Option Jvm.ClassFile.FieldType)) ∈ xWS := List.mem_filter.mpr ⟨List.mem_append_right _ (List.mem_of_getElem? (i := 866) rfl), rfl⟩
set_option maxRecDepth 100000 in
theorem xm_867 : (Jvm.Cond.methodLink "BrokerTreeModel" (159 : Nat) ({ cls := "BrokerTreeModel", name := "isOut", desc := "(II)Z" } : Jvm.MethodName)) ∈ xWS := List.mem_filter.mpr ⟨List.mem_append_right _ (List.mem_of_getElem? (i := 867) (by decide +kernel)), rfl⟩
set_option maxRecDepth 100000 in
theorem xm_869 : (Jvm.Cond.instanceMethod ({ cls := "BrokerTreeModel", name := "isOut", desc := "(II)Z" } : Jvm.MethodName)) ∈ xWS := List.mem_filter.mpr ⟨List.mem_append_right _ (List.mem_of_getElem? (i := 869) (by decide +kernel)), rfl⟩
set_option maxRecDepth 100000 in
theorem xm_870 : (Jvm.Cond.code ({ cls := "BrokerTreeModel", name := "isOut", desc := "(II)Z" } : Jvm.MethodName) prog_11_method_16_code (5 : Nat) (Option.some Jvm.ClassFile.FieldType.boolean)) ∈ xWS := List.mem_filter.mpr ⟨List.mem_append_right _ (List.mem_of_getElem? (i := 870) rfl), rfl⟩
set_option maxRecDepth 100000 in
theorem xm_871 : (Jvm.Cond.methodLink "BrokerTreeModel" (163 : Nat) ({ cls := "BrokerTreeModel", name := "isWordOut", desc := "(II)Z" } : Jvm.MethodName)) ∈ xWS := List.mem_filter.mpr ⟨List.mem_append_right _ (List.mem_of_getElem? (i := 871) (by decide +kernel)), rfl⟩
set_option maxRecDepth 100000 in
theorem xm_873 : (Jvm.Cond.instanceMethod ({ cls := "BrokerTreeModel", name := "isWordOut", desc := "(II)Z" } : Jvm.MethodName)) ∈ xWS := List.mem_filter.mpr ⟨List.mem_append_right _ (List.mem_of_getElem? (i := 873) (by decide +kernel)), rfl⟩
set_option maxRecDepth 100000 in
theorem xm_874 : (Jvm.Cond.code ({ cls := "BrokerTreeModel", name := "isWordOut", desc := "(II)Z" } : Jvm.MethodName) prog_11_method_17_code (5 : Nat) (Option.some Jvm.ClassFile.FieldType.boolean)) ∈ xWS := List.mem_filter.mpr ⟨List.mem_append_right _ (List.mem_of_getElem? (i := 874) rfl), rfl⟩
set_option maxRecDepth 100000 in
theorem xm_875 : (Jvm.Cond.methodLink "BrokerTreeModel" (175 : Nat) ({ cls := "BrokerTreeModel", name := "coversAll", desc := "(II)Z" } : Jvm.MethodName)) ∈ xWS := List.mem_filter.mpr ⟨List.mem_append_right _ (List.mem_of_getElem? (i := 875) (by decide +kernel)), rfl⟩
set_option maxRecDepth 100000 in
theorem xm_877 : (Jvm.Cond.instanceMethod ({ cls := "BrokerTreeModel", name := "coversAll", desc := "(II)Z" } : Jvm.MethodName)) ∈ xWS := List.mem_filter.mpr ⟨List.mem_append_right _ (List.mem_of_getElem? (i := 877) (by decide +kernel)), rfl⟩
set_option maxRecDepth 100000 in
theorem xm_878 : (Jvm.Cond.code ({ cls := "BrokerTreeModel", name := "coversAll", desc := "(II)Z" } : Jvm.MethodName) prog_11_method_21_code (3 : Nat) (Option.some Jvm.ClassFile.FieldType.boolean)) ∈ xWS := List.mem_filter.mpr ⟨List.mem_append_right _ (List.mem_of_getElem? (i := 878) rfl), rfl⟩
set_option maxRecDepth 100000 in
theorem xm_879 : (Jvm.Cond.methodLink "BrokerTreeModel" (166 : Nat) ({ cls := "BrokerTreeModel", name := "coversNumber", desc := "(II)Z" } : Jvm.MethodName)) ∈ xWS := List.mem_filter.mpr ⟨List.mem_append_right _ (List.mem_of_getElem? (i := 879) (by decide +kernel)), rfl⟩
set_option maxRecDepth 100000 in
theorem xm_881 : (Jvm.Cond.instanceMethod ({ cls := "BrokerTreeModel", name := "coversNumber", desc := "(II)Z" } : Jvm.MethodName)) ∈ xWS := List.mem_filter.mpr ⟨List.mem_append_right _ (List.mem_of_getElem? (i := 881) (by decide +kernel)), rfl⟩
set_option maxRecDepth 100000 in
theorem xm_882 : (Jvm.Cond.code ({ cls := "BrokerTreeModel", name := "coversNumber", desc := "(II)Z" } : Jvm.MethodName) prog_11_method_19_code (5 : Nat) (Option.some Jvm.ClassFile.FieldType.boolean)) ∈ xWS := List.mem_filter.mpr ⟨List.mem_append_right _ (List.mem_of_getElem? (i := 882) rfl), rfl⟩
set_option maxRecDepth 100000 in
theorem xm_883 : (Jvm.Cond.methodLink "BrokerTreeModel" (169 : Nat) ({ cls := "BrokerTreeModel", name := "coversWord", desc := "(II)Z" } : Jvm.MethodName)) ∈ xWS := List.mem_filter.mpr ⟨List.mem_append_right _ (List.mem_of_getElem? (i := 883) (by decide +kernel)), rfl⟩
set_option maxRecDepth 100000 in
theorem xm_885 : (Jvm.Cond.instanceMethod ({ cls := "BrokerTreeModel", name := "coversWord", desc := "(II)Z" } : Jvm.MethodName)) ∈ xWS := List.mem_filter.mpr ⟨List.mem_append_right _ (List.mem_of_getElem? (i := 885) (by decide +kernel)), rfl⟩
set_option maxRecDepth 100000 in
theorem xm_886 : (Jvm.Cond.code ({ cls := "BrokerTreeModel", name := "coversWord", desc := "(II)Z" } : Jvm.MethodName) prog_11_method_20_code (5 : Nat) (Option.some Jvm.ClassFile.FieldType.boolean)) ∈ xWS := List.mem_filter.mpr ⟨List.mem_append_right _ (List.mem_of_getElem? (i := 886) rfl), rfl⟩
set_option maxRecDepth 100000 in
theorem xm_887 : (Jvm.Cond.methodLink "BrokerTreeLaw" (57 : Nat) ({ cls := "BrokerTreeModel", name := "subscribe", desc := "(I)I" } : Jvm.MethodName)) ∈ xWS := List.mem_filter.mpr ⟨List.mem_append_right _ (List.mem_of_getElem? (i := 887) (by decide +kernel)), rfl⟩
set_option maxRecDepth 100000 in
theorem xm_888 : (Jvm.Cond.instanceMethod ({ cls := "BrokerTreeModel", name := "subscribe", desc := "(I)I" } : Jvm.MethodName)) ∈ xWS := List.mem_filter.mpr ⟨List.mem_append_right _ (List.mem_of_getElem? (i := 888) (by decide +kernel)), rfl⟩
set_option maxRecDepth 100000 in
theorem xm_889 : (Jvm.Cond.selects "BrokerTreeModel" ({ cls := "BrokerTreeModel", name := "subscribe", desc := "(I)I" } : Jvm.MethodName) ({ cls := "BrokerTreeModel", name := "subscribe", desc := "(I)I" } : Jvm.MethodName)) ∈ xWS := List.mem_filter.mpr ⟨List.mem_append_right _ (List.mem_of_getElem? (i := 889) (by decide +kernel)), rfl⟩
set_option maxRecDepth 100000 in
theorem xm_890 : (Jvm.Cond.code ({ cls := "BrokerTreeModel", name := "subscribe", desc := "(I)I" } : Jvm.MethodName) prog_11_method_35_code (5 : Nat) (Option.some Jvm.ClassFile.FieldType.int)) ∈ xWS := List.mem_filter.mpr ⟨List.mem_append_right _ (List.mem_of_getElem? (i := 890) rfl), rfl⟩
set_option maxRecDepth 100000 in
theorem xm_891 : (Jvm.Cond.methodLink "BrokerTreeModel" (223 : Nat) ({ cls := "BrokerTreeModel", name := "isClient", desc := "(I)Z" } : Jvm.MethodName)) ∈ xWS := List.mem_filter.mpr ⟨List.mem_append_right _ (List.mem_of_getElem? (i := 891) (by decide +kernel)), rfl⟩
set_option maxRecDepth 100000 in
theorem xm_892 : (Jvm.Cond.static ({ cls := "BrokerTreeModel", name := "isClient", desc := "(I)Z" } : Jvm.MethodName)) ∈ xWS := List.mem_filter.mpr ⟨List.mem_append_right _ (List.mem_of_getElem? (i := 892) (by decide +kernel)), rfl⟩
set_option maxRecDepth 100000 in
theorem xm_893 : (Jvm.Cond.code ({ cls := "BrokerTreeModel", name := "isClient", desc := "(I)Z" } : Jvm.MethodName) prog_11_method_34_code (1 : Nat) (Option.some Jvm.ClassFile.FieldType.boolean)) ∈ xWS := List.mem_filter.mpr ⟨List.mem_append_right _ (List.mem_of_getElem? (i := 893) rfl), rfl⟩
set_option maxRecDepth 100000 in
theorem xm_894 : (Jvm.Cond.methodLink "BrokerTreeModel" (226 : Nat) ({ cls := "BrokerTreeModel", name := "fails", desc := "(I)I" } : Jvm.MethodName)) ∈ xWS := List.mem_filter.mpr ⟨List.mem_append_right _ (List.mem_of_getElem? (i := 894) (by decide +kernel)), rfl⟩
set_option maxRecDepth 100000 in
theorem xm_896 : (Jvm.Cond.instanceMethod ({ cls := "BrokerTreeModel", name := "fails", desc := "(I)I" } : Jvm.MethodName)) ∈ xWS := List.mem_filter.mpr ⟨List.mem_append_right _ (List.mem_of_getElem? (i := 896) (by decide +kernel)), rfl⟩
set_option maxRecDepth 100000 in
theorem xm_897 : (Jvm.Cond.code ({ cls := "BrokerTreeModel", name := "fails", desc := "(I)I" } : Jvm.MethodName) prog_11_method_3_code (2 : Nat) (Option.some Jvm.ClassFile.FieldType.int)) ∈ xWS := List.mem_filter.mpr ⟨List.mem_append_right _ (List.mem_of_getElem? (i := 897) rfl), rfl⟩
set_option maxRecDepth 100000 in
theorem xm_898 : (Jvm.Cond.methodLink "BrokerTreeModel" (230 : Nat) ({ cls := "BrokerTreeModel", name := "settle", desc := "(I)V" } : Jvm.MethodName)) ∈ xWS := List.mem_filter.mpr ⟨List.mem_append_right _ (List.mem_of_getElem? (i := 898) (by decide +kernel)), rfl⟩
set_option maxRecDepth 100000 in
theorem xm_900 : (Jvm.Cond.instanceMethod ({ cls := "BrokerTreeModel", name := "settle", desc := "(I)V" } : Jvm.MethodName)) ∈ xWS := List.mem_filter.mpr ⟨List.mem_append_right _ (List.mem_of_getElem? (i := 900) (by decide +kernel)), rfl⟩
set_option maxRecDepth 100000 in
theorem xm_901 : (Jvm.Cond.code ({ cls := "BrokerTreeModel", name := "settle", desc := "(I)V" } : Jvm.MethodName) prog_11_method_32_code (4 : Nat) (Option.none : Option Jvm.ClassFile.FieldType)) ∈ xWS := List.mem_filter.mpr ⟨List.mem_append_right _ (List.mem_of_getElem? (i := 901) rfl), rfl⟩
set_option maxRecDepth 100000 in
theorem xm_902 : (Jvm.Cond.methodLink "BrokerTreeModel" (205 : Nat) ({ cls := "BrokerTreeModel", name := "need", desc := "(II)V" } : Jvm.MethodName)) ∈ xWS := List.mem_filter.mpr ⟨List.mem_append_right _ (List.mem_of_getElem? (i := 902) (by decide +kernel)), rfl⟩
set_option maxRecDepth 100000 in
theorem xm_904 : (Jvm.Cond.instanceMethod ({ cls := "BrokerTreeModel", name := "need", desc := "(II)V" } : Jvm.MethodName)) ∈ xWS := List.mem_filter.mpr ⟨List.mem_append_right _ (List.mem_of_getElem? (i := 904) (by decide +kernel)), rfl⟩
set_option maxRecDepth 100000 in
theorem xm_905 : (Jvm.Cond.code ({ cls := "BrokerTreeModel", name := "need", desc := "(II)V" } : Jvm.MethodName) prog_11_method_27_code (6 : Nat) (Option.none : Option Jvm.ClassFile.FieldType)) ∈ xWS := List.mem_filter.mpr ⟨List.mem_append_right _ (List.mem_of_getElem? (i := 905) rfl), rfl⟩
set_option maxRecDepth 100000 in
theorem xm_906 : (Jvm.Cond.methodLink "BrokerTreeModel" (187 : Nat) ({ cls := "BrokerTreeModel", name := "isHere", desc := "(II)Z" } : Jvm.MethodName)) ∈ xWS := List.mem_filter.mpr ⟨List.mem_append_right _ (List.mem_of_getElem? (i := 906) (by decide +kernel)), rfl⟩
set_option maxRecDepth 100000 in
theorem xm_908 : (Jvm.Cond.instanceMethod ({ cls := "BrokerTreeModel", name := "isHere", desc := "(II)Z" } : Jvm.MethodName)) ∈ xWS := List.mem_filter.mpr ⟨List.mem_append_right _ (List.mem_of_getElem? (i := 908) (by decide +kernel)), rfl⟩
set_option maxRecDepth 100000 in
theorem xm_909 : (Jvm.Cond.code ({ cls := "BrokerTreeModel", name := "isHere", desc := "(II)Z" } : Jvm.MethodName) prog_11_method_26_code (3 : Nat) (Option.some Jvm.ClassFile.FieldType.boolean)) ∈ xWS := List.mem_filter.mpr ⟨List.mem_append_right _ (List.mem_of_getElem? (i := 909) rfl), rfl⟩
set_option maxRecDepth 100000 in
theorem xm_910 : (Jvm.Cond.methodLink "BrokerTreeModel" (190 : Nat) ({ cls := "BrokerTreeModel", name := "add", desc := "(I)V" } : Jvm.MethodName)) ∈ xWS := List.mem_filter.mpr ⟨List.mem_append_right _ (List.mem_of_getElem? (i := 910) (by decide +kernel)), rfl⟩
set_option maxRecDepth 100000 in
theorem xm_912 : (Jvm.Cond.instanceMethod ({ cls := "BrokerTreeModel", name := "add", desc := "(I)V" } : Jvm.MethodName)) ∈ xWS := List.mem_filter.mpr ⟨List.mem_append_right _ (List.mem_of_getElem? (i := 912) (by decide +kernel)), rfl⟩
set_option maxRecDepth 100000 in
theorem xm_913 : (Jvm.Cond.code ({ cls := "BrokerTreeModel", name := "add", desc := "(I)V" } : Jvm.MethodName) prog_11_method_28_code (2 : Nat) (Option.none : Option Jvm.ClassFile.FieldType)) ∈ xWS := List.mem_filter.mpr ⟨List.mem_append_right _ (List.mem_of_getElem? (i := 913) rfl), rfl⟩
set_option maxRecDepth 100000 in
theorem xm_914 : (Jvm.Cond.methodLink "BrokerTreeModel" (178 : Nat) ({ cls := "BrokerTreeModel", name := "isOver", desc := "(II)Z" } : Jvm.MethodName)) ∈ xWS := List.mem_filter.mpr ⟨List.mem_append_right _ (List.mem_of_getElem? (i := 914) (by decide +kernel)), rfl⟩
set_option maxRecDepth 100000 in
theorem xm_916 : (Jvm.Cond.instanceMethod ({ cls := "BrokerTreeModel", name := "isOver", desc := "(II)Z" } : Jvm.MethodName)) ∈ xWS := List.mem_filter.mpr ⟨List.mem_append_right _ (List.mem_of_getElem? (i := 916) (by decide +kernel)), rfl⟩
set_option maxRecDepth 100000 in
theorem xm_917 : (Jvm.Cond.code ({ cls := "BrokerTreeModel", name := "isOver", desc := "(II)Z" } : Jvm.MethodName) prog_11_method_24_code (3 : Nat) (Option.some Jvm.ClassFile.FieldType.boolean)) ∈ xWS := List.mem_filter.mpr ⟨List.mem_append_right _ (List.mem_of_getElem? (i := 917) rfl), rfl⟩
set_option maxRecDepth 100000 in
theorem xm_918 : (Jvm.Cond.methodLink "BrokerTreeModel" (209 : Nat) ({ cls := "BrokerTreeModel", name := "tellAll", desc := "(I)V" } : Jvm.MethodName)) ∈ xWS := List.mem_filter.mpr ⟨List.mem_append_right _ (List.mem_of_getElem? (i := 918) (by decide +kernel)), rfl⟩
set_option maxRecDepth 100000 in
theorem xm_920 : (Jvm.Cond.instanceMethod ({ cls := "BrokerTreeModel", name := "tellAll", desc := "(I)V" } : Jvm.MethodName)) ∈ xWS := List.mem_filter.mpr ⟨List.mem_append_right _ (List.mem_of_getElem? (i := 920) (by decide +kernel)), rfl⟩
set_option maxRecDepth 100000 in
theorem xm_921 : (Jvm.Cond.code ({ cls := "BrokerTreeModel", name := "tellAll", desc := "(I)V" } : Jvm.MethodName) prog_11_method_33_code (5 : Nat) (Option.none : Option Jvm.ClassFile.FieldType)) ∈ xWS := List.mem_filter.mpr ⟨List.mem_append_right _ (List.mem_of_getElem? (i := 921) rfl), rfl⟩
set_option maxRecDepth 100000 in
theorem xm_922 : (Jvm.Cond.methodLink "BrokerTreeModel" (212 : Nat) ({ cls := "BrokerTreeModel", name := "isTold", desc := "(II)Z" } : Jvm.MethodName)) ∈ xWS := List.mem_filter.mpr ⟨List.mem_append_right _ (List.mem_of_getElem? (i := 922) (by decide +kernel)), rfl⟩
set_option maxRecDepth 100000 in
theorem xm_924 : (Jvm.Cond.instanceMethod ({ cls := "BrokerTreeModel", name := "isTold", desc := "(II)Z" } : Jvm.MethodName)) ∈ xWS := List.mem_filter.mpr ⟨List.mem_append_right _ (List.mem_of_getElem? (i := 924) (by decide +kernel)), rfl⟩
set_option maxRecDepth 100000 in
theorem xm_925 : (Jvm.Cond.code ({ cls := "BrokerTreeModel", name := "isTold", desc := "(II)Z" } : Jvm.MethodName) prog_11_method_30_code (5 : Nat) (Option.some Jvm.ClassFile.FieldType.boolean)) ∈ xWS := List.mem_filter.mpr ⟨List.mem_append_right _ (List.mem_of_getElem? (i := 925) rfl), rfl⟩
set_option maxRecDepth 100000 in
theorem xm_926 : (Jvm.Cond.methodLink "BrokerTreeModel" (202 : Nat) ({ cls := "BrokerTreeModel", name := "alike", desc := "(II)Z" } : Jvm.MethodName)) ∈ xWS := List.mem_filter.mpr ⟨List.mem_append_right _ (List.mem_of_getElem? (i := 926) (by decide +kernel)), rfl⟩
set_option maxRecDepth 100000 in
theorem xm_928 : (Jvm.Cond.instanceMethod ({ cls := "BrokerTreeModel", name := "alike", desc := "(II)Z" } : Jvm.MethodName)) ∈ xWS := List.mem_filter.mpr ⟨List.mem_append_right _ (List.mem_of_getElem? (i := 928) (by decide +kernel)), rfl⟩
set_option maxRecDepth 100000 in
theorem xm_929 : (Jvm.Cond.code ({ cls := "BrokerTreeModel", name := "alike", desc := "(II)Z" } : Jvm.MethodName) prog_11_method_25_code (3 : Nat) (Option.some Jvm.ClassFile.FieldType.boolean)) ∈ xWS := List.mem_filter.mpr ⟨List.mem_append_right _ (List.mem_of_getElem? (i := 929) rfl), rfl⟩
set_option maxRecDepth 100000 in
theorem xm_930 : (Jvm.Cond.methodLink "BrokerTreeModel" (215 : Nat) ({ cls := "BrokerTreeModel", name := "send", desc := "(III)V" } : Jvm.MethodName)) ∈ xWS := List.mem_filter.mpr ⟨List.mem_append_right _ (List.mem_of_getElem? (i := 930) (by decide +kernel)), rfl⟩
set_option maxRecDepth 100000 in
theorem xm_932 : (Jvm.Cond.instanceMethod ({ cls := "BrokerTreeModel", name := "send", desc := "(III)V" } : Jvm.MethodName)) ∈ xWS := List.mem_filter.mpr ⟨List.mem_append_right _ (List.mem_of_getElem? (i := 932) (by decide +kernel)), rfl⟩
set_option maxRecDepth 100000 in
theorem xm_933 : (Jvm.Cond.code ({ cls := "BrokerTreeModel", name := "send", desc := "(III)V" } : Jvm.MethodName) prog_11_method_29_code (4 : Nat) (Option.none : Option Jvm.ClassFile.FieldType)) ∈ xWS := List.mem_filter.mpr ⟨List.mem_append_right _ (List.mem_of_getElem? (i := 933) rfl), rfl⟩
set_option maxRecDepth 100000 in
theorem xm_934 : (Jvm.Cond.methodLink "BrokerTreeModel" (219 : Nat) ({ cls := "BrokerTreeModel", name := "isNeeded", desc := "(I)Z" } : Jvm.MethodName)) ∈ xWS := List.mem_filter.mpr ⟨List.mem_append_right _ (List.mem_of_getElem? (i := 934) (by decide +kernel)), rfl⟩
set_option maxRecDepth 100000 in
theorem xm_936 : (Jvm.Cond.instanceMethod ({ cls := "BrokerTreeModel", name := "isNeeded", desc := "(I)Z" } : Jvm.MethodName)) ∈ xWS := List.mem_filter.mpr ⟨List.mem_append_right _ (List.mem_of_getElem? (i := 936) (by decide +kernel)), rfl⟩
set_option maxRecDepth 100000 in
theorem xm_937 : (Jvm.Cond.code ({ cls := "BrokerTreeModel", name := "isNeeded", desc := "(I)Z" } : Jvm.MethodName) prog_11_method_31_code (4 : Nat) (Option.some Jvm.ClassFile.FieldType.boolean)) ∈ xWS := List.mem_filter.mpr ⟨List.mem_append_right _ (List.mem_of_getElem? (i := 937) rfl), rfl⟩
set_option maxRecDepth 100000 in
theorem xm_938 : (Jvm.Cond.methodLink "BrokerTreeLaw" (65 : Nat) ({ cls := "BrokerTreeModel", name := "unsubscribe", desc := "(I)V" } : Jvm.MethodName)) ∈ xWS := List.mem_filter.mpr ⟨List.mem_append_right _ (List.mem_of_getElem? (i := 938) (by decide +kernel)), rfl⟩
set_option maxRecDepth 100000 in
theorem xm_939 : (Jvm.Cond.instanceMethod ({ cls := "BrokerTreeModel", name := "unsubscribe", desc := "(I)V" } : Jvm.MethodName)) ∈ xWS := List.mem_filter.mpr ⟨List.mem_append_right _ (List.mem_of_getElem? (i := 939) (by decide +kernel)), rfl⟩
set_option maxRecDepth 100000 in
theorem xm_940 : (Jvm.Cond.selects "BrokerTreeModel" ({ cls := "BrokerTreeModel", name := "unsubscribe", desc := "(I)V" } : Jvm.MethodName) ({ cls := "BrokerTreeModel", name := "unsubscribe", desc := "(I)V" } : Jvm.MethodName)) ∈ xWS := List.mem_filter.mpr ⟨List.mem_append_right _ (List.mem_of_getElem? (i := 940) (by decide +kernel)), rfl⟩
set_option maxRecDepth 100000 in
theorem xm_941 : (Jvm.Cond.code ({ cls := "BrokerTreeModel", name := "unsubscribe", desc := "(I)V" } : Jvm.MethodName) prog_11_method_36_code (2 : Nat) (Option.none : Option Jvm.ClassFile.FieldType)) ∈ xWS := List.mem_filter.mpr ⟨List.mem_append_right _ (List.mem_of_getElem? (i := 941) rfl), rfl⟩
set_option maxRecDepth 100000 in
theorem xm_942 : (Jvm.Cond.methodLink "BrokerTreeLaw" (69 : Nat) ({ cls := "BrokerTreeModel", name := "publish", desc := "(III)I" } : Jvm.MethodName)) ∈ xWS := List.mem_filter.mpr ⟨List.mem_append_right _ (List.mem_of_getElem? (i := 942) (by decide +kernel)), rfl⟩
set_option maxRecDepth 100000 in
theorem xm_943 : (Jvm.Cond.instanceMethod ({ cls := "BrokerTreeModel", name := "publish", desc := "(III)I" } : Jvm.MethodName)) ∈ xWS := List.mem_filter.mpr ⟨List.mem_append_right _ (List.mem_of_getElem? (i := 943) (by decide +kernel)), rfl⟩
set_option maxRecDepth 100000 in
theorem xm_944 : (Jvm.Cond.selects "BrokerTreeModel" ({ cls := "BrokerTreeModel", name := "publish", desc := "(III)I" } : Jvm.MethodName) ({ cls := "BrokerTreeModel", name := "publish", desc := "(III)I" } : Jvm.MethodName)) ∈ xWS := List.mem_filter.mpr ⟨List.mem_append_right _ (List.mem_of_getElem? (i := 944) (by decide +kernel)), rfl⟩
set_option maxRecDepth 100000 in
theorem xm_945 : (Jvm.Cond.code ({ cls := "BrokerTreeModel", name := "publish", desc := "(III)I" } : Jvm.MethodName) prog_11_method_37_code (7 : Nat) (Option.some Jvm.ClassFile.FieldType.int)) ∈ xWS := List.mem_filter.mpr ⟨List.mem_append_right _ (List.mem_of_getElem? (i := 945) rfl), rfl⟩
set_option maxRecDepth 100000 in
theorem xm_946 : (Jvm.Cond.methodLink "BrokerTreeModel" (236 : Nat) ({ cls := "BrokerTreeModel", name := "handle", desc := "(III)V" } : Jvm.MethodName)) ∈ xWS := List.mem_filter.mpr ⟨List.mem_append_right _ (List.mem_of_getElem? (i := 946) (by decide +kernel)), rfl⟩
set_option maxRecDepth 100000 in
theorem xm_948 : (Jvm.Cond.instanceMethod ({ cls := "BrokerTreeModel", name := "handle", desc := "(III)V" } : Jvm.MethodName)) ∈ xWS := List.mem_filter.mpr ⟨List.mem_append_right _ (List.mem_of_getElem? (i := 948) (by decide +kernel)), rfl⟩
set_option maxRecDepth 100000 in
theorem xm_949 : (Jvm.Cond.code ({ cls := "BrokerTreeModel", name := "handle", desc := "(III)V" } : Jvm.MethodName) prog_11_method_38_code (8 : Nat) (Option.none : Option Jvm.ClassFile.FieldType)) ∈ xWS := List.mem_filter.mpr ⟨List.mem_append_right _ (List.mem_of_getElem? (i := 949) rfl), rfl⟩
set_option maxRecDepth 100000 in
theorem xm_950 : (Jvm.Cond.methodLink "BrokerTreeModel" (239 : Nat) ({ cls := "BrokerTreeModel", name := "matches", desc := "(II)Z" } : Jvm.MethodName)) ∈ xWS := List.mem_filter.mpr ⟨List.mem_append_right _ (List.mem_of_getElem? (i := 950) (by decide +kernel)), rfl⟩
set_option maxRecDepth 100000 in
theorem xm_952 : (Jvm.Cond.instanceMethod ({ cls := "BrokerTreeModel", name := "matches", desc := "(II)Z" } : Jvm.MethodName)) ∈ xWS := List.mem_filter.mpr ⟨List.mem_append_right _ (List.mem_of_getElem? (i := 952) (by decide +kernel)), rfl⟩
set_option maxRecDepth 100000 in
theorem xm_953 : (Jvm.Cond.code ({ cls := "BrokerTreeModel", name := "matches", desc := "(II)Z" } : Jvm.MethodName) prog_11_method_23_code (6 : Nat) (Option.some Jvm.ClassFile.FieldType.boolean)) ∈ xWS := List.mem_filter.mpr ⟨List.mem_append_right _ (List.mem_of_getElem? (i := 953) rfl), rfl⟩
set_option maxRecDepth 100000 in
theorem xm_954 : (Jvm.Cond.methodLink "BrokerTreeLaw" (73 : Nat) ({ cls := "BrokerTreeModel", name := "take", desc := "(II)I" } : Jvm.MethodName)) ∈ xWS := List.mem_filter.mpr ⟨List.mem_append_right _ (List.mem_of_getElem? (i := 954) (by decide +kernel)), rfl⟩
set_option maxRecDepth 100000 in
theorem xm_955 : (Jvm.Cond.instanceMethod ({ cls := "BrokerTreeModel", name := "take", desc := "(II)I" } : Jvm.MethodName)) ∈ xWS := List.mem_filter.mpr ⟨List.mem_append_right _ (List.mem_of_getElem? (i := 955) (by decide +kernel)), rfl⟩
set_option maxRecDepth 100000 in
theorem xm_956 : (Jvm.Cond.selects "BrokerTreeModel" ({ cls := "BrokerTreeModel", name := "take", desc := "(II)I" } : Jvm.MethodName) ({ cls := "BrokerTreeModel", name := "take", desc := "(II)I" } : Jvm.MethodName)) ∈ xWS := List.mem_filter.mpr ⟨List.mem_append_right _ (List.mem_of_getElem? (i := 956) (by decide +kernel)), rfl⟩
set_option maxRecDepth 100000 in
theorem xm_957 : (Jvm.Cond.code ({ cls := "BrokerTreeModel", name := "take", desc := "(II)I" } : Jvm.MethodName) prog_11_method_42_code (4 : Nat) (Option.some Jvm.ClassFile.FieldType.int)) ∈ xWS := List.mem_filter.mpr ⟨List.mem_append_right _ (List.mem_of_getElem? (i := 957) rfl), rfl⟩
set_option maxRecDepth 100000 in
theorem xm_958 : (Jvm.Cond.methodLink "BrokerTreeModel" (248 : Nat) ({ cls := "BrokerTreeModel", name := "line", desc := "(II)I" } : Jvm.MethodName)) ∈ xWS := List.mem_filter.mpr ⟨List.mem_append_right _ (List.mem_of_getElem? (i := 958) (by decide +kernel)), rfl⟩
set_option maxRecDepth 100000 in
theorem xm_960 : (Jvm.Cond.instanceMethod ({ cls := "BrokerTreeModel", name := "line", desc := "(II)I" } : Jvm.MethodName)) ∈ xWS := List.mem_filter.mpr ⟨List.mem_append_right _ (List.mem_of_getElem? (i := 960) (by decide +kernel)), rfl⟩
set_option maxRecDepth 100000 in
theorem xm_961 : (Jvm.Cond.code ({ cls := "BrokerTreeModel", name := "line", desc := "(II)I" } : Jvm.MethodName) prog_11_method_40_code (3 : Nat) (Option.some Jvm.ClassFile.FieldType.int)) ∈ xWS := List.mem_filter.mpr ⟨List.mem_append_right _ (List.mem_of_getElem? (i := 961) rfl), rfl⟩
set_option maxRecDepth 100000 in
theorem xm_962 : (Jvm.Cond.methodLink "BrokerTreeModel" (245 : Nat) ({ cls := "BrokerTreeModel", name := "isBroker", desc := "(I)Z" } : Jvm.MethodName)) ∈ xWS := List.mem_filter.mpr ⟨List.mem_append_right _ (List.mem_of_getElem? (i := 962) (by decide +kernel)), rfl⟩
set_option maxRecDepth 100000 in
theorem xm_963 : (Jvm.Cond.static ({ cls := "BrokerTreeModel", name := "isBroker", desc := "(I)Z" } : Jvm.MethodName)) ∈ xWS := List.mem_filter.mpr ⟨List.mem_append_right _ (List.mem_of_getElem? (i := 963) (by decide +kernel)), rfl⟩
set_option maxRecDepth 100000 in
theorem xm_964 : (Jvm.Cond.code ({ cls := "BrokerTreeModel", name := "isBroker", desc := "(I)Z" } : Jvm.MethodName) prog_11_method_39_code (1 : Nat) (Option.some Jvm.ClassFile.FieldType.boolean)) ∈ xWS := List.mem_filter.mpr ⟨List.mem_append_right _ (List.mem_of_getElem? (i := 964) rfl), rfl⟩
set_option maxRecDepth 100000 in
theorem xm_965 : (Jvm.Cond.methodLink "BrokerTreeModel" (251 : Nat) ({ cls := "BrokerTreeModel", name := "taken", desc := "(II)I" } : Jvm.MethodName)) ∈ xWS := List.mem_filter.mpr ⟨List.mem_append_right _ (List.mem_of_getElem? (i := 965) (by decide +kernel)), rfl⟩
set_option maxRecDepth 100000 in
theorem xm_967 : (Jvm.Cond.instanceMethod ({ cls := "BrokerTreeModel", name := "taken", desc := "(II)I" } : Jvm.MethodName)) ∈ xWS := List.mem_filter.mpr ⟨List.mem_append_right _ (List.mem_of_getElem? (i := 967) (by decide +kernel)), rfl⟩
set_option maxRecDepth 100000 in
theorem xm_968 : (Jvm.Cond.code ({ cls := "BrokerTreeModel", name := "taken", desc := "(II)I" } : Jvm.MethodName) prog_11_method_41_code (8 : Nat) (Option.some Jvm.ClassFile.FieldType.int)) ∈ xWS := List.mem_filter.mpr ⟨List.mem_append_right _ (List.mem_of_getElem? (i := 968) rfl), rfl⟩
set_option maxRecDepth 100000 in
theorem xm_969 : (Jvm.Cond.methodLink "BrokerTreeLaw" (77 : Nat) ({ cls := "BrokerTreeModel", name := "waiting", desc := "(II)I" } : Jvm.MethodName)) ∈ xWS := List.mem_filter.mpr ⟨List.mem_append_right _ (List.mem_of_getElem? (i := 969) (by decide +kernel)), rfl⟩
set_option maxRecDepth 100000 in
theorem xm_970 : (Jvm.Cond.instanceMethod ({ cls := "BrokerTreeModel", name := "waiting", desc := "(II)I" } : Jvm.MethodName)) ∈ xWS := List.mem_filter.mpr ⟨List.mem_append_right _ (List.mem_of_getElem? (i := 970) (by decide +kernel)), rfl⟩
set_option maxRecDepth 100000 in
theorem xm_971 : (Jvm.Cond.selects "BrokerTreeModel" ({ cls := "BrokerTreeModel", name := "waiting", desc := "(II)I" } : Jvm.MethodName) ({ cls := "BrokerTreeModel", name := "waiting", desc := "(II)I" } : Jvm.MethodName)) ∈ xWS := List.mem_filter.mpr ⟨List.mem_append_right _ (List.mem_of_getElem? (i := 971) (by decide +kernel)), rfl⟩
set_option maxRecDepth 100000 in
theorem xm_972 : (Jvm.Cond.code ({ cls := "BrokerTreeModel", name := "waiting", desc := "(II)I" } : Jvm.MethodName) prog_11_method_43_code (4 : Nat) (Option.some Jvm.ClassFile.FieldType.int)) ∈ xWS := List.mem_filter.mpr ⟨List.mem_append_right _ (List.mem_of_getElem? (i := 972) rfl), rfl⟩
set_option maxRecDepth 100000 in
theorem xm_973 : (Jvm.Cond.methodLink "BrokerTreeLaw" (81 : Nat) ({ cls := "BrokerTreeModel", name := "run", desc := "()I" } : Jvm.MethodName)) ∈ xWS := List.mem_filter.mpr ⟨List.mem_append_right _ (List.mem_of_getElem? (i := 973) (by decide +kernel)), rfl⟩
set_option maxRecDepth 100000 in
theorem xm_974 : (Jvm.Cond.instanceMethod ({ cls := "BrokerTreeModel", name := "run", desc := "()I" } : Jvm.MethodName)) ∈ xWS := List.mem_filter.mpr ⟨List.mem_append_right _ (List.mem_of_getElem? (i := 974) (by decide +kernel)), rfl⟩
set_option maxRecDepth 100000 in
theorem xm_975 : (Jvm.Cond.selects "BrokerTreeModel" ({ cls := "BrokerTreeModel", name := "run", desc := "()I" } : Jvm.MethodName) ({ cls := "BrokerTreeModel", name := "run", desc := "()I" } : Jvm.MethodName)) ∈ xWS := List.mem_filter.mpr ⟨List.mem_append_right _ (List.mem_of_getElem? (i := 975) (by decide +kernel)), rfl⟩
set_option maxRecDepth 100000 in
theorem xm_976 : (Jvm.Cond.code ({ cls := "BrokerTreeModel", name := "run", desc := "()I" } : Jvm.MethodName) prog_11_method_44_code (5 : Nat) (Option.some Jvm.ClassFile.FieldType.int)) ∈ xWS := List.mem_filter.mpr ⟨List.mem_append_right _ (List.mem_of_getElem? (i := 976) rfl), rfl⟩
set_option maxRecDepth 100000 in
theorem xm_977 : (Jvm.Cond.methodLink "BrokerTreeLaw" (84 : Nat) ({ cls := "BrokerTreeModel", name := "read", desc := "(I)I" } : Jvm.MethodName)) ∈ xWS := List.mem_filter.mpr ⟨List.mem_append_right _ (List.mem_of_getElem? (i := 977) (by decide +kernel)), rfl⟩
set_option maxRecDepth 100000 in
theorem xm_978 : (Jvm.Cond.instanceMethod ({ cls := "BrokerTreeModel", name := "read", desc := "(I)I" } : Jvm.MethodName)) ∈ xWS := List.mem_filter.mpr ⟨List.mem_append_right _ (List.mem_of_getElem? (i := 978) (by decide +kernel)), rfl⟩
set_option maxRecDepth 100000 in
theorem xm_979 : (Jvm.Cond.selects "BrokerTreeModel" ({ cls := "BrokerTreeModel", name := "read", desc := "(I)I" } : Jvm.MethodName) ({ cls := "BrokerTreeModel", name := "read", desc := "(I)I" } : Jvm.MethodName)) ∈ xWS := List.mem_filter.mpr ⟨List.mem_append_right _ (List.mem_of_getElem? (i := 979) (by decide +kernel)), rfl⟩
set_option maxRecDepth 100000 in
theorem xm_980 : (Jvm.Cond.code ({ cls := "BrokerTreeModel", name := "read", desc := "(I)I" } : Jvm.MethodName) prog_11_method_45_code (2 : Nat) (Option.some Jvm.ClassFile.FieldType.int)) ∈ xWS := List.mem_filter.mpr ⟨List.mem_append_right _ (List.mem_of_getElem? (i := 980) rfl), rfl⟩
set_option maxRecDepth 100000 in
theorem xm_981 : (Jvm.Cond.methodLink "BrokerTreeLaw" (89 : Nat) ({ cls := "BrokerTreeModel", name := "filters", desc := "(IIZ)I" } : Jvm.MethodName)) ∈ xWS := List.mem_filter.mpr ⟨List.mem_append_right _ (List.mem_of_getElem? (i := 981) (by decide +kernel)), rfl⟩
set_option maxRecDepth 100000 in
theorem xm_982 : (Jvm.Cond.instanceMethod ({ cls := "BrokerTreeModel", name := "filters", desc := "(IIZ)I" } : Jvm.MethodName)) ∈ xWS := List.mem_filter.mpr ⟨List.mem_append_right _ (List.mem_of_getElem? (i := 982) (by decide +kernel)), rfl⟩
set_option maxRecDepth 100000 in
theorem xm_983 : (Jvm.Cond.selects "BrokerTreeModel" ({ cls := "BrokerTreeModel", name := "filters", desc := "(IIZ)I" } : Jvm.MethodName) ({ cls := "BrokerTreeModel", name := "filters", desc := "(IIZ)I" } : Jvm.MethodName)) ∈ xWS := List.mem_filter.mpr ⟨List.mem_append_right _ (List.mem_of_getElem? (i := 983) (by decide +kernel)), rfl⟩
set_option maxRecDepth 100000 in
theorem xm_984 : (Jvm.Cond.code ({ cls := "BrokerTreeModel", name := "filters", desc := "(IIZ)I" } : Jvm.MethodName) prog_11_method_46_code (5 : Nat) (Option.some Jvm.ClassFile.FieldType.int)) ∈ xWS := List.mem_filter.mpr ⟨List.mem_append_right _ (List.mem_of_getElem? (i := 984) rfl), rfl⟩
set_option maxRecDepth 100000 in
theorem xm_985 : (Jvm.Cond.methodLink "BrokerTreeLaw" (97 : Nat) ({ cls := "BrokerTreeModel", name := "count", desc := "(I)I" } : Jvm.MethodName)) ∈ xWS := List.mem_filter.mpr ⟨List.mem_append_right _ (List.mem_of_getElem? (i := 985) (by decide +kernel)), rfl⟩
set_option maxRecDepth 100000 in
theorem xm_986 : (Jvm.Cond.instanceMethod ({ cls := "BrokerTreeModel", name := "count", desc := "(I)I" } : Jvm.MethodName)) ∈ xWS := List.mem_filter.mpr ⟨List.mem_append_right _ (List.mem_of_getElem? (i := 986) (by decide +kernel)), rfl⟩
set_option maxRecDepth 100000 in
theorem xm_987 : (Jvm.Cond.selects "BrokerTreeModel" ({ cls := "BrokerTreeModel", name := "count", desc := "(I)I" } : Jvm.MethodName) ({ cls := "BrokerTreeModel", name := "count", desc := "(I)I" } : Jvm.MethodName)) ∈ xWS := List.mem_filter.mpr ⟨List.mem_append_right _ (List.mem_of_getElem? (i := 987) (by decide +kernel)), rfl⟩
set_option maxRecDepth 100000 in
theorem xm_988 : (Jvm.Cond.code ({ cls := "BrokerTreeModel", name := "count", desc := "(I)I" } : Jvm.MethodName) prog_11_method_47_code (2 : Nat) (Option.some Jvm.ClassFile.FieldType.int)) ∈ xWS := List.mem_filter.mpr ⟨List.mem_append_right _ (List.mem_of_getElem? (i := 988) rfl), rfl⟩
set_option maxRecDepth 100000 in
theorem xm_989 : (Jvm.Cond.arrayClass Jvm.ClassFile.FieldType.long) ∈ xWS := List.mem_filter.mpr ⟨List.mem_append_right _ (List.mem_of_getElem? (i := 989) (by decide +kernel)), rfl⟩
set_option maxRecDepth 100000 in
theorem xs_0 : (Jvm.Cond.selects "BrokerTree" ({ cls := "BrokerTree", name := "linkBetween", desc := "(II)LBrokerTree$Link;" } : Jvm.MethodName) ({ cls := "BrokerTree", name := "linkBetween", desc := "(II)LBrokerTree$Link;" } : Jvm.MethodName)) ∈ xWS := List.mem_filter.mpr ⟨List.mem_append_left _ (List.mem_of_getElem? (i := 0) rfl), rfl⟩
set_option maxRecDepth 100000 in
theorem xs_1 : (Jvm.Cond.selects "BrokerTree" ({ cls := "BrokerTree", name := "firstBusyLink", desc := "()LBrokerTree$Link;" } : Jvm.MethodName) ({ cls := "BrokerTree", name := "firstBusyLink", desc := "()LBrokerTree$Link;" } : Jvm.MethodName)) ∈ xWS := List.mem_filter.mpr ⟨List.mem_append_left _ (List.mem_of_getElem? (i := 1) rfl), rfl⟩
set_option maxRecDepth 100000 in
theorem xs_2 : (Jvm.Cond.selects "BrokerTree" ({ cls := "BrokerTree", name := "takeFirst", desc := "(LBrokerTree$Link;)I" } : Jvm.MethodName) ({ cls := "BrokerTree", name := "takeFirst", desc := "(LBrokerTree$Link;)I" } : Jvm.MethodName)) ∈ xWS := List.mem_filter.mpr ⟨List.mem_append_left _ (List.mem_of_getElem? (i := 2) rfl), rfl⟩
set_option maxRecDepth 100000 in
theorem xs_3 : (Jvm.Cond.selects "BrokerTree" ({ cls := "BrokerTree", name := "handle", desc := "(III)V" } : Jvm.MethodName) ({ cls := "BrokerTree", name := "handle", desc := "(III)V" } : Jvm.MethodName)) ∈ xWS := List.mem_filter.mpr ⟨List.mem_append_left _ (List.mem_of_getElem? (i := 3) rfl), rfl⟩
set_option maxRecDepth 100000 in
theorem xs_4 : (Jvm.Cond.selects "BrokerTree" ({ cls := "BrokerTree", name := "wants", desc := "(ILBrokerTree$Note;)Z" } : Jvm.MethodName) ({ cls := "BrokerTree", name := "wants", desc := "(ILBrokerTree$Note;)Z" } : Jvm.MethodName)) ∈ xWS := List.mem_filter.mpr ⟨List.mem_append_left _ (List.mem_of_getElem? (i := 4) rfl), rfl⟩
set_option maxRecDepth 100000 in
theorem xs_5 : (Jvm.Cond.selects "BrokerTree$Queue" ({ cls := "BrokerTree$Queue", name := "grow", desc := "()V" } : Jvm.MethodName) ({ cls := "BrokerTree$Queue", name := "grow", desc := "()V" } : Jvm.MethodName)) ∈ xWS := List.mem_filter.mpr ⟨List.mem_append_left _ (List.mem_of_getElem? (i := 5) rfl), rfl⟩
set_option maxRecDepth 100000 in
theorem xs_6 : (Jvm.Cond.selects "BrokerTree" ({ cls := "BrokerTree", name := "settle", desc := "(I)V" } : Jvm.MethodName) ({ cls := "BrokerTree", name := "settle", desc := "(I)V" } : Jvm.MethodName)) ∈ xWS := List.mem_filter.mpr ⟨List.mem_append_left _ (List.mem_of_getElem? (i := 6) rfl), rfl⟩
set_option maxRecDepth 100000 in
theorem xs_7 : (Jvm.Cond.selects "BrokerTree" ({ cls := "BrokerTree", name := "gatherOffered", desc := "(LBrokerTree$Link;)V" } : Jvm.MethodName) ({ cls := "BrokerTree", name := "gatherOffered", desc := "(LBrokerTree$Link;)V" } : Jvm.MethodName)) ∈ xWS := List.mem_filter.mpr ⟨List.mem_append_left _ (List.mem_of_getElem? (i := 7) rfl), rfl⟩
set_option maxRecDepth 100000 in
theorem xs_8 : (Jvm.Cond.selects "BrokerTree" ({ cls := "BrokerTree", name := "gatherNeed", desc := "()V" } : Jvm.MethodName) ({ cls := "BrokerTree", name := "gatherNeed", desc := "()V" } : Jvm.MethodName)) ∈ xWS := List.mem_filter.mpr ⟨List.mem_append_left _ (List.mem_of_getElem? (i := 8) rfl), rfl⟩
set_option maxRecDepth 100000 in
theorem xs_9 : (Jvm.Cond.selects "BrokerTree" ({ cls := "BrokerTree", name := "tellNeeded", desc := "(LBrokerTree$Link;)V" } : Jvm.MethodName) ({ cls := "BrokerTree", name := "tellNeeded", desc := "(LBrokerTree$Link;)V" } : Jvm.MethodName)) ∈ xWS := List.mem_filter.mpr ⟨List.mem_append_left _ (List.mem_of_getElem? (i := 9) rfl), rfl⟩
set_option maxRecDepth 100000 in
theorem xs_10 : (Jvm.Cond.selects "BrokerTree" ({ cls := "BrokerTree", name := "dropNotNeeded", desc := "(LBrokerTree$Link;)V" } : Jvm.MethodName) ({ cls := "BrokerTree", name := "dropNotNeeded", desc := "(LBrokerTree$Link;)V" } : Jvm.MethodName)) ∈ xWS := List.mem_filter.mpr ⟨List.mem_append_left _ (List.mem_of_getElem? (i := 10) rfl), rfl⟩
set_option maxRecDepth 100000 in
theorem xs_11 : (Jvm.Cond.selects "BrokerTree$Filter" ({ cls := "BrokerTree$Filter", name := "addCondition", desc := "([CII)Z" } : Jvm.MethodName) ({ cls := "BrokerTree$Filter", name := "addCondition", desc := "([CII)Z" } : Jvm.MethodName)) ∈ xWS := List.mem_filter.mpr ⟨List.mem_append_left _ (List.mem_of_getElem? (i := 11) rfl), rfl⟩
set_option maxRecDepth 100000 in
theorem xs_12 : (Jvm.Cond.selects "BrokerTree$Filter" ({ cls := "BrokerTree$Filter", name := "narrowWord", desc := "(III)Z" } : Jvm.MethodName) ({ cls := "BrokerTree$Filter", name := "narrowWord", desc := "(III)Z" } : Jvm.MethodName)) ∈ xWS := List.mem_filter.mpr ⟨List.mem_append_left _ (List.mem_of_getElem? (i := 12) rfl), rfl⟩
set_option maxRecDepth 100000 in
theorem xs_13 : (Jvm.Cond.selects "BrokerTree$Filter" ({ cls := "BrokerTree$Filter", name := "tighten", desc := "()V" } : Jvm.MethodName) ({ cls := "BrokerTree$Filter", name := "tighten", desc := "()V" } : Jvm.MethodName)) ∈ xWS := List.mem_filter.mpr ⟨List.mem_append_left _ (List.mem_of_getElem? (i := 13) rfl), rfl⟩
set_option maxRecDepth 100000 in
theorem xs_15 : (Jvm.Cond.selects "BrokerTree$Filter" ({ cls := "BrokerTree$Filter", name := "isEmpty", desc := "()Z" } : Jvm.MethodName) ({ cls := "BrokerTree$Filter", name := "isEmpty", desc := "()Z" } : Jvm.MethodName)) ∈ xWS := List.mem_filter.mpr ⟨List.mem_append_left _ (List.mem_of_getElem? (i := 15) rfl), rfl⟩
set_option maxRecDepth 100000 in
theorem xs_16 : (Jvm.Cond.selects "java/util/ArrayList" ({ cls := "java/util/ArrayList", name := "add", desc := "(Ljava/lang/Object;[Ljava/lang/Object;I)V" } : Jvm.MethodName) ({ cls := "java/util/ArrayList", name := "add", desc := "(Ljava/lang/Object;[Ljava/lang/Object;I)V" } : Jvm.MethodName)) ∈ xWS := List.mem_filter.mpr ⟨List.mem_append_left _ (List.mem_of_getElem? (i := 16) rfl), rfl⟩
set_option maxRecDepth 100000 in
theorem xs_17 : (Jvm.Cond.selects "java/util/ArrayList" ({ cls := "java/util/ArrayList", name := "grow", desc := "()[Ljava/lang/Object;" } : Jvm.MethodName) ({ cls := "java/util/ArrayList", name := "grow", desc := "()[Ljava/lang/Object;" } : Jvm.MethodName)) ∈ xWS := List.mem_filter.mpr ⟨List.mem_append_left _ (List.mem_of_getElem? (i := 17) rfl), rfl⟩
set_option maxRecDepth 100000 in
theorem xs_18 : (Jvm.Cond.selects "java/util/ArrayList" ({ cls := "java/util/ArrayList", name := "grow", desc := "(I)[Ljava/lang/Object;" } : Jvm.MethodName) ({ cls := "java/util/ArrayList", name := "grow", desc := "(I)[Ljava/lang/Object;" } : Jvm.MethodName)) ∈ xWS := List.mem_filter.mpr ⟨List.mem_append_left _ (List.mem_of_getElem? (i := 18) rfl), rfl⟩
set_option maxRecDepth 100000 in
theorem xs_19 : (Jvm.Cond.selects "BrokerTreeModel" ({ cls := "BrokerTreeModel", name := "reads", desc := "(III)Z" } : Jvm.MethodName) ({ cls := "BrokerTreeModel", name := "reads", desc := "(III)Z" } : Jvm.MethodName)) ∈ xWS := List.mem_filter.mpr ⟨List.mem_append_left _ (List.mem_of_getElem? (i := 19) rfl), rfl⟩
set_option maxRecDepth 100000 in
theorem xs_20 : (Jvm.Cond.selects "BrokerTreeModel" ({ cls := "BrokerTreeModel", name := "begin", desc := "(I)V" } : Jvm.MethodName) ({ cls := "BrokerTreeModel", name := "begin", desc := "(I)V" } : Jvm.MethodName)) ∈ xWS := List.mem_filter.mpr ⟨List.mem_append_left _ (List.mem_of_getElem? (i := 20) rfl), rfl⟩
set_option maxRecDepth 100000 in
theorem xs_21 : (Jvm.Cond.selects "BrokerTreeModel" ({ cls := "BrokerTreeModel", name := "condition", desc := "(III)I" } : Jvm.MethodName) ({ cls := "BrokerTreeModel", name := "condition", desc := "(III)I" } : Jvm.MethodName)) ∈ xWS := List.mem_filter.mpr ⟨List.mem_append_left _ (List.mem_of_getElem? (i := 21) rfl), rfl⟩
set_option maxRecDepth 100000 in
theorem xs_22 : (Jvm.Cond.selects "BrokerTreeModel" ({ cls := "BrokerTreeModel", name := "at", desc := "(II)C" } : Jvm.MethodName) ({ cls := "BrokerTreeModel", name := "at", desc := "(II)C" } : Jvm.MethodName)) ∈ xWS := List.mem_filter.mpr ⟨List.mem_append_left _ (List.mem_of_getElem? (i := 22) rfl), rfl⟩
set_option maxRecDepth 100000 in
theorem xs_23 : (Jvm.Cond.selects "BrokerTreeModel" ({ cls := "BrokerTreeModel", name := "lettersAt", desc := "(II)I" } : Jvm.MethodName) ({ cls := "BrokerTreeModel", name := "lettersAt", desc := "(II)I" } : Jvm.MethodName)) ∈ xWS := List.mem_filter.mpr ⟨List.mem_append_left _ (List.mem_of_getElem? (i := 23) rfl), rfl⟩
set_option maxRecDepth 100000 in
theorem xs_24 : (Jvm.Cond.selects "BrokerTreeModel" ({ cls := "BrokerTreeModel", name := "wordAt", desc := "(II)I" } : Jvm.MethodName) ({ cls := "BrokerTreeModel", name := "wordAt", desc := "(II)I" } : Jvm.MethodName)) ∈ xWS := List.mem_filter.mpr ⟨List.mem_append_left _ (List.mem_of_getElem? (i := 24) rfl), rfl⟩
set_option maxRecDepth 100000 in
theorem xs_25 : (Jvm.Cond.selects "BrokerTreeModel" ({ cls := "BrokerTreeModel", name := "wordly", desc := "(ICII)V" } : Jvm.MethodName) ({ cls := "BrokerTreeModel", name := "wordly", desc := "(ICII)V" } : Jvm.MethodName)) ∈ xWS := List.mem_filter.mpr ⟨List.mem_append_left _ (List.mem_of_getElem? (i := 25) rfl), rfl⟩
set_option maxRecDepth 100000 in
theorem xs_26 : (Jvm.Cond.selects "BrokerTreeModel" ({ cls := "BrokerTreeModel", name := "bound", desc := "(ICI)V" } : Jvm.MethodName) ({ cls := "BrokerTreeModel", name := "bound", desc := "(ICI)V" } : Jvm.MethodName)) ∈ xWS := List.mem_filter.mpr ⟨List.mem_append_left _ (List.mem_of_getElem? (i := 26) rfl), rfl⟩
set_option maxRecDepth 100000 in
theorem xs_27 : (Jvm.Cond.selects "BrokerTreeModel" ({ cls := "BrokerTreeModel", name := "settleBounds", desc := "(I)V" } : Jvm.MethodName) ({ cls := "BrokerTreeModel", name := "settleBounds", desc := "(I)V" } : Jvm.MethodName)) ∈ xWS := List.mem_filter.mpr ⟨List.mem_append_left _ (List.mem_of_getElem? (i := 27) rfl), rfl⟩
set_option maxRecDepth 100000 in
theorem xs_28 : (Jvm.Cond.selects "BrokerTreeModel" ({ cls := "BrokerTreeModel", name := "isOut", desc := "(II)Z" } : Jvm.MethodName) ({ cls := "BrokerTreeModel", name := "isOut", desc := "(II)Z" } : Jvm.MethodName)) ∈ xWS := List.mem_filter.mpr ⟨List.mem_append_left _ (List.mem_of_getElem? (i := 28) rfl), rfl⟩
set_option maxRecDepth 100000 in
theorem xs_29 : (Jvm.Cond.selects "BrokerTreeModel" ({ cls := "BrokerTreeModel", name := "isWordOut", desc := "(II)Z" } : Jvm.MethodName) ({ cls := "BrokerTreeModel", name := "isWordOut", desc := "(II)Z" } : Jvm.MethodName)) ∈ xWS := List.mem_filter.mpr ⟨List.mem_append_left _ (List.mem_of_getElem? (i := 29) rfl), rfl⟩
set_option maxRecDepth 100000 in
theorem xs_30 : (Jvm.Cond.selects "BrokerTreeModel" ({ cls := "BrokerTreeModel", name := "coversAll", desc := "(II)Z" } : Jvm.MethodName) ({ cls := "BrokerTreeModel", name := "coversAll", desc := "(II)Z" } : Jvm.MethodName)) ∈ xWS := List.mem_filter.mpr ⟨List.mem_append_left _ (List.mem_of_getElem? (i := 30) rfl), rfl⟩
set_option maxRecDepth 100000 in
theorem xs_31 : (Jvm.Cond.selects "BrokerTreeModel" ({ cls := "BrokerTreeModel", name := "coversNumber", desc := "(II)Z" } : Jvm.MethodName) ({ cls := "BrokerTreeModel", name := "coversNumber", desc := "(II)Z" } : Jvm.MethodName)) ∈ xWS := List.mem_filter.mpr ⟨List.mem_append_left _ (List.mem_of_getElem? (i := 31) rfl), rfl⟩
set_option maxRecDepth 100000 in
theorem xs_32 : (Jvm.Cond.selects "BrokerTreeModel" ({ cls := "BrokerTreeModel", name := "coversWord", desc := "(II)Z" } : Jvm.MethodName) ({ cls := "BrokerTreeModel", name := "coversWord", desc := "(II)Z" } : Jvm.MethodName)) ∈ xWS := List.mem_filter.mpr ⟨List.mem_append_left _ (List.mem_of_getElem? (i := 32) rfl), rfl⟩
set_option maxRecDepth 100000 in
theorem xs_33 : (Jvm.Cond.selects "BrokerTreeModel" ({ cls := "BrokerTreeModel", name := "fails", desc := "(I)I" } : Jvm.MethodName) ({ cls := "BrokerTreeModel", name := "fails", desc := "(I)I" } : Jvm.MethodName)) ∈ xWS := List.mem_filter.mpr ⟨List.mem_append_left _ (List.mem_of_getElem? (i := 33) rfl), rfl⟩
set_option maxRecDepth 100000 in
theorem xs_34 : (Jvm.Cond.selects "BrokerTreeModel" ({ cls := "BrokerTreeModel", name := "settle", desc := "(I)V" } : Jvm.MethodName) ({ cls := "BrokerTreeModel", name := "settle", desc := "(I)V" } : Jvm.MethodName)) ∈ xWS := List.mem_filter.mpr ⟨List.mem_append_left _ (List.mem_of_getElem? (i := 34) rfl), rfl⟩
set_option maxRecDepth 100000 in
theorem xs_35 : (Jvm.Cond.selects "BrokerTreeModel" ({ cls := "BrokerTreeModel", name := "need", desc := "(II)V" } : Jvm.MethodName) ({ cls := "BrokerTreeModel", name := "need", desc := "(II)V" } : Jvm.MethodName)) ∈ xWS := List.mem_filter.mpr ⟨List.mem_append_left _ (List.mem_of_getElem? (i := 35) rfl), rfl⟩
set_option maxRecDepth 100000 in
theorem xs_36 : (Jvm.Cond.selects "BrokerTreeModel" ({ cls := "BrokerTreeModel", name := "isHere", desc := "(II)Z" } : Jvm.MethodName) ({ cls := "BrokerTreeModel", name := "isHere", desc := "(II)Z" } : Jvm.MethodName)) ∈ xWS := List.mem_filter.mpr ⟨List.mem_append_left _ (List.mem_of_getElem? (i := 36) rfl), rfl⟩
set_option maxRecDepth 100000 in
theorem xs_37 : (Jvm.Cond.selects "BrokerTreeModel" ({ cls := "BrokerTreeModel", name := "add", desc := "(I)V" } : Jvm.MethodName) ({ cls := "BrokerTreeModel", name := "add", desc := "(I)V" } : Jvm.MethodName)) ∈ xWS := List.mem_filter.mpr ⟨List.mem_append_left _ (List.mem_of_getElem? (i := 37) rfl), rfl⟩
set_option maxRecDepth 100000 in
theorem xs_38 : (Jvm.Cond.selects "BrokerTreeModel" ({ cls := "BrokerTreeModel", name := "isOver", desc := "(II)Z" } : Jvm.MethodName) ({ cls := "BrokerTreeModel", name := "isOver", desc := "(II)Z" } : Jvm.MethodName)) ∈ xWS := List.mem_filter.mpr ⟨List.mem_append_left _ (List.mem_of_getElem? (i := 38) rfl), rfl⟩
set_option maxRecDepth 100000 in
theorem xs_39 : (Jvm.Cond.selects "BrokerTreeModel" ({ cls := "BrokerTreeModel", name := "tellAll", desc := "(I)V" } : Jvm.MethodName) ({ cls := "BrokerTreeModel", name := "tellAll", desc := "(I)V" } : Jvm.MethodName)) ∈ xWS := List.mem_filter.mpr ⟨List.mem_append_left _ (List.mem_of_getElem? (i := 39) rfl), rfl⟩
set_option maxRecDepth 100000 in
theorem xs_40 : (Jvm.Cond.selects "BrokerTreeModel" ({ cls := "BrokerTreeModel", name := "isTold", desc := "(II)Z" } : Jvm.MethodName) ({ cls := "BrokerTreeModel", name := "isTold", desc := "(II)Z" } : Jvm.MethodName)) ∈ xWS := List.mem_filter.mpr ⟨List.mem_append_left _ (List.mem_of_getElem? (i := 40) rfl), rfl⟩
set_option maxRecDepth 100000 in
theorem xs_41 : (Jvm.Cond.selects "BrokerTreeModel" ({ cls := "BrokerTreeModel", name := "alike", desc := "(II)Z" } : Jvm.MethodName) ({ cls := "BrokerTreeModel", name := "alike", desc := "(II)Z" } : Jvm.MethodName)) ∈ xWS := List.mem_filter.mpr ⟨List.mem_append_left _ (List.mem_of_getElem? (i := 41) rfl), rfl⟩
set_option maxRecDepth 100000 in
theorem xs_42 : (Jvm.Cond.selects "BrokerTreeModel" ({ cls := "BrokerTreeModel", name := "send", desc := "(III)V" } : Jvm.MethodName) ({ cls := "BrokerTreeModel", name := "send", desc := "(III)V" } : Jvm.MethodName)) ∈ xWS := List.mem_filter.mpr ⟨List.mem_append_left _ (List.mem_of_getElem? (i := 42) rfl), rfl⟩
set_option maxRecDepth 100000 in
theorem xs_43 : (Jvm.Cond.selects "BrokerTreeModel" ({ cls := "BrokerTreeModel", name := "isNeeded", desc := "(I)Z" } : Jvm.MethodName) ({ cls := "BrokerTreeModel", name := "isNeeded", desc := "(I)Z" } : Jvm.MethodName)) ∈ xWS := List.mem_filter.mpr ⟨List.mem_append_left _ (List.mem_of_getElem? (i := 43) rfl), rfl⟩
set_option maxRecDepth 100000 in
theorem xs_44 : (Jvm.Cond.selects "BrokerTreeModel" ({ cls := "BrokerTreeModel", name := "handle", desc := "(III)V" } : Jvm.MethodName) ({ cls := "BrokerTreeModel", name := "handle", desc := "(III)V" } : Jvm.MethodName)) ∈ xWS := List.mem_filter.mpr ⟨List.mem_append_left _ (List.mem_of_getElem? (i := 44) rfl), rfl⟩
set_option maxRecDepth 100000 in
theorem xs_45 : (Jvm.Cond.selects "BrokerTreeModel" ({ cls := "BrokerTreeModel", name := "matches", desc := "(II)Z" } : Jvm.MethodName) ({ cls := "BrokerTreeModel", name := "matches", desc := "(II)Z" } : Jvm.MethodName)) ∈ xWS := List.mem_filter.mpr ⟨List.mem_append_left _ (List.mem_of_getElem? (i := 45) rfl), rfl⟩
set_option maxRecDepth 100000 in
theorem xs_46 : (Jvm.Cond.selects "BrokerTreeModel" ({ cls := "BrokerTreeModel", name := "line", desc := "(II)I" } : Jvm.MethodName) ({ cls := "BrokerTreeModel", name := "line", desc := "(II)I" } : Jvm.MethodName)) ∈ xWS := List.mem_filter.mpr ⟨List.mem_append_left _ (List.mem_of_getElem? (i := 46) rfl), rfl⟩
set_option maxRecDepth 100000 in
theorem xs_47 : (Jvm.Cond.selects "BrokerTreeModel" ({ cls := "BrokerTreeModel", name := "taken", desc := "(II)I" } : Jvm.MethodName) ({ cls := "BrokerTreeModel", name := "taken", desc := "(II)I" } : Jvm.MethodName)) ∈ xWS := List.mem_filter.mpr ⟨List.mem_append_left _ (List.mem_of_getElem? (i := 47) rfl), rfl⟩

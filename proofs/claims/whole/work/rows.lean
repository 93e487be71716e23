section
-- ===== PART A: goes FIRST, ahead of the names: the tables' words, and 'selects' of the private methods out of them =====
/-- a private method of a class that the tables say can be made, by its rows of tables_1 -/
def lw_okq (q : MethodName × Nat) : Prop := (q.1.cls ≠ "java/lang/invoke/MethodHandle" ∧ q.1.cls ≠ "java/lang/invoke/VarHandle") ∧ Cond.instantiable q.1.cls q.2 ∈ tables_1 ∧ Cond.privateMethod q.1 ∈ tables_1 ∧ Cond.instanceMethod q.1 ∈ tables_1
theorem lw_p0 : lw_okq (⟨"java/lang/Throwable", "fillInStackTrace", "(I)Ljava/lang/Throwable;"⟩, 6) := ⟨⟨by decide +kernel, by decide +kernel⟩, List.mem_of_getElem? (i := 170) (by decide +kernel), List.mem_of_getElem? (i := 168) (by decide +kernel), List.mem_of_getElem? (i := 169) (by decide +kernel)⟩
theorem lw_p1 : lw_okq (⟨"java/util/ArrayList", "add", "(Ljava/lang/Object;[Ljava/lang/Object;I)V"⟩, 3) := ⟨⟨by decide +kernel, by decide +kernel⟩, List.mem_of_getElem? (i := 34) (by decide +kernel), List.mem_of_getElem? (i := 242) (by decide +kernel), List.mem_of_getElem? (i := 243) (by decide +kernel)⟩
theorem lw_p2 : lw_okq (⟨"java/util/ArrayList", "grow", "()[Ljava/lang/Object;"⟩, 3) := ⟨⟨by decide +kernel, by decide +kernel⟩, List.mem_of_getElem? (i := 34) (by decide +kernel), List.mem_of_getElem? (i := 246) (by decide +kernel), List.mem_of_getElem? (i := 247) (by decide +kernel)⟩
theorem lw_p3 : lw_okq (⟨"java/util/ArrayList", "grow", "(I)[Ljava/lang/Object;"⟩, 3) := ⟨⟨by decide +kernel, by decide +kernel⟩, List.mem_of_getElem? (i := 34) (by decide +kernel), List.mem_of_getElem? (i := 250) (by decide +kernel), List.mem_of_getElem? (i := 251) (by decide +kernel)⟩
theorem lw_p4 : lw_okq (⟨"AccessGate", "personAt", "(I)LAccessGate$Person;"⟩, 9) := ⟨⟨by decide +kernel, by decide +kernel⟩, List.mem_of_getElem? (i := 26) (by decide +kernel), List.mem_of_getElem? (i := 334) (by decide +kernel), List.mem_of_getElem? (i := 335) (by decide +kernel)⟩
theorem lw_p5 : lw_okq (⟨"AccessGate$Person", "keepLabel", "(IZ)V"⟩, 3) := ⟨⟨by decide +kernel, by decide +kernel⟩, List.mem_of_getElem? (i := 220) (by decide +kernel), List.mem_of_getElem? (i := 368) (by decide +kernel), List.mem_of_getElem? (i := 369) (by decide +kernel)⟩
theorem lw_p6 : lw_okq (⟨"AccessGate", "endRights", "(LAccessGate$Person;LAccessGate$Machine;)V"⟩, 9) := ⟨⟨by decide +kernel, by decide +kernel⟩, List.mem_of_getElem? (i := 26) (by decide +kernel), List.mem_of_getElem? (i := 372) (by decide +kernel), List.mem_of_getElem? (i := 373) (by decide +kernel)⟩
theorem lw_p7 : lw_okq (⟨"AccessGate$Right", "holdsAt", "(I)Z"⟩, 4) := ⟨⟨by decide +kernel, by decide +kernel⟩, List.mem_of_getElem? (i := 379) (by decide +kernel), List.mem_of_getElem? (i := 377) (by decide +kernel), List.mem_of_getElem? (i := 378) (by decide +kernel)⟩
theorem lw_p8 : lw_okq (⟨"AccessGate", "denyWaitingAsks", "(LAccessGate$Person;LAccessGate$Machine;)V"⟩, 9) := ⟨⟨by decide +kernel, by decide +kernel⟩, List.mem_of_getElem? (i := 26) (by decide +kernel), List.mem_of_getElem? (i := 382) (by decide +kernel), List.mem_of_getElem? (i := 383) (by decide +kernel)⟩
theorem lw_p9 : lw_okq (⟨"AccessGate$Ask", "stateAt", "(I)I"⟩, 6) := ⟨⟨by decide +kernel, by decide +kernel⟩, List.mem_of_getElem? (i := 389) (by decide +kernel), List.mem_of_getElem? (i := 387) (by decide +kernel), List.mem_of_getElem? (i := 388) (by decide +kernel)⟩
theorem lw_p10 : lw_okq (⟨"AccessGate", "closeEndedSessions", "()I"⟩, 9) := ⟨⟨by decide +kernel, by decide +kernel⟩, List.mem_of_getElem? (i := 26) (by decide +kernel), List.mem_of_getElem? (i := 392) (by decide +kernel), List.mem_of_getElem? (i := 393) (by decide +kernel)⟩
theorem lw_p11 : lw_okq (⟨"AccessGate$Session", "restsAt", "(I)Z"⟩, 6) := ⟨⟨by decide +kernel, by decide +kernel⟩, List.mem_of_getElem? (i := 399) (by decide +kernel), List.mem_of_getElem? (i := 397) (by decide +kernel), List.mem_of_getElem? (i := 398) (by decide +kernel)⟩
theorem lw_p12 : lw_okq (⟨"AccessGate", "rightHolds", "(LAccessGate$Person;LAccessGate$Machine;I)Z"⟩, 9) := ⟨⟨by decide +kernel, by decide +kernel⟩, List.mem_of_getElem? (i := 26) (by decide +kernel), List.mem_of_getElem? (i := 402) (by decide +kernel), List.mem_of_getElem? (i := 403) (by decide +kernel)⟩
theorem lw_p13 : lw_okq (⟨"AccessGate", "endSession", "(LAccessGate$Session;)V"⟩, 9) := ⟨⟨by decide +kernel, by decide +kernel⟩, List.mem_of_getElem? (i := 26) (by decide +kernel), List.mem_of_getElem? (i := 406) (by decide +kernel), List.mem_of_getElem? (i := 407) (by decide +kernel)⟩
theorem lw_p14 : lw_okq (⟨"AccessGate$StepRecord", "add", "(ILAccessGate$Person;LAccessGate$Machine;I)V"⟩, 4) := ⟨⟨by decide +kernel, by decide +kernel⟩, List.mem_of_getElem? (i := 60) (by decide +kernel), List.mem_of_getElem? (i := 410) (by decide +kernel), List.mem_of_getElem? (i := 411) (by decide +kernel)⟩
theorem lw_p15 : lw_okq (⟨"AccessGate", "machineAt", "(I)LAccessGate$Machine;"⟩, 9) := ⟨⟨by decide +kernel, by decide +kernel⟩, List.mem_of_getElem? (i := 26) (by decide +kernel), List.mem_of_getElem? (i := 422) (by decide +kernel), List.mem_of_getElem? (i := 423) (by decide +kernel)⟩
def lw_privs_1 : List (MethodName × Nat) := [(⟨"java/lang/Throwable", "fillInStackTrace", "(I)Ljava/lang/Throwable;"⟩, 6), (⟨"java/util/ArrayList", "add", "(Ljava/lang/Object;[Ljava/lang/Object;I)V"⟩, 3), (⟨"java/util/ArrayList", "grow", "()[Ljava/lang/Object;"⟩, 3), (⟨"java/util/ArrayList", "grow", "(I)[Ljava/lang/Object;"⟩, 3), (⟨"AccessGate", "personAt", "(I)LAccessGate$Person;"⟩, 9), (⟨"AccessGate$Person", "keepLabel", "(IZ)V"⟩, 3), (⟨"AccessGate", "endRights", "(LAccessGate$Person;LAccessGate$Machine;)V"⟩, 9), (⟨"AccessGate$Right", "holdsAt", "(I)Z"⟩, 4), (⟨"AccessGate", "denyWaitingAsks", "(LAccessGate$Person;LAccessGate$Machine;)V"⟩, 9), (⟨"AccessGate$Ask", "stateAt", "(I)I"⟩, 6), (⟨"AccessGate", "closeEndedSessions", "()I"⟩, 9), (⟨"AccessGate$Session", "restsAt", "(I)Z"⟩, 6), (⟨"AccessGate", "rightHolds", "(LAccessGate$Person;LAccessGate$Machine;I)Z"⟩, 9), (⟨"AccessGate", "endSession", "(LAccessGate$Session;)V"⟩, 9), (⟨"AccessGate$StepRecord", "add", "(ILAccessGate$Person;LAccessGate$Machine;I)V"⟩, 4), (⟨"AccessGate", "machineAt", "(I)LAccessGate$Machine;"⟩, 9)]
theorem lw_r1 : ∀ q ∈ lw_privs_1, lw_okq q := List.forall_mem_cons.mpr ⟨lw_p0, List.forall_mem_cons.mpr ⟨lw_p1, List.forall_mem_cons.mpr ⟨lw_p2, List.forall_mem_cons.mpr ⟨lw_p3, List.forall_mem_cons.mpr ⟨lw_p4, List.forall_mem_cons.mpr ⟨lw_p5, List.forall_mem_cons.mpr ⟨lw_p6, List.forall_mem_cons.mpr ⟨lw_p7, List.forall_mem_cons.mpr ⟨lw_p8, List.forall_mem_cons.mpr ⟨lw_p9, List.forall_mem_cons.mpr ⟨lw_p10, List.forall_mem_cons.mpr ⟨lw_p11, List.forall_mem_cons.mpr ⟨lw_p12, List.forall_mem_cons.mpr ⟨lw_p13, List.forall_mem_cons.mpr ⟨lw_p14, List.forall_mem_cons.mpr ⟨lw_p15, fun _ h => absurd h List.not_mem_nil⟩⟩⟩⟩⟩⟩⟩⟩⟩⟩⟩⟩⟩⟩⟩⟩
theorem lw_p16 : lw_okq (⟨"AccessGate", "requireMayAskOrEnter", "(LAccessGate$Person;LAccessGate$Machine;)V"⟩, 9) := ⟨⟨by decide +kernel, by decide +kernel⟩, List.mem_of_getElem? (i := 26) (by decide +kernel), List.mem_of_getElem? (i := 435) (by decide +kernel), List.mem_of_getElem? (i := 436) (by decide +kernel)⟩
theorem lw_p17 : lw_okq (⟨"AccessGate$Person", "hasLabel", "(I)Z"⟩, 3) := ⟨⟨by decide +kernel, by decide +kernel⟩, List.mem_of_getElem? (i := 220) (by decide +kernel), List.mem_of_getElem? (i := 439) (by decide +kernel), List.mem_of_getElem? (i := 440) (by decide +kernel)⟩
theorem lw_p18 : lw_okq (⟨"AccessGate", "countOverdue", "(LAccessGate$Person;)I"⟩, 9) := ⟨⟨by decide +kernel, by decide +kernel⟩, List.mem_of_getElem? (i := 26) (by decide +kernel), List.mem_of_getElem? (i := 444) (by decide +kernel), List.mem_of_getElem? (i := 445) (by decide +kernel)⟩
theorem lw_p19 : lw_okq (⟨"AccessGate$Entry", "isOverdueAt", "(I)Z"⟩, 4) := ⟨⟨by decide +kernel, by decide +kernel⟩, List.mem_of_getElem? (i := 451) (by decide +kernel), List.mem_of_getElem? (i := 449) (by decide +kernel), List.mem_of_getElem? (i := 450) (by decide +kernel)⟩
theorem lw_p20 : lw_okq (⟨"AccessGate", "askAt", "(I)LAccessGate$Ask;"⟩, 9) := ⟨⟨by decide +kernel, by decide +kernel⟩, List.mem_of_getElem? (i := 26) (by decide +kernel), List.mem_of_getElem? (i := 494) (by decide +kernel), List.mem_of_getElem? (i := 495) (by decide +kernel)⟩
theorem lw_p21 : lw_okq (⟨"AccessGate", "requireMayJudge", "(LAccessGate$Ask;LAccessGate$Person;)V"⟩, 9) := ⟨⟨by decide +kernel, by decide +kernel⟩, List.mem_of_getElem? (i := 26) (by decide +kernel), List.mem_of_getElem? (i := 499) (by decide +kernel), List.mem_of_getElem? (i := 500) (by decide +kernel)⟩
theorem lw_p22 : lw_okq (⟨"AccessGate$Person", "mayJudge", "(LAccessGate$Person;LAccessGate$Machine;)Z"⟩, 3) := ⟨⟨by decide +kernel, by decide +kernel⟩, List.mem_of_getElem? (i := 220) (by decide +kernel), List.mem_of_getElem? (i := 504) (by decide +kernel), List.mem_of_getElem? (i := 505) (by decide +kernel)⟩
theorem lw_p23 : lw_okq (⟨"AccessGate", "entryAt", "(I)LAccessGate$Entry;"⟩, 9) := ⟨⟨by decide +kernel, by decide +kernel⟩, List.mem_of_getElem? (i := 26) (by decide +kernel), List.mem_of_getElem? (i := 580) (by decide +kernel), List.mem_of_getElem? (i := 581) (by decide +kernel)⟩
theorem lw_p24 : lw_okq (⟨"AccessGate", "sessionAt", "(I)LAccessGate$Session;"⟩, 9) := ⟨⟨by decide +kernel, by decide +kernel⟩, List.mem_of_getElem? (i := 26) (by decide +kernel), List.mem_of_getElem? (i := 647) (by decide +kernel), List.mem_of_getElem? (i := 648) (by decide +kernel)⟩
theorem lw_p25 : lw_okq (⟨"AccessGate$Session", "holdsLine", "()Z"⟩, 6) := ⟨⟨by decide +kernel, by decide +kernel⟩, List.mem_of_getElem? (i := 399) (by decide +kernel), List.mem_of_getElem? (i := 657) (by decide +kernel), List.mem_of_getElem? (i := 658) (by decide +kernel)⟩
theorem lw_p26 : lw_okq (⟨"AccessGate", "requireStep", "(I)V"⟩, 9) := ⟨⟨by decide +kernel, by decide +kernel⟩, List.mem_of_getElem? (i := 26) (by decide +kernel), List.mem_of_getElem? (i := 700) (by decide +kernel), List.mem_of_getElem? (i := 701) (by decide +kernel)⟩
theorem lw_p27 : lw_okq (⟨"AccessGateModel", "goes", "(ZZZ)Z"⟩, 34) := ⟨⟨by decide +kernel, by decide +kernel⟩, List.mem_of_getElem? (i := 712) (by decide +kernel), List.mem_of_getElem? (i := 833) (by decide +kernel), List.mem_of_getElem? (i := 834) (by decide +kernel)⟩
theorem lw_p28 : lw_okq (⟨"AccessGateModel", "isPerson", "(I)Z"⟩, 34) := ⟨⟨by decide +kernel, by decide +kernel⟩, List.mem_of_getElem? (i := 712) (by decide +kernel), List.mem_of_getElem? (i := 845) (by decide +kernel), List.mem_of_getElem? (i := 846) (by decide +kernel)⟩
theorem lw_p29 : lw_okq (⟨"AccessGateModel", "endsRights", "(II)V"⟩, 34) := ⟨⟨by decide +kernel, by decide +kernel⟩, List.mem_of_getElem? (i := 712) (by decide +kernel), List.mem_of_getElem? (i := 849) (by decide +kernel), List.mem_of_getElem? (i := 850) (by decide +kernel)⟩
theorem lw_p30 : lw_okq (⟨"AccessGateModel", "deniesAsks", "(II)V"⟩, 34) := ⟨⟨by decide +kernel, by decide +kernel⟩, List.mem_of_getElem? (i := 712) (by decide +kernel), List.mem_of_getElem? (i := 853) (by decide +kernel), List.mem_of_getElem? (i := 854) (by decide +kernel)⟩
theorem lw_p31 : lw_okq (⟨"AccessGateModel", "closes", "(I)I"⟩, 34) := ⟨⟨by decide +kernel, by decide +kernel⟩, List.mem_of_getElem? (i := 712) (by decide +kernel), List.mem_of_getElem? (i := 857) (by decide +kernel), List.mem_of_getElem? (i := 858) (by decide +kernel)⟩
def lw_privs_2 : List (MethodName × Nat) := [(⟨"AccessGate", "requireMayAskOrEnter", "(LAccessGate$Person;LAccessGate$Machine;)V"⟩, 9), (⟨"AccessGate$Person", "hasLabel", "(I)Z"⟩, 3), (⟨"AccessGate", "countOverdue", "(LAccessGate$Person;)I"⟩, 9), (⟨"AccessGate$Entry", "isOverdueAt", "(I)Z"⟩, 4), (⟨"AccessGate", "askAt", "(I)LAccessGate$Ask;"⟩, 9), (⟨"AccessGate", "requireMayJudge", "(LAccessGate$Ask;LAccessGate$Person;)V"⟩, 9), (⟨"AccessGate$Person", "mayJudge", "(LAccessGate$Person;LAccessGate$Machine;)Z"⟩, 3), (⟨"AccessGate", "entryAt", "(I)LAccessGate$Entry;"⟩, 9), (⟨"AccessGate", "sessionAt", "(I)LAccessGate$Session;"⟩, 9), (⟨"AccessGate$Session", "holdsLine", "()Z"⟩, 6), (⟨"AccessGate", "requireStep", "(I)V"⟩, 9), (⟨"AccessGateModel", "goes", "(ZZZ)Z"⟩, 34), (⟨"AccessGateModel", "isPerson", "(I)Z"⟩, 34), (⟨"AccessGateModel", "endsRights", "(II)V"⟩, 34), (⟨"AccessGateModel", "deniesAsks", "(II)V"⟩, 34), (⟨"AccessGateModel", "closes", "(I)I"⟩, 34)]
theorem lw_r2 : ∀ q ∈ lw_privs_2, lw_okq q := List.forall_mem_cons.mpr ⟨lw_p16, List.forall_mem_cons.mpr ⟨lw_p17, List.forall_mem_cons.mpr ⟨lw_p18, List.forall_mem_cons.mpr ⟨lw_p19, List.forall_mem_cons.mpr ⟨lw_p20, List.forall_mem_cons.mpr ⟨lw_p21, List.forall_mem_cons.mpr ⟨lw_p22, List.forall_mem_cons.mpr ⟨lw_p23, List.forall_mem_cons.mpr ⟨lw_p24, List.forall_mem_cons.mpr ⟨lw_p25, List.forall_mem_cons.mpr ⟨lw_p26, List.forall_mem_cons.mpr ⟨lw_p27, List.forall_mem_cons.mpr ⟨lw_p28, List.forall_mem_cons.mpr ⟨lw_p29, List.forall_mem_cons.mpr ⟨lw_p30, List.forall_mem_cons.mpr ⟨lw_p31, fun _ h => absurd h List.not_mem_nil⟩⟩⟩⟩⟩⟩⟩⟩⟩⟩⟩⟩⟩⟩⟩⟩
theorem lw_p32 : lw_okq (⟨"AccessGateModel", "holdsAt", "(III)Z"⟩, 34) := ⟨⟨by decide +kernel, by decide +kernel⟩, List.mem_of_getElem? (i := 712) (by decide +kernel), List.mem_of_getElem? (i := 861) (by decide +kernel), List.mem_of_getElem? (i := 862) (by decide +kernel)⟩
theorem lw_p33 : lw_okq (⟨"AccessGateModel", "shuts", "(I)V"⟩, 34) := ⟨⟨by decide +kernel, by decide +kernel⟩, List.mem_of_getElem? (i := 712) (by decide +kernel), List.mem_of_getElem? (i := 865) (by decide +kernel), List.mem_of_getElem? (i := 866) (by decide +kernel)⟩
theorem lw_p34 : lw_okq (⟨"AccessGateModel", "writes", "(III)V"⟩, 34) := ⟨⟨by decide +kernel, by decide +kernel⟩, List.mem_of_getElem? (i := 712) (by decide +kernel), List.mem_of_getElem? (i := 869) (by decide +kernel), List.mem_of_getElem? (i := 870) (by decide +kernel)⟩
theorem lw_p35 : lw_okq (⟨"AccessGateModel", "areBoth", "(II)Z"⟩, 34) := ⟨⟨by decide +kernel, by decide +kernel⟩, List.mem_of_getElem? (i := 712) (by decide +kernel), List.mem_of_getElem? (i := 878) (by decide +kernel), List.mem_of_getElem? (i := 879) (by decide +kernel)⟩
theorem lw_p36 : lw_okq (⟨"AccessGateModel", "isMachine", "(I)Z"⟩, 34) := ⟨⟨by decide +kernel, by decide +kernel⟩, List.mem_of_getElem? (i := 712) (by decide +kernel), List.mem_of_getElem? (i := 882) (by decide +kernel), List.mem_of_getElem? (i := 883) (by decide +kernel)⟩
theorem lw_p37 : lw_okq (⟨"AccessGateModel", "canAsk", "(II)Z"⟩, 34) := ⟨⟨by decide +kernel, by decide +kernel⟩, List.mem_of_getElem? (i := 712) (by decide +kernel), List.mem_of_getElem? (i := 890) (by decide +kernel), List.mem_of_getElem? (i := 891) (by decide +kernel)⟩
theorem lw_p38 : lw_okq (⟨"AccessGateModel", "hasLabel", "(II)Z"⟩, 34) := ⟨⟨by decide +kernel, by decide +kernel⟩, List.mem_of_getElem? (i := 712) (by decide +kernel), List.mem_of_getElem? (i := 894) (by decide +kernel), List.mem_of_getElem? (i := 895) (by decide +kernel)⟩
theorem lw_p39 : lw_okq (⟨"AccessGateModel", "overdues", "(I)I"⟩, 34) := ⟨⟨by decide +kernel, by decide +kernel⟩, List.mem_of_getElem? (i := 712) (by decide +kernel), List.mem_of_getElem? (i := 898) (by decide +kernel), List.mem_of_getElem? (i := 899) (by decide +kernel)⟩
theorem lw_p40 : lw_okq (⟨"AccessGateModel", "canJudge", "(II)Z"⟩, 34) := ⟨⟨by decide +kernel, by decide +kernel⟩, List.mem_of_getElem? (i := 712) (by decide +kernel), List.mem_of_getElem? (i := 906) (by decide +kernel), List.mem_of_getElem? (i := 907) (by decide +kernel)⟩
theorem lw_p41 : lw_okq (⟨"AccessGateModel", "isAsk", "(I)Z"⟩, 34) := ⟨⟨by decide +kernel, by decide +kernel⟩, List.mem_of_getElem? (i := 712) (by decide +kernel), List.mem_of_getElem? (i := 910) (by decide +kernel), List.mem_of_getElem? (i := 911) (by decide +kernel)⟩
theorem lw_p42 : lw_okq (⟨"AccessGateModel", "grants", "(III)V"⟩, 34) := ⟨⟨by decide +kernel, by decide +kernel⟩, List.mem_of_getElem? (i := 712) (by decide +kernel), List.mem_of_getElem? (i := 914) (by decide +kernel), List.mem_of_getElem? (i := 915) (by decide +kernel)⟩
theorem lw_p43 : lw_okq (⟨"AccessGateModel", "isEntry", "(I)Z"⟩, 34) := ⟨⟨by decide +kernel, by decide +kernel⟩, List.mem_of_getElem? (i := 712) (by decide +kernel), List.mem_of_getElem? (i := 934) (by decide +kernel), List.mem_of_getElem? (i := 935) (by decide +kernel)⟩
theorem lw_p44 : lw_okq (⟨"AccessGateModel", "isSession", "(I)Z"⟩, 34) := ⟨⟨by decide +kernel, by decide +kernel⟩, List.mem_of_getElem? (i := 712) (by decide +kernel), List.mem_of_getElem? (i := 955) (by decide +kernel), List.mem_of_getElem? (i := 956) (by decide +kernel)⟩
def lw_privs_3 : List (MethodName × Nat) := [(⟨"AccessGateModel", "holdsAt", "(III)Z"⟩, 34), (⟨"AccessGateModel", "shuts", "(I)V"⟩, 34), (⟨"AccessGateModel", "writes", "(III)V"⟩, 34), (⟨"AccessGateModel", "areBoth", "(II)Z"⟩, 34), (⟨"AccessGateModel", "isMachine", "(I)Z"⟩, 34), (⟨"AccessGateModel", "canAsk", "(II)Z"⟩, 34), (⟨"AccessGateModel", "hasLabel", "(II)Z"⟩, 34), (⟨"AccessGateModel", "overdues", "(I)I"⟩, 34), (⟨"AccessGateModel", "canJudge", "(II)Z"⟩, 34), (⟨"AccessGateModel", "isAsk", "(I)Z"⟩, 34), (⟨"AccessGateModel", "grants", "(III)V"⟩, 34), (⟨"AccessGateModel", "isEntry", "(I)Z"⟩, 34), (⟨"AccessGateModel", "isSession", "(I)Z"⟩, 34)]
theorem lw_r3 : ∀ q ∈ lw_privs_3, lw_okq q := List.forall_mem_cons.mpr ⟨lw_p32, List.forall_mem_cons.mpr ⟨lw_p33, List.forall_mem_cons.mpr ⟨lw_p34, List.forall_mem_cons.mpr ⟨lw_p35, List.forall_mem_cons.mpr ⟨lw_p36, List.forall_mem_cons.mpr ⟨lw_p37, List.forall_mem_cons.mpr ⟨lw_p38, List.forall_mem_cons.mpr ⟨lw_p39, List.forall_mem_cons.mpr ⟨lw_p40, List.forall_mem_cons.mpr ⟨lw_p41, List.forall_mem_cons.mpr ⟨lw_p42, List.forall_mem_cons.mpr ⟨lw_p43, List.forall_mem_cons.mpr ⟨lw_p44, fun _ h => absurd h List.not_mem_nil⟩⟩⟩⟩⟩⟩⟩⟩⟩⟩⟩⟩⟩
def lw_privs : List (MethodName × Nat) := lw_privs_1 ++ (lw_privs_2 ++ (lw_privs_3))
def lw_tbl : List Cond := k2_sels lw_privs ++ tables_1
theorem lw_privs_ok : ∀ q ∈ lw_privs, lw_okq q := by
  show ∀ q ∈ lw_privs_1 ++ (lw_privs_2 ++ (lw_privs_3)), lw_okq q
  exact List.forall_mem_append.mpr ⟨lw_r1, List.forall_mem_append.mpr ⟨lw_r2, lw_r3⟩⟩
-- ===== end of PART A; then your names; then what follows =====
end
section
/-! ===== BEGIN words of one list among another's, by their places ===== -/
theorem goodIn_r {big : List Cond} (ws : List Cond) (ps : List Nat) (hp : ws = ps.filterMap (fun i => big[i]?)) (h : ws.all goodWord = true) : GoodIn big ws := by
  intro w hw
  have h1 := List.all_eq_true.mp h w hw
  rw [hp] at hw
  obtain ⟨i, -, hi⟩ := List.mem_filterMap.mp hw
  have hm : w ∈ big := by first | exact List.mem_of_getElem? hi | exact List.getElem?_mem hi
  exact ⟨hm, good_of_word h1⟩
theorem goodIn_app {big a b : List Cond} (ha : GoodIn big a) (hb : GoodIn big b) : GoodIn big (a ++ b) := fun w h => (List.mem_append.mp h).elim (ha w) (hb w)
theorem goodIn_ca {big a b : List Cond} {c : Cond} (ha : GoodIn big (c :: a)) (hb : GoodIn big b) : GoodIn big (c :: (a ++ b)) := fun w h => (List.mem_cons.mp h).elim (fun e => ha w (List.mem_cons.mpr (Or.inl e))) (fun h => (List.mem_append.mp h).elim (fun h => ha w (List.mem_cons.mpr (Or.inr h))) (hb w))
theorem goodIn_sub {big ws : List Cond} (hm : ∀ w ∈ ws, w ∈ big) (h : ws.all goodWord = true) : GoodIn big ws := fun w hw => ⟨hm w hw, good_of_word (List.all_eq_true.mp h w hw)⟩
/-! ===== END ===== -/

/-! ===== BEGIN exceptions that leave a method, and their catching by the caller (launches without stack traces) ===== -/
section VXA
/-! The laws vx_back, vx_callV, vx_callS, vx_callSW, vx_throw0, vx_throwS follow proofs of the library, with one case more: JvmDerived/Free/Laws.lean (Back.of_free), Shelf42/LK1.lean (callV, callS), Shelf/KitTraced.lean (throwNew0V, throwNewS). -/
/-- where a method has thrown q: the class by its name, the cell, what was written, the world -/
def vx_T (XC : String → State → State → Prop) (st : State) (q : Addr) (t : State) (mc ms : Nat) (free : Addr → Prop) : Prop :=
  ∃ (E : String) (ce : Cell) (L : List Loc), XC E st t ∧ t.heap[q]? = some ce ∧ ce.vm = .none ∧ st.vm.findClass E = some ce.cls ∧ st.WarmedH t.vm ∧ st.sameButNew ({ t with vm := st.vm } : State) L mc ms ∧ ∀ z ∈ L, free z.base
def vx_Q (Qc : Array Value → State → Outcome → State → Prop) (XC : String → State → State → Prop) (mc ms : Nat) (free : Addr → Prop) : Array Value → State → Outcome → State → Prop := fun a st o t =>
  (Qc a st o t ∧ ∃ L, FrameEnd st o t L mc ms ∧ ∀ q ∈ L, free q.base) ∨ ∃ q, o = .threw q ∧ vx_T XC st q t mc ms free
/-- a callee that returns or throws -/
def vx_Met (l : Launch) (y : MethodName) (ws : List Cond) (rm : Room) (Pc : Array Value → State → Prop) (Qc : Array Value → State → Outcome → State → Prop) (XC : String → State → State → Prop) (mc ms : Nat) (free : Addr → Prop) : Prop :=
  MetFree l y (headSpec ws rm) Pc (fun _ _ _ _ _ => True) (vx_Q Qc XC mc ms free)
def vx_Post (XC : String → State → State → Prop) (mc ms : Nat) (free : Addr → Prop) : Pt → Array Value → Addr → Pt → Prop := fun A a q B =>
  ∃ (g : JFrame) (mk : MethodId) (t : State) (L : List Loc) (E : String) (ce : Cell), B.U.heap = t.heap ∧ B.U.vm = t.vm ∧ XC E (A.U.calling g mk a) t ∧ t.heap[q]? = some ce ∧ ce.vm = .none ∧ A.U.vm.findClass E = some ce.cls ∧ B.locs = A.locs ++ L ∧ (∀ z ∈ L, free z.base) ∧ B.cells = A.cells + mc ∧ B.slots = A.slots + ms
def vx_Back (l : Launch) (R : Room) (p : Program) (e : Env) (below : List Frame) (s : State) (sargs : Array Value) (y : MethodName) (len W9 : Nat)
    (Pre : Pt → Array Value → Prop) (Post : Pt → Array Value → Option Value → Pt → Prop) (PostX : Pt → Array Value → Addr → Pt → Prop) : Prop :=
  ∀ (m : MethodId) (meth : Method) (c : Code) (A : Pt) (g : JFrame) (ig : Instr) (mk : MethodId) (a : Array Value),
    Stand p l e R s m sargs below meth c A.U A.locs A.cells A.slots → g.method = m → g.locals.size = c.maxLocals → decode c.code g.pc = .ok (ig, len) →
    2 * g.monitorRoom + (g.stack.map fun v => v.category).sum ≤ W9 → A.U.methodNamed? y = some mk → Pre A a →
    (∃ (v : Option Value) (B : Pt), Stand p l e R s m sargs below meth c B.U B.locs B.cells B.slots ∧ Post A a v B ∧
      Steps p.tables e below (doInvoke e (A.U.setTop g) [] mk a).1 (B.U.setTop { g with pc := g.pc + len, stack := v.toList ++ g.stack })) ∨
    (∃ (q : Addr) (B : Pt), Stand p l e R s m sargs below meth c B.U B.locs B.cells B.slots ∧ PostX A a q B ∧
      Steps p.tables e below (doInvoke e (A.U.setTop g) [] mk a).1 ((B.U.setTop g).pushFrame (.throwing q)))
section Payer
variable {l : Launch} {R : Room} {p : Program} {e : Env} {below : List Frame} {s : State} {sargs : Array Value} {y : MethodName} {len W9 : Nat}
theorem vx_back {ws : List Cond} {rm : Room} {Pc : Array Value → State → Prop} {Qc : Array Value → State → Outcome → State → Prop} {XC : String → State → State → Prop} {mc ms : Nat} {free : Addr → Prop} {bytes : ByteArray} {maxL : Nat} {ret : Option FieldType}
    (hM : vx_Met l y ws rm Pc Qc XC mc ms free) (hblind : FrameBlind Pc) (hrc : rm.cells = mc) (hrs : rm.slots = ms)
    (hframes : rm.frames + 1 ≤ R.frames) (hlocals : W9 + (maxL + 11) + rm.locals ≤ R.locals)
    (hws : ∀ w ∈ ws, ∀ a' U, s.WarmedH U.vm → w.before a' U = true) (hcode : Cond.code y bytes maxL ret ∈ ws) (hinit : ∀ a' U, s.WarmedH U.vm → (Cond.initialized y.cls).before a' U = true) :
    vx_Back l R p e below s sargs y len W9 (PreOf R mc ms Pc) (PostOf Qc mc ms free) (vx_Post XC mc ms free) := by
  intro m meth c A g ig mk a X hg hsize hdg hW hn hp
  have h1 : (headSpec ws rm).pre.before a A.U = true := atoms_intro fun w hw => hws w hw _ _ X.warmed
  have h2 : (Cond.code y bytes maxL ret).before a A.U = true := hws _ hcode _ _ X.warmed
  have h3 : (Cond.initialized y.cls).before a A.U = true := hinit _ _ X.warmed
  have h4 : A.cells + (headSpec ws rm).room.cells ≤ R.cells := by rw [show (headSpec ws rm).room.cells = mc from hrc]; exact hp.1
  have h5 : A.slots + (headSpec ws rm).room.slots ≤ R.slots := by rw [show (headSpec ws rm).room.slots = ms from hrs]; exact hp.2.1
  have hPc : Pc a (A.U.calling g mk a) := hblind _ _ _ _ hp.2.2
  obtain ⟨U, Ls, c0, s0⟩ := A
  dsimp only [Pt.U, Pt.locs, Pt.cells, Pt.slots] at h1 h2 h3 h4 h5 X hn hPc ⊢
  obtain ⟨methY, cY, hmY, hcY, -, hlY, -, -, -, -⟩ := Cond.code_spec hn h2
  obtain ⟨kY, hkY, -⟩ := className_of_methodNamed hn
  have hinitY : kY.init = .initialized := Cond.initialized_spec (findClass_of_methodNamed hn) hkY h3
  have h : At U g.method c below := by rw [hg]; exact X.here
  have hlocals9 : W9 + (maxL + 11) + (headSpec ws rm).room.locals ≤ R.locals := hlocals
  have happ : (headSpec ws rm).appliesLoose y e.platform (U.calling g mk a) = true :=
    Spec.appliesLoose_calling (g := g) h hdg hn hkY hinitY
      (X.room_calling (g := g) (R' := (headSpec ws rm).room) hsize hmY hcY hframes (by rw [hlY]; omega) h4 h5) h1
  obtain ⟨mid, hmid⟩ := h.above
  have hfr : (U.setTop g).frames = (.java g :: mid) ++ below := by rw [State.frames_setTop' g h.top, hmid]; rfl
  obtain ⟨o, s₂, hsteps, -, hend, hq⟩ := Steps.callFree hM p X.admits X.cas X.clock (acts := []) hfr happ hPc trivial
  have hq' : vx_Q Qc XC mc ms free a (U.calling g mk a) o s₂ := hq
  rw [State.frames_setTop' g h.top] at hend
  obtain ⟨g₀, hg0⟩ := Option.isSome_iff_exists.mp h.top
  obtain ⟨r, hr⟩ := State.topJava?_eq_some.mp hg0
  have hr' : (({ U with heap := s₂.heap, slotsUsed := s₂.slotsUsed } : State).setVm s₂.vm).frames = .java g₀ :: r := hr
  rcases hq' with ⟨hqc, L, hfe, hL⟩ | ⟨q, rfl, E, ce, L, hx, hce, hcv, hcl, hW₂, hsm, hL⟩
  · obtain ⟨⟨v, rfl⟩, hW₂, e2, q2, q3, q4, q5, q6⟩ := id hfe
    have e3 : s₂ = ({ (U.calling g mk a).setFrames s₂.frames with heap := s₂.heap, slotsUsed := s₂.slotsUsed } : State).setVm s₂.vm := by
      have : s₂ = ({ s₂ with vm := (U.calling g mk a).vm } : State).setVm s₂.vm := rfl
      rw [e2] at this
      exact this
    obtain ⟨c₂, i₂, len₂, hc₂, hd₂, hf₂⟩ := hend
    have hW' : U.WarmedH s₂.vm := hW₂
    have hcc : c₂ = c := by
      have h1 : s₂.code? g.method = U.code? g.method := by
        rw [State.code?_eq, State.code?_eq, hW'.alike.method?]
      exact Option.some.inj (hc₂.symm.trans (h1.trans h.code))
    subst hcc
    have hlen : len₂ = len := by rw [hdg] at hd₂; cases hd₂; rfl
    subst hlen
    have hs₂ : s₂ = (({ U with heap := s₂.heap, slotsUsed := s₂.slotsUsed } : State).setVm s₂.vm).setTop { g with pc := g.pc + len₂, stack := v.toList ++ g.stack } := by
      refine e3.trans ?_
      rw [hf₂, State.calling_eq h.top, State.setFrames_setFrames, State.setTop_of_frames _ hr', hr]
      rfl
    have hsame : U.sameButNew ({ U with heap := s₂.heap, slotsUsed := s₂.slotsUsed } : State) L mc ms := by
      refine ⟨?_, q2, q3, q4, q5, q6⟩
      obtain ⟨t, ht, -⟩ := State.frames_cons hr
      show ({ U with heap := s₂.heap, slotsUsed := s₂.slotsUsed } : State) = { U.setFrames U.frames with heap := s₂.heap, slotsUsed := s₂.slotsUsed }
      rw [State.setFrames_self ht]
    subst hg
    refine Or.inl ⟨v, ⟨(({ U with heap := s₂.heap, slotsUsed := s₂.slotsUsed } : State).setVm s₂.vm), Ls ++ L, c0 + mc, s0 + ms⟩,
      ⟨X.admits, X.cas, X.clock, X.frames, X.room, X.hears, X.method, X.code, (X.here.setHeapUsed s₂.heap s₂.slotsUsed).setVm hW'.alike, X.tail, State.WarmedH.trans X.warmed hW', X.limits, X.bytes, X.same.trans (hsame.setVm s.vm)⟩,
      ⟨g, mk, s₂, L, rfl, rfl, hqc, rfl, hL, rfl, rfl⟩, ?_⟩
    show Steps p.tables e below _ ((({ U with heap := s₂.heap, slotsUsed := s₂.slotsUsed } : State).setVm s₂.vm).setTop { g with pc := g.pc + len₂, stack := v.toList ++ g.stack })
    rw [← hs₂]
    exact hsteps
  · obtain ⟨e2, q2, q3, q4, q5, q6⟩ := id hsm
    have e3 : s₂ = ({ (U.calling g mk a).setFrames s₂.frames with heap := s₂.heap, slotsUsed := s₂.slotsUsed } : State).setVm s₂.vm := by
      have : s₂ = ({ s₂ with vm := (U.calling g mk a).vm } : State).setVm s₂.vm := rfl
      rw [e2] at this
      exact this
    have hf₂ : s₂.frames = .throwing q :: .java g :: U.frames.tail := hend
    have hW' : U.WarmedH s₂.vm := hW₂
    have hs₂ : s₂ = ((({ U with heap := s₂.heap, slotsUsed := s₂.slotsUsed } : State).setVm s₂.vm).setTop g).pushFrame (.throwing q) := by
      refine e3.trans ?_
      rw [hf₂, State.calling_eq h.top, State.setFrames_setFrames, State.pushFrame, State.frames_setTop _ hr', State.setTop_of_frames _ hr', State.setFrames_setFrames, hr]
      rfl
    have hsame : U.sameButNew ({ U with heap := s₂.heap, slotsUsed := s₂.slotsUsed } : State) L mc ms := by
      refine ⟨?_, q2, q3, q4, q5, q6⟩
      obtain ⟨t, ht, -⟩ := State.frames_cons hr
      show ({ U with heap := s₂.heap, slotsUsed := s₂.slotsUsed } : State) = { U.setFrames U.frames with heap := s₂.heap, slotsUsed := s₂.slotsUsed }
      rw [State.setFrames_self ht]
    subst hg
    refine Or.inr ⟨q, ⟨(({ U with heap := s₂.heap, slotsUsed := s₂.slotsUsed } : State).setVm s₂.vm), Ls ++ L, c0 + mc, s0 + ms⟩,
      ⟨X.admits, X.cas, X.clock, X.frames, X.room, X.hears, X.method, X.code, (X.here.setHeapUsed s₂.heap s₂.slotsUsed).setVm hW'.alike, X.tail, State.WarmedH.trans X.warmed hW', X.limits, X.bytes, X.same.trans (hsame.setVm s.vm)⟩,
      ⟨g, mk, s₂, L, E, ce, rfl, rfl, hx, hce, hcv, hcl, rfl, hL, rfl, rfl⟩, ?_⟩
    show Steps p.tables e below _ (((({ U with heap := s₂.heap, slotsUsed := s₂.slotsUsed } : State).setVm s₂.vm).setTop g).pushFrame (.throwing q))
    rw [← hs₂]
    exact hsteps
end Payer
section Calls
variable {p : Program} {l : Launch} {e : Env} {R : Room} {s : State} {m : MethodId} {args : Array Value} {below : List Frame} {meth : Method} {c : Code} {T : State} {locs : List Loc} {cells slots : Nat}
theorem vx_callV (X : Stand p l e R s m args below meth c T locs cells slots) (hexec : p.tables.exec = Jvm.exec) {own C : String} {index : Nat} {y : MethodName} {bytes : ByteArray} {maxL : Nat} {ret : Option FieldType}
    (hown : s.vm.findClass own = some m.cls) (hlink : (Cond.methodLink own index y).before args s = true) (hinst : (Cond.instanceMethod y).before args s = true) (hsel : (Cond.selects C y y).before args s = true)
    (hcode : (Cond.code y bytes maxL ret).before args s = true) (hy : y.cls ≠ "java/lang/invoke/MethodHandle" ∧ y.cls ≠ "java/lang/invoke/VarHandle")
    {W9 : Nat} {Pre : Pt → Array Value → Prop} {Post : Pt → Array Value → Option Value → Pt → Prop} {PostX : Pt → Array Value → Addr → Pt → Prop} (hK : vx_Back l R p e below s args y 3 W9 Pre Post PostX)
    {b : Addr} {cellB : Cell} (hcell : T.heap[b]? = some cellB) (hobj : cellB.vm.isStatics = false) (hcls : s.vm.findClass C = some cellB.cls)
    {g : JFrame} (hg : g.method = m) (hsize : g.locals.size = c.maxLocals) {argsL rest : List Value} (hlen : ∀ sig, parseMethodDescriptor y.desc = some sig → argsL.length = sig.parameters.length)
    (hstack : g.stack = argsL.reverse ++ .ref b :: rest) (hW : 2 * g.monitorRoom + (rest.map fun v => v.category).sum ≤ W9) (hdg : decode c.code g.pc = .ok (.invokevirtual index, 3))
    (hpre : ∀ vm₁, s.WarmedH vm₁ → Pre ⟨T.setVm vm₁, locs, cells, slots⟩ (Value.ref b :: argsL).toArray) :
    (∃ (v : Option Value) (vm₁ : Vm) (B : Pt), s.WarmedH vm₁ ∧ Stand p l e R s m args below meth c B.U B.locs B.cells B.slots ∧ Post ⟨T.setVm vm₁, locs, cells, slots⟩ (Value.ref b :: argsL).toArray v B ∧
      ∀ target, Steps p.tables e below (B.U.setTop { g with pc := g.pc + 3, stack := v.toList ++ rest }) target → Steps p.tables e below (T.setTop g) target) ∨
    (∃ (q : Addr) (vm₁ : Vm) (B : Pt), s.WarmedH vm₁ ∧ Stand p l e R s m args below meth c B.U B.locs B.cells B.slots ∧ PostX ⟨T.setVm vm₁, locs, cells, slots⟩ (Value.ref b :: argsL).toArray q B ∧
      Steps p.tables e below (T.setTop g) ((B.U.setTop { g with stack := rest }).pushFrame (.throwing q))) := by
  obtain ⟨mk, methM, hnamed, hmethM, hstM, habM⟩ := Cond.instanceMethod_spec hinst
  obtain ⟨methM', cM, hmethM', -, -, -, -, -, -, hsigM⟩ := Cond.code_spec hnamed hcode
  cases hmethM.symm.trans hmethM'
  obtain ⟨c2, r2, m2, q1, q2, q3, q4, kP, hkP, hkPi⟩ := Cond.selects_spec hsel
  cases hcls.symm.trans q1
  cases (State.methodFound?_of_named hnamed hy).symm.trans q2
  cases hnamed.symm.trans q3
  have hselP : selectMethod e.platform s.vm cellB.cls mk = .method mk := by rw [Launch.admits_selectMethod X.admits]; exact q4
  obtain ⟨vm₁, X₁, hstep₁⟩ := X.invokevirtual hexec hown hlink hnamed hmethM hstM hkP hkPi hy (a := b) (cell := cellB) hcell
    (fun z h => by rw [h] at hobj; cases hobj) hselP hmethM habM hkP hkPi (g := g) hg (argsL := argsL) (rest := rest) (hlen _ hsigM) hstack hdg
  rcases hK m meth c ⟨T.setVm vm₁, locs, cells, slots⟩ { g with stack := rest } (.invokevirtual index) mk (Value.ref b :: argsL).toArray X₁ hg hsize hdg hW (X₁.named hnamed) (hpre vm₁ X₁.warmed) with ⟨v, B, X', hpost, hsteps⟩ | ⟨q, B, X', hpost, hsteps⟩
  · exact Or.inl ⟨v, vm₁, B, X₁.warmed, X', hpost, fun target h => hstep₁ _ fun acts => by rw [doInvoke_state]; exact hsteps.trans h⟩
  · exact Or.inr ⟨q, vm₁, B, X₁.warmed, X', hpost, hstep₁ _ fun acts => by rw [doInvoke_state]; exact hsteps⟩
theorem vx_callS (X : Stand p l e R s m args below meth c T locs cells slots) (hexec : p.tables.exec = Jvm.exec) {own : String} {index : Nat} {y : MethodName} {bytes : ByteArray} {maxL : Nat} {ret : Option FieldType}
    (hown : s.vm.findClass own = some m.cls) (hlink : (Cond.methodLink own index y).before args s = true) (hstat : (Cond.static y).before args s = true) (hinit : (Cond.initialized y.cls).before args s = true)
    (hcode : (Cond.code y bytes maxL ret).before args s = true) (hy : y.cls ≠ "java/lang/invoke/MethodHandle" ∧ y.cls ≠ "java/lang/invoke/VarHandle")
    {W9 : Nat} {Pre : Pt → Array Value → Prop} {Post : Pt → Array Value → Option Value → Pt → Prop} {PostX : Pt → Array Value → Addr → Pt → Prop} (hK : vx_Back l R p e below s args y 3 W9 Pre Post PostX)
    {g : JFrame} (hg : g.method = m) (hsize : g.locals.size = c.maxLocals) {argsL rest : List Value} (hlen : ∀ sig, parseMethodDescriptor y.desc = some sig → argsL.length = sig.parameters.length)
    (hstack : g.stack = argsL.reverse ++ rest) (hW : 2 * g.monitorRoom + (rest.map fun v => v.category).sum ≤ W9) (hdg : decode c.code g.pc = .ok (.invokestatic index, 3))
    (hpre : ∀ vm₁, s.WarmedH vm₁ → Pre ⟨T.setVm vm₁, locs, cells, slots⟩ argsL.toArray) :
    (∃ (v : Option Value) (vm₁ : Vm) (B : Pt), s.WarmedH vm₁ ∧ Stand p l e R s m args below meth c B.U B.locs B.cells B.slots ∧ Post ⟨T.setVm vm₁, locs, cells, slots⟩ argsL.toArray v B ∧
      ∀ target, Steps p.tables e below (B.U.setTop { g with pc := g.pc + 3, stack := v.toList ++ rest }) target → Steps p.tables e below (T.setTop g) target) ∨
    (∃ (q : Addr) (vm₁ : Vm) (B : Pt), s.WarmedH vm₁ ∧ Stand p l e R s m args below meth c B.U B.locs B.cells B.slots ∧ PostX ⟨T.setVm vm₁, locs, cells, slots⟩ argsL.toArray q B ∧
      Steps p.tables e below (T.setTop g) ((B.U.setTop { g with stack := rest }).pushFrame (.throwing q))) := by
  obtain ⟨mk, hnamed⟩ := Cond.code_named hcode
  obtain ⟨methM, cM, hmethM, -, -, -, -, -, -, hsigM⟩ := Cond.code_spec hnamed hcode
  have hstatic : methM.isStatic = true := Cond.static_spec hnamed hmethM hstat
  obtain ⟨kP, hkP, -⟩ := className_of_methodNamed hnamed
  have hinitP : kP.init = .initialized := Cond.initialized_spec (findClass_of_methodNamed hnamed) hkP hinit
  obtain ⟨vm₁, X₁, hstep₁⟩ := X.invokestatic hexec hown hlink hnamed hmethM hstatic hkP hinitP hy (g := g) hg (argsL := argsL) (rest := rest) (hlen _ hsigM) hstack hdg
  rcases hK m meth c ⟨T.setVm vm₁, locs, cells, slots⟩ { g with stack := rest } (.invokestatic index) mk argsL.toArray X₁ hg hsize hdg hW (X₁.named hnamed) (hpre vm₁ X₁.warmed) with ⟨v, B, X', hpost, hsteps⟩ | ⟨q, B, X', hpost, hsteps⟩
  · exact Or.inl ⟨v, vm₁, B, X₁.warmed, X', hpost, fun target h => hstep₁ _ fun acts => by rw [doInvoke_state]; exact hsteps.trans h⟩
  · exact Or.inr ⟨q, vm₁, B, X₁.warmed, X', hpost, hstep₁ _ fun acts => by rw [doInvoke_state]; exact hsteps⟩
end Calls
theorem vx_cls {s : State} {T : State} {vm₁ : Vm} {E : String} {k : ClassId} (hW : s.WarmedH vm₁) (h : (T.setVm vm₁).vm.findClass E = some k) : s.vm.findClass E = some k := by
  have h1 : vm₁.findClass E = some k := h
  rw [hW.alike.findClass] at h1
  exact h1
/-- the method's frame g, with q thrown over it -/
def vx_W (p : Program) (l : Launch) (e : Env) (R : Room) (s : State) (m : MethodId) (args : Array Value) (below : List Frame) (meth : Method) (c : Code) (H : Heap) (locs : List Loc) (cells slots : Nat) (Q : State → Prop) (g : JFrame) (q : Addr) : Prop :=
  ∀ T : State, T.heap = H → Stand p l e R s m args below meth c T locs cells slots → ∃ t, Steps p.tables e below ((T.setTop g).pushFrame (.throwing q)) t ∧ Q t
def vx_Run (p : Program) (l : Launch) (e : Env) (R : Room) (s : State) (m : MethodId) (args : Array Value) (below : List Frame) (meth : Method) (c : Code) (H : Heap) (locs : List Loc) (cells slots mc ms : Nat) (g : JFrame) (rest : List Value) (Qa : State → Outcome → State → Prop) (XC : String → State → State → Prop) (free : Addr → Prop) : Prop :=
  ∀ T : State, T.heap = H → Stand p l e R s m args below meth c T locs cells slots →
    (∃ (v : Option Value) (st₀ t T' : State) (L : List Loc), st₀.heap = H ∧ Stand p l e R s m args below meth c T' (locs ++ L) (cells + mc) (slots + ms) ∧ (∀ q ∈ L, free q.base) ∧ T'.heap = t.heap ∧ T'.vm = t.vm ∧ Qa st₀ (.returned v) t ∧
      Goes p e below T g T' { g with pc := g.pc + 3, stack := v.toList ++ rest }) ∨
    (∃ (q : Addr) (st₀ t T' : State) (L : List Loc) (E : String) (ce : Cell), st₀.heap = H ∧ Stand p l e R s m args below meth c T' (locs ++ L) (cells + mc) (slots + ms) ∧ (∀ z ∈ L, free z.base) ∧ T'.heap = t.heap ∧ T'.vm = t.vm ∧ XC E st₀ t ∧ t.heap[q]? = some ce ∧ ce.vm = .none ∧ s.vm.findClass E = some ce.cls ∧
      Steps p.tables e below (T.setTop g) ((T'.setTop { g with stack := rest }).pushFrame (.throwing q)))
def vx_X {S : Type} (px : S → Prop) (B : String → S → State → Prop) (A : Nat → Prop) : String → State → State → Prop := fun E st t => ∃ u : S, px u ∧ B E u t ∧ va_F A st t
section Runs
variable {p : Program} {l : Launch} {e : Env} {R : Room} {s : State} {m : MethodId} {args : Array Value} {below : List Frame} {meth : Method} {c : Code} {H : Heap} {locs : List Loc} {cells slots : Nat}
variable {y : MethodName} {bytes cc : ByteArray} {maxL nL mc ms n index : Nat} {ret : Option FieldType} {ws : List Cond} {rm : Room} {Pc : Array Value → State → Prop} {Qc : Array Value → State → Outcome → State → Prop} {XC : String → State → State → Prop} {free : Addr → Prop} {Ts : List Cond} {own C : String} {b : Addr} {As rest : List Value} {g : JFrame}
theorem vx_callBack (cb : CallB R s args own index y bytes maxL ret ws rm mc ms n) (hM : vx_Met l y ws rm Pc Qc XC mc ms free) (hbl : FrameBlind Pc) : vx_Back l R p e below s args y 3 8 (PreOf R mc ms Pc) (PostOf Qc mc ms free) (vx_Post XC mc ms free) := by
  obtain ⟨hrc, hrs, hfr, hlo, hws, hcw, -, hini, -⟩ := cb
  exact vx_back (bytes := bytes) (maxL := maxL) (ret := ret) hM hbl hrc hrs hfr hlo hws hcw (fun a' U hW => word_at hW (Or.inl (by first | rfl | simp [Cond.onTables, Cond.keeps, Cond.steady])) hini)
theorem vx_runV (S : CallFix p m c cc nL s args Ts own) (hM : vx_Met l y ws rm Pc Qc XC mc ms free) (cw : CallW R s args own C index y bytes maxL ret ws rm mc ms n) (hp : PreV s H C b Pc As)
    (hg : g.method = m) (hn : As.length = n) (hsize : g.locals.size = nL) (hstack : g.stack = As.reverse ++ .ref b :: rest) (hW : 2 * g.monitorRoom + (rest.map fun v => v.category).sum ≤ 8) (hdg : decode cc g.pc = .ok (.invokevirtual index, 3)) (hf : cells + mc ≤ R.cells ∧ slots + ms ≤ R.slots) :
    vx_Run p l e R s m args below meth c H locs cells slots mc ms g rest (Qc (Value.ref b :: As).toArray) XC free := by
  have hK : vx_Back l R p e below s args y 3 8 (PreOf R mc ms Pc) (PostOf Qc mc ms free) (vx_Post XC mc ms free) := vx_callBack cw.1 hM hp.1
  obtain ⟨⟨-, -, -, -, -, -, hcode, -, hy, hlen, hl⟩, hin, hse⟩ := cw
  obtain ⟨hx, hb, hml, ho, -⟩ := S
  obtain ⟨-, ⟨cellB, hcB, hoB, hclB⟩, hPc⟩ := hp
  intro T hT X
  rcases vx_callV X hx (C := C) (bytes := bytes) (maxL := maxL) (ret := ret) ho hl hin hse hcode hy hK (by rw [hT]; exact hcB) hoB hclB hg (hsize.trans hml.symm) (argsL := As) (rest := rest) (fun sig h => hn.trans (hlen sig h)) hstack hW (by rw [hb]; exact hdg)
    (fun vm₁ hW₁ => ⟨hf.1, hf.2, hPc (T.setVm vm₁) hT hW₁⟩) with ⟨v, vm₁, ⟨U', l2, c2, s2⟩, hW₁, X', ⟨g', mk, t, L, e1, e2, hq, h1, hL, h2, h3⟩, st⟩ | ⟨q, vm₁, ⟨U', l2, c2, s2⟩, hW₁, X', ⟨g', mk, t, L, E, ce, e1, e2, hq, hce, hcv, hcl, h1, hL, h2, h3⟩, st⟩
  · dsimp only [Pt.U, Pt.locs, Pt.cells, Pt.slots] at X' e1 e2 h1 h2 h3 st
    subst h1; subst h2; subst h3
    exact Or.inl ⟨v, (T.setVm vm₁).calling g' mk (Value.ref b :: As).toArray, t, U', L, hT, X', hL, e1, e2, hq, st⟩
  · dsimp only [Pt.U, Pt.locs, Pt.cells, Pt.slots] at X' e1 e2 h1 h2 h3 st hcl
    subst h1; subst h2; subst h3
    exact Or.inr ⟨q, (T.setVm vm₁).calling g' mk (Value.ref b :: As).toArray, t, U', L, E, ce, hT, X', hL, e1, e2, hq, hce, hcv, vx_cls hW₁ hcl, st⟩
theorem vx_runS (S : CallFix p m c cc nL s args Ts own) (hM : vx_Met l y ws rm Pc Qc XC mc ms free) (cw : CallB R s args own index y bytes maxL ret ws rm mc ms n ∧ (Cond.static y).before args s = true) (hp : PreS s H Pc As)
    (hg : g.method = m) (hn : As.length = n) (hsize : g.locals.size = nL) (hstack : g.stack = As.reverse ++ rest) (hW : 2 * g.monitorRoom + (rest.map fun v => v.category).sum ≤ 8) (hdg : decode cc g.pc = .ok (.invokestatic index, 3)) (hf : cells + mc ≤ R.cells ∧ slots + ms ≤ R.slots) :
    vx_Run p l e R s m args below meth c H locs cells slots mc ms g rest (Qc As.toArray) XC free := by
  have hK : vx_Back l R p e below s args y 3 8 (PreOf R mc ms Pc) (PostOf Qc mc ms free) (vx_Post XC mc ms free) := vx_callBack cw.1 hM hp.1
  obtain ⟨⟨-, -, -, -, -, -, hcode, hini, hy, hlen, hl⟩, hstt⟩ := cw
  obtain ⟨hx, hb, hml, ho, -⟩ := S
  intro T hT X
  rcases vx_callS X hx (bytes := bytes) (maxL := maxL) (ret := ret) ho hl hstt hini hcode hy hK hg (hsize.trans hml.symm) (argsL := As) (rest := rest) (fun sig h => hn.trans (hlen sig h)) hstack hW (by rw [hb]; exact hdg)
    (fun vm₁ hW₁ => ⟨hf.1, hf.2, hp.2 (T.setVm vm₁) hT hW₁⟩) with ⟨v, vm₁, ⟨U', l2, c2, s2⟩, hW₁, X', ⟨g', mk, t, L, e1, e2, hq, h1, hL, h2, h3⟩, st⟩ | ⟨q, vm₁, ⟨U', l2, c2, s2⟩, hW₁, X', ⟨g', mk, t, L, E, ce, e1, e2, hq, hce, hcv, hcl, h1, hL, h2, h3⟩, st⟩
  · dsimp only [Pt.U, Pt.locs, Pt.cells, Pt.slots] at X' e1 e2 h1 h2 h3 st
    subst h1; subst h2; subst h3
    exact Or.inl ⟨v, (T.setVm vm₁).calling g' mk As.toArray, t, U', L, hT, X', hL, e1, e2, hq, st⟩
  · dsimp only [Pt.U, Pt.locs, Pt.cells, Pt.slots] at X' e1 e2 h1 h2 h3 st hcl
    subst h1; subst h2; subst h3
    exact Or.inr ⟨q, (T.setVm vm₁).calling g' mk As.toArray, t, U', L, E, ce, hT, X', hL, e1, e2, hq, hce, hcv, vx_cls hW₁ hcl, st⟩
end Runs
section Rows
variable {p : Program} {l : Launch} {e : Env} {R : Room} {s : State} {m : MethodId} {args : Array Value} {below : List Frame} {meth : Method} {c : Code} {H : Heap} {locs : List Loc} {cells slots : Nat} {Q : State → Prop}
variable {mc ms : Nat} {free : Addr → Prop} {A0 A1 : Nat → Prop} {H0 : Heap} {a : Array Value} {pc : Nat} {ls : Array Slot} {st0 rest : List Value}
theorem vx_keep {st₀ t T' : State} {L : List Loc} (h0 : st₀.heap = H) (e1 : T'.heap = t.heap) (hS : va_S A0 H0 H locs) (hA : ∀ q, q < H.size → A1 q → A0 q) (hf : ∀ q, free q → A0 q) (hL : ∀ q ∈ L, free q.base) (hF : va_F A1 st₀ t) :
    H.size ≤ T'.heap.size ∧ (∀ q : Nat, q < H.size → ¬ A1 q → T'.heap[q]? = H[q]?) ∧ va_S A0 H0 T'.heap (locs ++ L) := by
  obtain ⟨hz, hk⟩ := hF
  rw [h0] at hz hk
  exact ⟨by rw [e1]; exact hz, fun q h1 h2 => by rw [e1]; exact hk q h1 h2,
    ⟨Nat.le_trans hS.1 (by rw [e1]; exact hz), fun q h1 h2 => by rw [e1, hk q (Nat.lt_of_lt_of_le h1 hS.1) (fun z => h2 (hA q (Nat.lt_of_lt_of_le h1 hS.1) z))]; exact hS.2.1 q h1 h2, fun q hq => by
      rcases List.mem_append.mp hq with h | h
      · exact hS.2.2 q h
      · exact hf _ (hL q h)⟩⟩
theorem vx_calli {S SX : Type} {post : Int32 → S → Prop} {px : SX → Prop} {B : S → State → Prop} {BX : String → SX → State → Prop} {AX : Nat → Prop} (hr : vx_Run p l e R s m args below meth c H locs cells slots mc ms (F0 m pc ls st0) rest (va_Qi post B A1 a) (vx_X px BX AX) free) (hS : va_S A0 H0 H locs) (hA : ∀ q, q < H.size → A1 q → A0 q) (hf : ∀ q, free q → A0 q) (hAX : ∀ q, q < H.size → AX q → A0 q)
    (kx : ∀ (E : String) (ce : Cell) (q9 : Addr) (u : SX) (t : State) (H1 : Heap) (locs1 : List Loc), t.heap = H1 → s.vm.Alike t.vm → px u → BX E u t → H.size ≤ H1.size → (∀ q : Nat, q < H.size → ¬ AX q → H1[q]? = H[q]?) → va_S A0 H0 H1 locs1 → H1[q9]? = some ce → ce.vm = .none → s.vm.findClass E = some ce.cls → vx_W p l e R s m args below meth c H1 locs1 (cells + mc) (slots + ms) Q (F0 m pc ls rest) q9)
    (kk : ∀ (r : Int32) (u : S) (t : State) (H1 : Heap) (locs1 : List Loc), t.heap = H1 → s.vm.Alike t.vm → post r u → B u t → H.size ≤ H1.size → (∀ q : Nat, q < H.size → ¬ A1 q → H1[q]? = H[q]?) → va_S A0 H0 H1 locs1 → W p l e R s m args below meth c H1 locs1 (cells + mc) (slots + ms) Q (F0 m (pc + 3) ls (.int r :: rest))) : W p l e R s m args below meth c H locs cells slots Q (F0 m pc ls st0) := by
  intro T hT X
  rcases hr T hT X with ⟨v, st₀, t, T', L, h0, X', hL, e1, e2, ⟨⟨r, u, hv, hp, hb⟩, hF⟩, st⟩ | ⟨q, st₀, t, T', L, E, ce, h0, X', hL, e1, e2, ⟨u, hp, hb, hF⟩, hce, hcv, hcl, st⟩
  · cases hv
    obtain ⟨k1, k2, k3⟩ := vx_keep h0 e1 hS hA hf hL hF
    obtain ⟨t2, a1, b1⟩ := kk r u t T'.heap (locs ++ L) e1.symm (by rw [← e2]; exact X'.warmed.alike) hp hb k1 k2 k3 T' rfl X'
    exact ⟨t2, st t2 a1, b1⟩
  · obtain ⟨k1, k2, k3⟩ := vx_keep h0 e1 hS hAX hf hL hF
    obtain ⟨t2, a1, b1⟩ := kx E ce q u t T'.heap (locs ++ L) e1.symm (by rw [← e2]; exact X'.warmed.alike) hp hb k1 k2 k3 (by rw [e1]; exact hce) hcv hcl T' rfl X'
    exact ⟨t2, st.trans a1, b1⟩
theorem vx_calll {S SX : Type} {post : Int64 → S → Prop} {px : SX → Prop} {B : S → State → Prop} {BX : String → SX → State → Prop} {AX : Nat → Prop} (hr : vx_Run p l e R s m args below meth c H locs cells slots mc ms (F0 m pc ls st0) rest (va_Ql post B A1 a) (vx_X px BX AX) free) (hS : va_S A0 H0 H locs) (hA : ∀ q, q < H.size → A1 q → A0 q) (hf : ∀ q, free q → A0 q) (hAX : ∀ q, q < H.size → AX q → A0 q)
    (kx : ∀ (E : String) (ce : Cell) (q9 : Addr) (u : SX) (t : State) (H1 : Heap) (locs1 : List Loc), t.heap = H1 → s.vm.Alike t.vm → px u → BX E u t → H.size ≤ H1.size → (∀ q : Nat, q < H.size → ¬ AX q → H1[q]? = H[q]?) → va_S A0 H0 H1 locs1 → H1[q9]? = some ce → ce.vm = .none → s.vm.findClass E = some ce.cls → vx_W p l e R s m args below meth c H1 locs1 (cells + mc) (slots + ms) Q (F0 m pc ls rest) q9)
    (kk : ∀ (r : Int64) (u : S) (t : State) (H1 : Heap) (locs1 : List Loc), t.heap = H1 → s.vm.Alike t.vm → post r u → B u t → H.size ≤ H1.size → (∀ q : Nat, q < H.size → ¬ A1 q → H1[q]? = H[q]?) → va_S A0 H0 H1 locs1 → W p l e R s m args below meth c H1 locs1 (cells + mc) (slots + ms) Q (F0 m (pc + 3) ls (.long r :: rest))) : W p l e R s m args below meth c H locs cells slots Q (F0 m pc ls st0) := by
  intro T hT X
  rcases hr T hT X with ⟨v, st₀, t, T', L, h0, X', hL, e1, e2, ⟨⟨r, u, hv, hp, hb⟩, hF⟩, st⟩ | ⟨q, st₀, t, T', L, E, ce, h0, X', hL, e1, e2, ⟨u, hp, hb, hF⟩, hce, hcv, hcl, st⟩
  · cases hv
    obtain ⟨k1, k2, k3⟩ := vx_keep h0 e1 hS hA hf hL hF
    obtain ⟨t2, a1, b1⟩ := kk r u t T'.heap (locs ++ L) e1.symm (by rw [← e2]; exact X'.warmed.alike) hp hb k1 k2 k3 T' rfl X'
    exact ⟨t2, st t2 a1, b1⟩
  · obtain ⟨k1, k2, k3⟩ := vx_keep h0 e1 hS hAX hf hL hF
    obtain ⟨t2, a1, b1⟩ := kx E ce q u t T'.heap (locs ++ L) e1.symm (by rw [← e2]; exact X'.warmed.alike) hp hb k1 k2 k3 (by rw [e1]; exact hce) hcv hcl T' rfl X'
    exact ⟨t2, st.trans a1, b1⟩
theorem vx_callf {S SX : Type} {post : UInt32 → S → Prop} {px : SX → Prop} {B : S → State → Prop} {BX : String → SX → State → Prop} {AX : Nat → Prop} (hr : vx_Run p l e R s m args below meth c H locs cells slots mc ms (F0 m pc ls st0) rest (va_Qf post B A1 a) (vx_X px BX AX) free) (hS : va_S A0 H0 H locs) (hA : ∀ q, q < H.size → A1 q → A0 q) (hf : ∀ q, free q → A0 q) (hAX : ∀ q, q < H.size → AX q → A0 q)
    (kx : ∀ (E : String) (ce : Cell) (q9 : Addr) (u : SX) (t : State) (H1 : Heap) (locs1 : List Loc), t.heap = H1 → s.vm.Alike t.vm → px u → BX E u t → H.size ≤ H1.size → (∀ q : Nat, q < H.size → ¬ AX q → H1[q]? = H[q]?) → va_S A0 H0 H1 locs1 → H1[q9]? = some ce → ce.vm = .none → s.vm.findClass E = some ce.cls → vx_W p l e R s m args below meth c H1 locs1 (cells + mc) (slots + ms) Q (F0 m pc ls rest) q9)
    (kk : ∀ (r : UInt32) (u : S) (t : State) (H1 : Heap) (locs1 : List Loc), t.heap = H1 → s.vm.Alike t.vm → post r u → B u t → H.size ≤ H1.size → (∀ q : Nat, q < H.size → ¬ A1 q → H1[q]? = H[q]?) → va_S A0 H0 H1 locs1 → W p l e R s m args below meth c H1 locs1 (cells + mc) (slots + ms) Q (F0 m (pc + 3) ls (.float r :: rest))) : W p l e R s m args below meth c H locs cells slots Q (F0 m pc ls st0) := by
  intro T hT X
  rcases hr T hT X with ⟨v, st₀, t, T', L, h0, X', hL, e1, e2, ⟨⟨r, u, hv, hp, hb⟩, hF⟩, st⟩ | ⟨q, st₀, t, T', L, E, ce, h0, X', hL, e1, e2, ⟨u, hp, hb, hF⟩, hce, hcv, hcl, st⟩
  · cases hv
    obtain ⟨k1, k2, k3⟩ := vx_keep h0 e1 hS hA hf hL hF
    obtain ⟨t2, a1, b1⟩ := kk r u t T'.heap (locs ++ L) e1.symm (by rw [← e2]; exact X'.warmed.alike) hp hb k1 k2 k3 T' rfl X'
    exact ⟨t2, st t2 a1, b1⟩
  · obtain ⟨k1, k2, k3⟩ := vx_keep h0 e1 hS hAX hf hL hF
    obtain ⟨t2, a1, b1⟩ := kx E ce q u t T'.heap (locs ++ L) e1.symm (by rw [← e2]; exact X'.warmed.alike) hp hb k1 k2 k3 (by rw [e1]; exact hce) hcv hcl T' rfl X'
    exact ⟨t2, st.trans a1, b1⟩
theorem vx_calld {S SX : Type} {post : UInt64 → S → Prop} {px : SX → Prop} {B : S → State → Prop} {BX : String → SX → State → Prop} {AX : Nat → Prop} (hr : vx_Run p l e R s m args below meth c H locs cells slots mc ms (F0 m pc ls st0) rest (va_Qd post B A1 a) (vx_X px BX AX) free) (hS : va_S A0 H0 H locs) (hA : ∀ q, q < H.size → A1 q → A0 q) (hf : ∀ q, free q → A0 q) (hAX : ∀ q, q < H.size → AX q → A0 q)
    (kx : ∀ (E : String) (ce : Cell) (q9 : Addr) (u : SX) (t : State) (H1 : Heap) (locs1 : List Loc), t.heap = H1 → s.vm.Alike t.vm → px u → BX E u t → H.size ≤ H1.size → (∀ q : Nat, q < H.size → ¬ AX q → H1[q]? = H[q]?) → va_S A0 H0 H1 locs1 → H1[q9]? = some ce → ce.vm = .none → s.vm.findClass E = some ce.cls → vx_W p l e R s m args below meth c H1 locs1 (cells + mc) (slots + ms) Q (F0 m pc ls rest) q9)
    (kk : ∀ (r : UInt64) (u : S) (t : State) (H1 : Heap) (locs1 : List Loc), t.heap = H1 → s.vm.Alike t.vm → post r u → B u t → H.size ≤ H1.size → (∀ q : Nat, q < H.size → ¬ A1 q → H1[q]? = H[q]?) → va_S A0 H0 H1 locs1 → W p l e R s m args below meth c H1 locs1 (cells + mc) (slots + ms) Q (F0 m (pc + 3) ls (.double r :: rest))) : W p l e R s m args below meth c H locs cells slots Q (F0 m pc ls st0) := by
  intro T hT X
  rcases hr T hT X with ⟨v, st₀, t, T', L, h0, X', hL, e1, e2, ⟨⟨r, u, hv, hp, hb⟩, hF⟩, st⟩ | ⟨q, st₀, t, T', L, E, ce, h0, X', hL, e1, e2, ⟨u, hp, hb, hF⟩, hce, hcv, hcl, st⟩
  · cases hv
    obtain ⟨k1, k2, k3⟩ := vx_keep h0 e1 hS hA hf hL hF
    obtain ⟨t2, a1, b1⟩ := kk r u t T'.heap (locs ++ L) e1.symm (by rw [← e2]; exact X'.warmed.alike) hp hb k1 k2 k3 T' rfl X'
    exact ⟨t2, st t2 a1, b1⟩
  · obtain ⟨k1, k2, k3⟩ := vx_keep h0 e1 hS hAX hf hL hF
    obtain ⟨t2, a1, b1⟩ := kx E ce q u t T'.heap (locs ++ L) e1.symm (by rw [← e2]; exact X'.warmed.alike) hp hb k1 k2 k3 (by rw [e1]; exact hce) hcv hcl T' rfl X'
    exact ⟨t2, st.trans a1, b1⟩
theorem vx_callv {S SX : Type} {post : S → Prop} {px : SX → Prop} {B : S → State → Prop} {BX : String → SX → State → Prop} {AX : Nat → Prop} (hr : vx_Run p l e R s m args below meth c H locs cells slots mc ms (F0 m pc ls st0) rest (va_Qv post B A1 a) (vx_X px BX AX) free) (hS : va_S A0 H0 H locs) (hA : ∀ q, q < H.size → A1 q → A0 q) (hf : ∀ q, free q → A0 q) (hAX : ∀ q, q < H.size → AX q → A0 q)
    (kx : ∀ (E : String) (ce : Cell) (q9 : Addr) (u : SX) (t : State) (H1 : Heap) (locs1 : List Loc), t.heap = H1 → s.vm.Alike t.vm → px u → BX E u t → H.size ≤ H1.size → (∀ q : Nat, q < H.size → ¬ AX q → H1[q]? = H[q]?) → va_S A0 H0 H1 locs1 → H1[q9]? = some ce → ce.vm = .none → s.vm.findClass E = some ce.cls → vx_W p l e R s m args below meth c H1 locs1 (cells + mc) (slots + ms) Q (F0 m pc ls rest) q9)
    (kk : ∀ (u : S) (t : State) (H1 : Heap) (locs1 : List Loc), t.heap = H1 → s.vm.Alike t.vm → post u → B u t → H.size ≤ H1.size → (∀ q : Nat, q < H.size → ¬ A1 q → H1[q]? = H[q]?) → va_S A0 H0 H1 locs1 → W p l e R s m args below meth c H1 locs1 (cells + mc) (slots + ms) Q (F0 m (pc + 3) ls (rest))) : W p l e R s m args below meth c H locs cells slots Q (F0 m pc ls st0) := by
  intro T hT X
  rcases hr T hT X with ⟨v, st₀, t, T', L, h0, X', hL, e1, e2, ⟨⟨u, hv, hp, hb⟩, hF⟩, st⟩ | ⟨q, st₀, t, T', L, E, ce, h0, X', hL, e1, e2, ⟨u, hp, hb, hF⟩, hce, hcv, hcl, st⟩
  · cases hv
    obtain ⟨k1, k2, k3⟩ := vx_keep h0 e1 hS hA hf hL hF
    obtain ⟨t2, a1, b1⟩ := kk u t T'.heap (locs ++ L) e1.symm (by rw [← e2]; exact X'.warmed.alike) hp hb k1 k2 k3 T' rfl X'
    exact ⟨t2, st t2 a1, b1⟩
  · obtain ⟨k1, k2, k3⟩ := vx_keep h0 e1 hS hAX hf hL hF
    obtain ⟨t2, a1, b1⟩ := kx E ce q u t T'.heap (locs ++ L) e1.symm (by rw [← e2]; exact X'.warmed.alike) hp hb k1 k2 k3 (by rw [e1]; exact hce) hcv hcl T' rfl X'
    exact ⟨t2, st.trans a1, b1⟩
/-- caught by the row x of this method's table; the rows ahead don't take it -/
theorem vx_catch {own name : String} {E : String} {ce : Cell} {q : Addr} (hown : s.vm.findClass own = some m.cls) (pre : List ExceptionTableEntry) (x : ExceptionTableEntry) (suf : List ExceptionTableEntry) (hsplit : c.exceptionTable.toList = pre ++ x :: suf)
    (hpass : ∀ z ∈ pre, covers z pc = false ∨ (z.catchType ≠ 0 ∧ ∃ nm : String, (Cond.classLink own z.catchType nm).before args s = true ∧ va_Nc E nm s)) (hx : covers x pc = true) (h0 : x.catchType ≠ 0)
    (hlink : (Cond.classLink own x.catchType name).before args s = true) (hcast : (Cond.castable E name).before args s = true) (hcell : H[q]? = some ce) (hv : ce.vm = .none) (hcl : s.vm.findClass E = some ce.cls)
    (kk : W p l e R s m args below meth c H locs cells slots Q (F0 m x.handlerPc ls [.ref q])) : vx_W p l e R s m args below meth c H locs cells slots Q (F0 m pc ls rest) q := by
  intro T hT X
  have hpl : e.platform.magicAccessors = ({} : Platform).magicAccessors := by rw [X.admits.platform]
  obtain ⟨c3, c4, hc3, hc4, hasg⟩ := Cond.castable_spec hcast
  cases Option.some.inj (hc3.symm.trans hcl)
  obtain ⟨c5, hc5, hcl5⟩ := Cond.classLink_spec hown hlink e.platform hpl
  cases Option.some.inj (hc4.symm.trans hc5)
  obtain ⟨vm', X', st⟩ := X.thenCaughtThrough q (g := F0 m pc ls rest) rfl (Steps.refl _) (by rw [hT]; exact hcell) (by rw [hv]; rfl) (by obtain ⟨k9, h9, -⟩ := Vm.findClass_spec hcl; exact ⟨k9, h9⟩) pre x suf hsplit
    (fun z hz => by
      rcases hpass z hz with h | ⟨hz0, nm, hl1, hn1⟩
      · exact Or.inl h
      · obtain ⟨c6, hc6, hcl6⟩ := Cond.classLink_spec hown hl1 e.platform hpl
        obtain ⟨a8, b8, h1, h2, h3⟩ := hn1
        cases Option.some.inj (h1.symm.trans hcl)
        cases Option.some.inj (h2.symm.trans hc6)
        exact Or.inr ⟨hz0, _, hcl6, h3⟩) hx (Or.inr ⟨h0, c4, hcl5, hasg⟩)
  obtain ⟨t, a1, b1⟩ := kk (T.setVm vm') hT X'
  exact ⟨t, st.trans a1, b1⟩
end Rows
section Ends
variable {p : Program} {l : Launch} {e : Env} {R : Room} {s : State} {m : MethodId} {args : Array Value} {below : List Frame} {meth : Method} {c : Code} {H : Heap} {locs : List Loc} {cells slots : Nat} {Q : State → Prop}
variable {mc ms : Nat} {free : Addr → Prop} {A0 A1 : Nat → Prop} {H0 : Heap} {a : Array Value} {ls : Array Slot} {st0 rest : List Value}
variable {Qc : Array Value → State → Outcome → State → Prop} {XC : String → State → State → Prop}
/-- what a body that may throw owes at its end -/
def vx_MQ (below : List Frame) (Qc : Array Value → State → Outcome → State → Prop) (XC : String → State → State → Prop) (a : Array Value) (s : State) (mc ms : Nat) (free : Addr → Prop) : State → Prop := fun t =>
  ∃ o, t.status = .running ∧ Ended t below o ∧ vx_Q Qc XC mc ms free a s o t
theorem vx_ret {g : JFrame} {mc ms : Nat} (k : W p l e R s m args below meth c H locs cells slots (MQ below Qc args s mc ms free) g) : W p l e R s m args below meth c H locs cells slots (vx_MQ below Qc XC args s mc ms free) g := by
  intro T hT X
  obtain ⟨t, a1, o, b1, b2, b3, b4⟩ := k T hT X
  exact ⟨t, a1, o, b1, b2, Or.inl ⟨b3, b4⟩⟩
/-- not caught here: it goes on to the caller -/
theorem vx_widen {g : JFrame} {q : Addr} {k n : Nat} (h1 : cells ≤ k) (h2 : slots ≤ n) (kk : vx_W p l e R s m args below meth c H locs k n Q g q) : vx_W p l e R s m args below meth c H locs cells slots Q g q := fun T hT X => kk T hT (stand_widen X h1 h2)
theorem vx_out {pc : Nat} {E : String} {ce : Cell} {q : Addr} {mc ms : Nat} (hout : ∀ x ∈ c.exceptionTable.toList, covers x pc = false) (hlocks : meth.locks = false) (hcell : H[q]? = some ce) (hv : ce.vm = .none) (hcl : s.vm.findClass E = some ce.cls)
    (hx : ∀ t : State, t.heap = H → s.vm.Alike t.vm → XC E s t) (hf : ∀ z ∈ locs, free z.base) (hc : cells ≤ mc) (hs : slots ≤ ms) :
    vx_W p l e R s m args below meth c H locs cells slots (vx_MQ below Qc XC args s mc ms free) (F0 m pc ls rest) q := by
  intro T hT X
  obtain ⟨st1, hrun, hend, hW, hsm⟩ := X.leaveThrown q (g := F0 m pc ls rest) rfl rfl rfl hout hlocks
  have hcell9 : (T.setFrames (.throwing q :: below)).heap[q]? = some ce := by
    show T.heap[q]? = some ce
    rw [hT]; exact hcell
  exact ⟨_, st1, .threw q, hrun, hend, Or.inr ⟨q, rfl, E, ce, locs, hx _ hT hW.alike, hcell9, hv, hcl, hW, hsm.mono hc hs, hf⟩⟩
theorem vx_frame {U : State} {k n : Nat} (h : s.sameButNew ({ U with vm := s.vm } : State) locs k n) : s.heap.size ≤ U.heap.size ∧ ∀ q : Nat, q < s.heap.size → (∀ z ∈ locs, z.base ≠ q) → U.heap[q]? = s.heap[q]? := by
  obtain ⟨-, h2, -, -, -, h6⟩ := h
  refine ⟨h2, fun q hq hz => ?_⟩
  obtain ⟨c9, e1, e2, e3, e4⟩ := h6 q _ (Array.getElem?_eq_getElem hq)
  have hs : c9.slots = (s.heap[q]).slots := Array.ext_getElem? fun i => e4 i fun hm => hz _ hm rfl
  have h9 : c9 = s.heap[q] := by
    rw [hs] at e2
    exact e2
  have e5 : U.heap[q]? = some c9 := e1
  rw [e5, h9, Array.getElem?_eq_getElem hq]
/-- the words of a throw but the four that speak of the heap -/
def vx_no (w : Cond) : Bool := decide (w ≠ .isRef (.static Bundle.tN "UNASSIGNED_STACK" Bundle.steD)) && decide (w ≠ .isRef (.static Bundle.tN "SUPPRESSED_SENTINEL" Bundle.listD)) && decide (w ≠ .laysStatic Bundle.tN "UNASSIGNED_STACK" Bundle.steD) && decide (w ≠ .laysStatic Bundle.tN "SUPPRESSED_SENTINEL" Bundle.listD)
def vx_at0 (own : String) (ic : Nat) (X : String) (names : List String) : List Cond := (Bundle.ownAtoms0 own ic X names).filter vx_no
def vx_atS (own : String) (ic : Nat) (X : String) (names : List String) : List Cond := (Bundle.ownAtoms own ic X names).filter vx_no
/-- a word that the tables alone decide, or a good one -/
def vx_ot (w : Cond) : Bool := w.onTables || goodWord w
theorem vx_ot_at {args a' : Array Value} {s U : State} {w : Cond} (hW : s.WarmedH U.vm) (hvm : s.vm = U.vm) (hg : vx_ot w = true) (h : w.before args s = true) : w.before a' U = true := by
  simp only [vx_ot, Bool.or_eq_true] at hg
  rcases hg with hg | hg
  · exact va_tabs hg hvm h
  · exact word_at hW (good_of_word hg) h
/-- a list's words: the good ones out of the method's own list, the others by premises of their own -/
theorem vx_hat {args : Array Value} {s : State} {L B : List Cond} (h1 : ∀ w ∈ L.filter goodWord, w.before args s = true) (h2 : ∀ w ∈ L.filter (fun w => !goodWord w), w ∈ B) (h3 : ∀ w ∈ B, w.before args s = true) : ∀ w ∈ L, w.before args s = true := by
  intro w hw
  by_cases g : goodWord w = true
  · exact h1 w (List.mem_filter.mpr ⟨hw, g⟩)
  · refine h3 w (h2 w (List.mem_filter.mpr ⟨hw, ?_⟩))
    show (!goodWord w) = true
    cases hgw : goodWord w
    · rfl
    · exact absurd hgw g
theorem vx_c {args : Array Value} {s : State} {w : Cond} {B : List Cond} (h : w.before args s = true) (t : ∀ w ∈ B, w.before args s = true) : ∀ w' ∈ w :: B, w'.before args s = true := fun w' h' => (List.mem_cons.mp h').elim (fun e => by rw [e]; exact h) (t w')
theorem vx_n {args : Array Value} {s : State} : ∀ w ∈ ([] : List Cond), w.before args s = true := fun _ h => nomatch h
theorem vx_own {args : Array Value} {s : State} {L : List Cond} (h1 : ∀ w ∈ L.filter vx_no, w.before args s = true)
    (hU : (Cond.isRef (.static Bundle.tN "UNASSIGNED_STACK" Bundle.steD)).before args s = true) (hN : (Cond.isRef (.static Bundle.tN "SUPPRESSED_SENTINEL" Bundle.listD)).before args s = true)
    (lU : (Cond.laysStatic Bundle.tN "UNASSIGNED_STACK" Bundle.steD).before args s = true) (lN : (Cond.laysStatic Bundle.tN "SUPPRESSED_SENTINEL" Bundle.listD).before args s = true) : ∀ w ∈ L, w.before args s = true := by
  intro w hw
  by_cases e1 : w = .isRef (.static Bundle.tN "UNASSIGNED_STACK" Bundle.steD)
  · rw [e1]; exact hU
  · by_cases e2 : w = .isRef (.static Bundle.tN "SUPPRESSED_SENTINEL" Bundle.listD)
    · rw [e2]; exact hN
    · by_cases e3 : w = .laysStatic Bundle.tN "UNASSIGNED_STACK" Bundle.steD
      · rw [e3]; exact lU
      · by_cases e4 : w = .laysStatic Bundle.tN "SUPPRESSED_SENTINEL" Bundle.listD
        · rw [e4]; exact lN
        · exact h1 w (List.mem_filter.mpr ⟨hw, by unfold vx_no; rw [decide_eq_true e1, decide_eq_true e2, decide_eq_true e3, decide_eq_true e4]; rfl⟩)
/-- where a static field lies, its class's statics cell in H -/
def vx_L (C n d : String) (A : Nat → Prop) (U : State) (H : Heap) : Prop := ∃ (c : ClassId) (k : Class) (i : Nat) (f : Field) (a : Nat) (cell : Cell), U.vm.findClass C = some c ∧ U.fieldFound? C n d = some (c, k, i, f) ∧ f.isStatic = true ∧ k.statics = some a ∧ H[a]? = some cell ∧ cell.vm.isStatics = true ∧ cell.cls = c ∧ f.slot < cell.slots.size ∧ k.staticTypes[f.slot]? = some f.type ∧ ¬ A a
theorem vx_L.moved {C n d : String} {A : Nat → Prop} {u U : State} {H : Heap} (hvm : u.vm.Alike U.vm) (h : vx_L C n d A u H) : vx_L C n d A U H := by
  obtain ⟨c, k, i, f, a, cell, h1, h2, h3, h4, h5, h6, h7, h8, h9, h10⟩ := h
  obtain ⟨k', hi', he⟩ := State.fieldFound?_setVm hvm h2
  exact ⟨c, k', i, f, a, cell, by rw [hvm.findClass]; exact h1, hi', h3, by rw [he]; exact h4, h5, h6, h7, h8, by rw [he]; exact h9, h10⟩
theorem vx_L.kept {C n d : String} {A : Nat → Prop} {U : State} {H H1 : Heap} (h : vx_L C n d A U H) (hq : ∀ a : Nat, a < H.size → ¬ A a → H1[a]? = H[a]?) : vx_L C n d A U H1 := by
  obtain ⟨c, k, i, f, a, cell, h1, h2, h3, h4, h5, h6, h7, h8, h9, h10⟩ := h
  exact ⟨c, k, i, f, a, cell, h1, h2, h3, h4, by rw [hq a (Array.getElem?_eq_some_iff.mp h5).1 h10]; exact h5, h6, h7, h8, h9, h10⟩
theorem vx_L.narrow {C n d : String} {A B : Nat → Prop} {U : State} {H : Heap} (h : vx_L C n d A U H) (hAB : ∀ q, B q → A q) : vx_L C n d B U H := by
  obtain ⟨c, k, i, f, a, cell, h1, h2, h3, h4, h5, h6, h7, h8, h9, h10⟩ := h
  exact ⟨c, k, i, f, a, cell, h1, h2, h3, h4, h5, h6, h7, h8, h9, fun z => h10 (hAB _ z)⟩
theorem vx_L.word {C n d : String} {A : Nat → Prop} {s : State} {args : Array Value} (h : vx_L C n d A s s.heap) : (Cond.laysStatic C n d).before args s = true := by
  obtain ⟨c, k, i, f, a, cell, h1, h2, h3, h4, h5, h6, h7, h8, h9, -⟩ := h
  show (Cond.laysStatic C n d).holds args s none s [] = true
  exact Cond.laysStatic_of h1 h2 h3 h4 h5 h6 h7 h8 h9
/-- .. and what it holds: null or some reference -/
def vx_Zq (C n d : String) (A : Nat → Prop) (U : State) (H : Heap) : Prop := va_Zq C n d A U H ∧ vx_L C n d A U H
theorem vx_Zq.moved {C n d : String} {A : Nat → Prop} {u U : State} {H : Heap} (hvm : u.vm.Alike U.vm) (h : vx_Zq C n d A u H) : vx_Zq C n d A U H := ⟨va_Zq.moved hvm h.1, vx_L.moved hvm h.2⟩
theorem vx_Zq.kept {C n d : String} {A : Nat → Prop} {U : State} {H H1 : Heap} (h : vx_Zq C n d A U H) (hq : ∀ a : Nat, a < H.size → ¬ A a → H1[a]? = H[a]?) : vx_Zq C n d A U H1 := ⟨va_Zq.kept h.1 hq, vx_L.kept h.2 hq⟩
theorem vx_Zq.narrow {C n d : String} {A B : Nat → Prop} {U : State} {H : Heap} (h : vx_Zq C n d A U H) (hAB : ∀ q, B q → A q) : vx_Zq C n d B U H := ⟨va_Zq.narrow h.1 hAB, vx_L.narrow h.2 hAB⟩
theorem vx_Zqof {args : Array Value} {s : State} {C n d : String} {A : Nat → Prop} (hl : (Cond.laysStatic C n d).before args s = true) (hini : (Cond.initialized C).before args s = true) (h : (Cond.isRef (.static C n d)).before args s = true) (hA : ∀ a : Nat, a < s.heap.size → ¬ A a) : vx_Zq C n d A s s.heap := by
  refine ⟨va_Zqof hl hini h hA, ?_⟩
  obtain ⟨c, k, i, f, a, cell, h1, h2, h3, h4, h5, h6, h7, h8, h9⟩ := Cond.laysStatic_spec hl
  exact ⟨c, k, i, f, a, cell, h1, h2, h3, h4, h5, h6, h7, h8, h9, hA a (Array.getElem?_eq_some_iff.mp h5).1⟩
theorem vx_isRef {C n d : String} {v : Value} {A : Nat → Prop} {s : State} {args : Array Value} (h : va_Z C n d v A s s.heap) (hv : v.isRef = true) : (Cond.isRef (.static C n d)).before args s = true := by
  obtain ⟨cf, kf, fi, f, a, cell, h1, h2, h3, h4, h5, h6, h7, -⟩ := h
  have he : (Term.static C n d).eval args s none [] s = some v := by
    simp [Term.eval, State.fieldNamed?, h1, h2, h4, h5, h6, h7]
  simp only [Cond.before, Cond.holds, Cond.value, he]
  cases v <;> simp_all [Value.isRef]
theorem vx_isRefq {C n d : String} {A : Nat → Prop} {s : State} {args : Array Value} (h : va_Zq C n d A s s.heap) : (Cond.isRef (.static C n d)).before args s = true := by
  rcases h with h | ⟨t, h⟩
  · exact vx_isRef h rfl
  · exact vx_isRef h rfl
/-- the same frame, seen from here: as if the method were called anew in this heap -/
theorem vx_rebase {T : State} (X : Stand p l e R s m args below meth c T locs cells slots) {R' : Room} (hf : R'.frames ≤ R.frames) (hl : R'.locals ≤ R.locals) (hc : cells + R'.cells ≤ R.cells) (hs : slots + R'.slots ≤ R.slots) :
    Stand p l e R' ((T.setVm s.vm).setFrames (.invoking m args :: below)) m args below meth c T [] 0 0 := by
  have htop : (T.setVm s.vm).topJava?.isSome := X.here.top
  have hF : ((T.setVm s.vm).setFrames (.invoking m args :: below)).frames = .invoking m args :: below := State.frames_setFrames _ (State.cur_lt_of_top htop)
  obtain ⟨g₀, hg0⟩ := Option.isSome_iff_exists.mp htop
  obtain ⟨r, hr⟩ := State.topJava?_eq_some.mp hg0
  have hl9 : e.platform.stackLimits (T.setVm s.vm).me = e.platform.stackLimits s.me := X.limits
  have hb9 : (T.setVm s.vm).me.stackBytes = s.me.stackBytes := X.bytes
  refine ⟨X.admits, X.cas, X.clock, hF, ?_, X.hears, X.method, X.code, X.here, X.tail, X.warmed, ?_, ?_, ?_⟩
  · have h := X.room
    have hU : ((T.setVm s.vm).setFrames (.invoking m args :: below)).localsInUse = s.localsInUse := by
      rw [State.localsInUse_invoking hF (meth := meth) (c := c) X.method X.code, State.localsInUse_invoking X.frames X.method X.code]
    simp only [State.hasRoom, Bool.and_eq_true, decide_eq_true_eq] at h ⊢
    obtain ⟨⟨⟨⟨h1, h2, h3, h4, h5, h6⟩, h7⟩, h8⟩, h9⟩ := h
    rw [X.frames, List.length_cons] at h2 h3
    have q1 := X.heapSize
    have q2 := X.used
    simp only [hF, hU, List.length_cons, State.stackLimits_setFrames, State.stackBytes_setFrames, hl9, hb9]
    refine ⟨⟨⟨⟨by omega, by omega, by omega, by omega, by omega, h6⟩, ?_⟩, ?_⟩, X.book⟩
    · show T.heap.size + R'.cells ≤ e.platform.maxCells
      omega
    · show T.slotsUsed + R'.slots ≤ e.platform.maxSlots
      omega
  · rw [State.stackLimits_setFrames]; rfl
  · rw [State.stackBytes_setFrames]; rfl
  · refine ⟨?_, Nat.le_refl _, Nat.le_refl _, ?_, ?_, fun a c9 h9 => ⟨c9, h9, rfl, rfl, fun _ _ => rfl⟩⟩
    · obtain ⟨t, ht, -⟩ := State.frames_cons hr
      show T.setVm s.vm = { ((T.setVm s.vm).setFrames (.invoking m args :: below)).setFrames (T.setVm s.vm).frames with heap := T.heap, slotsUsed := T.slotsUsed }
      rw [State.setFrames_setFrames, State.setFrames_self ht]
      rfl
    · show T.slotsUsed = T.slotsUsed + ((T.heap.toList.drop T.heap.size).map (·.slots.size)).sum
      rw [List.drop_eq_nil_of_le (Nat.le_of_eq Array.length_toList)]
      rfl
    · show ((T.heap.toList.drop T.heap.size).map (·.slots.size)).sum ≤ 0
      rw [List.drop_eq_nil_of_le (Nat.le_of_eq Array.length_toList)]
      exact Nat.le_refl _
/-- 'throw new E()': new; dup; invokespecial; athrow -/
theorem vx_throw0 {cc : ByteArray} {pc : Nat} (hexec : p.tables.exec = Jvm.exec) (hb : c.code = cc) (hl : l.stackTraces = false) {own cls : String} {names : List String} {ik ic mc ms : Nat} {A : Nat → Prop}
    (hown : s.vm.findClass own = some m.cls) (hcls : Bundle.fit cls = true) (hnames : ∀ n ∈ names, Bundle.fit n = true)
    (hk : (Cond.classLink own ik cls).before args s = true) (hini : (Cond.initialized cls).before args s = true) (hat : ∀ w ∈ vx_at0 own ic cls names, w.before args s = true)
    (hgood : ∀ w ∈ Cond.classLink own ik cls :: Cond.initialized cls :: vx_at0 own ic cls names, vx_ot w = true)
    (hU : vx_Zq Bundle.tN "UNASSIGNED_STACK" Bundle.steD A s s.heap) (hN : vx_Zq Bundle.tN "SUPPRESSED_SENTINEL" Bundle.listD A s s.heap) (hS : va_S A s.heap H locs) (hsize : ls.size = c.maxLocals)
    (d0 : decode cc pc = .ok (.new ik, 3)) (d3 : decode cc (pc + 3) = .ok (.dup, 1)) (d4 : decode cc (pc + 4) = .ok (.invokespecial ic, 3)) (d7 : decode cc (pc + 7) = .ok (.athrow, 1))
    (hout : ∀ x ∈ c.exceptionTable.toList, covers x (pc + 7) = false)
    (hRframes : names.length + 3 < R.frames) (hRlocals : (rest.map fun v => v.category).sum + (13 * (names.length + 1) + 42) ≤ R.locals) (hRcells : cells + 1 ≤ R.cells) (hRslots : slots + 6 ≤ R.slots) (hlocks : meth.locks = false)
    (hx : ∀ t : State, s.vm.Alike t.vm → H.size ≤ t.heap.size → (∀ q : Nat, q < H.size → t.heap[q]? = H[q]?) → XC cls s t)
    (hf : ∀ z ∈ locs, free z.base) (hc : cells + 1 ≤ mc) (hs : slots + 6 ≤ ms) :
    W p l e R s m args below meth c H locs cells slots (vx_MQ below Qc XC args s mc ms free) (F0 m pc ls rest) := by
  intro T hT X
  have htr : e.platform.stackTraces = false := (show e.platform.stackTraces = l.stackTraces by rw [X.admits.platform]).trans hl
  have Y := vx_rebase X (R' := { frames := R.frames, locals := R.locals, cells := 1, slots := 6 }) (Nat.le_refl _) (Nat.le_refl _) hRcells hRslots
  obtain ⟨s', hA⟩ : ∃ z, z = (T.setVm s.vm).setFrames (.invoking m args :: below) := ⟨_, rfl⟩
  rw [← hA] at Y
  have hvm : s'.vm = s.vm := by rw [hA]; rfl
  have hhp : s'.heap = H := by rw [hA]; exact hT
  have hW0 : s.WarmedH s'.vm := by rw [hvm]; exact State.WarmedH.refl s
  have hat' : ∀ w ∈ vx_at0 own ic cls names, w.before args s' = true := fun w hw => vx_ot_at hW0 hvm.symm (hgood w (List.mem_cons_of_mem _ (List.mem_cons_of_mem _ hw))) (hat w hw)
  have hk' : (Cond.classLink own ik cls).before args s' = true := vx_ot_at hW0 hvm.symm (hgood _ List.mem_cons_self) hk
  have hini' : (Cond.initialized cls).before args s' = true := vx_ot_at hW0 hvm.symm (hgood _ (List.mem_cons_of_mem _ List.mem_cons_self)) hini
  have hU' : vx_Zq Bundle.tN "UNASSIGNED_STACK" Bundle.steD A s' s'.heap := by rw [hhp]; exact vx_Zq.moved hW0.alike (hU.kept hS.2.1)
  have hN' : vx_Zq Bundle.tN "SUPPRESSED_SENTINEL" Bundle.listD A s' s'.heap := by rw [hhp]; exact vx_Zq.moved hW0.alike (hN.kept hS.2.1)
  have h : ∀ w ∈ Bundle.ownAtoms0 own ic cls names, w.before args s' = true := vx_own hat' (vx_isRefq hU'.1) (vx_isRefq hN'.1) hU'.2.word hN'.2.word
  have hown' : s'.vm.findClass own = some m.cls := by rw [hvm]; exact hown
  have hins : (Cond.instantiable cls 6).before args s' = true := h _ (by simp [Bundle.ownAtoms0])
  obtain ⟨vm₁, cX, kX, hfX, hkX, -, -, X₁, st1⟩ := Y.newCold hexec (own := own) (C := cls) (index := ik) (n := 6) hown' hk' hins hini'
    (g := F0 m pc ls rest) rfl (by rw [hb]; exact d0) (Nat.le_refl _) (Nat.le_refl _)
  generalize hT1 : (T.setVm vm₁).pushCell { cls := cX, slots := kX.instanceTypes.map defaultValue, vm := .none } = T1 at X₁ st1
  have hcat : (Value.ref T.heap.size).category = 1 := rfl
  have hcellA : T1.heap[T.heap.size]? = some (freshCell cX kX) := by rw [← hT1]; exact State.heap_pushCell_size _ _
  have d3' : decode c.code (pc + 3) = .ok (.dup, 1) := by rw [hb]; exact d3
  obtain ⟨U, hsteps, hrun, hend, hW, hsame, ce, hce, hO⟩ := X₁.ctorThrow0 hexec htr (own := own) (cls := cls) (names := names) (ic := ic) hown' hcls hnames h (fun x hx => nomatch hx) hfX hkX hcellA (by rw [hhp, hT]; exact Nat.le_refl _)
    (g := { method := m, pc := pc + 4, locals := ls, stack := .ref T.heap.size :: .ref T.heap.size :: rest, locked := none }) rfl hsize rfl rfl (rest := rest) rfl
    (by rw [hb]; exact d4) (by rw [hb]; exact d7) hout hRframes (by simp only [List.map_cons, List.sum_cons, hcat]; omega) hlocks
  obtain ⟨f1, f2⟩ := vx_frame hsame
  rw [hhp] at f1 f2
  have hWs : s.WarmedH U.vm := State.WarmedH.trans hW0 hW
  have hcl : s.vm.findClass cls = some ce.cls := by
    have h9 := hO.cls
    rw [hvm] at h9
    exact h9
  have hall : s.sameButNew ({ U with vm := s.vm } : State) locs mc ms := by
    subst hA
    obtain ⟨e1, e2⟩ := hsame
    rw [State.setFrames_setFrames] at e1
    have h2 : (T.setVm s.vm).sameButNew ({ U with vm := s.vm } : State) [] (0 + 1) (0 + 6) := ⟨e1, e2⟩
    have h3 := X.same.trans h2
    rw [List.append_nil] at h3
    exact h3.mono hc hs
  refine ⟨U, ?_, .threw T.heap.size, hrun, hend, Or.inr ⟨T.heap.size, rfl, cls, ce, locs, hx U hWs.alike f1 (fun q hq => f2 q hq (fun z hz => nomatch hz)), hce, hO.vm, hcl, hWs, hall, hf⟩⟩
  refine st1 _ ?_
  show Steps p.tables e below (T1.setTop { method := m, pc := pc + 3, locals := ls, stack := .ref T.heap.size :: rest, locked := none }) _
  jvm_step X₁.here [X₁.here.top, hexec, d3', Value.category]
  exact hsteps
/-- 'throw new E("text")': new; dup; ldc; invokespecial; athrow -/
theorem vx_throwS {cc : ByteArray} {pc : Nat} (hexec : p.tables.exec = Jvm.exec) (hb : c.code = cc) (hl : l.stackTraces = false) {own cls text : String} {names : List String} {ik is ic mc ms sa : Nat} {A : Nat → Prop}
    (hown : s.vm.findClass own = some m.cls) (hcls : Bundle.fit cls = true) (hnames : ∀ n ∈ names, Bundle.fit n = true)
    (hk : (Cond.classLink own ik cls).before args s = true) (hini : (Cond.initialized cls).before args s = true) (hstr : vk_R own is text sa s) (hat : ∀ w ∈ vx_atS own ic cls names, w.before args s = true)
    (hgood : ∀ w ∈ Cond.classLink own ik cls :: Cond.initialized cls :: vx_atS own ic cls names, vx_ot w = true)
    (hU : vx_Zq Bundle.tN "UNASSIGNED_STACK" Bundle.steD A s s.heap) (hN : vx_Zq Bundle.tN "SUPPRESSED_SENTINEL" Bundle.listD A s s.heap) (hS : va_S A s.heap H locs) (hsize : ls.size = c.maxLocals)
    (d0 : decode cc pc = .ok (.new ik, 3)) (d3 : decode cc (pc + 3) = .ok (.dup, 1)) (d4 : decode cc (pc + 4) = .ok (.ldc is, 2)) (d6 : decode cc (pc + 6) = .ok (.invokespecial ic, 3)) (d9 : decode cc (pc + 9) = .ok (.athrow, 1))
    (hout : ∀ x ∈ c.exceptionTable.toList, covers x (pc + 9) = false)
    (hRframes : names.length + 3 < R.frames) (hRlocals : (rest.map fun v => v.category).sum + (13 * (names.length + 1) + 43) ≤ R.locals) (hRcells : cells + 1 ≤ R.cells) (hRslots : slots + 6 ≤ R.slots) (hlocks : meth.locks = false)
    (hx : ∀ t : State, s.vm.Alike t.vm → H.size ≤ t.heap.size → (∀ q : Nat, q < H.size → t.heap[q]? = H[q]?) → XC cls s t)
    (hf : ∀ z ∈ locs, free z.base) (hc : cells + 1 ≤ mc) (hs : slots + 6 ≤ ms) :
    W p l e R s m args below meth c H locs cells slots (vx_MQ below Qc XC args s mc ms free) (F0 m pc ls rest) := by
  intro T hT X
  have htr : e.platform.stackTraces = false := (show e.platform.stackTraces = l.stackTraces by rw [X.admits.platform]).trans hl
  have Y := vx_rebase X (R' := { frames := R.frames, locals := R.locals, cells := 1, slots := 6 }) (Nat.le_refl _) (Nat.le_refl _) hRcells hRslots
  obtain ⟨s', hA⟩ : ∃ z, z = (T.setVm s.vm).setFrames (.invoking m args :: below) := ⟨_, rfl⟩
  rw [← hA] at Y
  have hvm : s'.vm = s.vm := by rw [hA]; rfl
  have hhp : s'.heap = H := by rw [hA]; exact hT
  have hW0 : s.WarmedH s'.vm := by rw [hvm]; exact State.WarmedH.refl s
  have hat' : ∀ w ∈ vx_atS own ic cls names, w.before args s' = true := fun w hw => vx_ot_at hW0 hvm.symm (hgood w (List.mem_cons_of_mem _ (List.mem_cons_of_mem _ hw))) (hat w hw)
  have hk' : (Cond.classLink own ik cls).before args s' = true := vx_ot_at hW0 hvm.symm (hgood _ List.mem_cons_self) hk
  have hini' : (Cond.initialized cls).before args s' = true := vx_ot_at hW0 hvm.symm (hgood _ (List.mem_cons_of_mem _ List.mem_cons_self)) hini
  have hU' : vx_Zq Bundle.tN "UNASSIGNED_STACK" Bundle.steD A s' s'.heap := by rw [hhp]; exact vx_Zq.moved hW0.alike (hU.kept hS.2.1)
  have hN' : vx_Zq Bundle.tN "SUPPRESSED_SENTINEL" Bundle.listD A s' s'.heap := by rw [hhp]; exact vx_Zq.moved hW0.alike (hN.kept hS.2.1)
  have h : ∀ w ∈ Bundle.ownAtoms own ic cls names, w.before args s' = true := vx_own hat' (vx_isRefq hU'.1) (vx_isRefq hN'.1) hU'.2.word hN'.2.word
  have hown' : s'.vm.findClass own = some m.cls := by rw [hvm]; exact hown
  have hins : (Cond.instantiable cls 6).before args s' = true := h _ (by simp [Bundle.ownAtoms])
  obtain ⟨vm₁, cX, kX, hfX, hkX, -, -, X₁, st1⟩ := Y.newCold hexec (own := own) (C := cls) (index := ik) (n := 6) hown' hk' hins hini'
    (g := F0 m pc ls rest) rfl (by rw [hb]; exact d0) (Nat.le_refl _) (Nat.le_refl _)
  generalize hT1 : (T.setVm vm₁).pushCell { cls := cX, slots := kX.instanceTypes.map defaultValue, vm := .none } = T1 at X₁ st1
  have hcat : (Value.ref T.heap.size).category = 1 := rfl
  have hcellA : T1.heap[T.heap.size]? = some (freshCell cX kX) := by rw [← hT1]; exact State.heap_pushCell_size _ _
  have d3' : decode c.code (pc + 3) = .ok (.dup, 1) := by rw [hb]; exact d3
  have d4' : decode c.code (pc + 4) = .ok (.ldc is, 2) := by rw [hb]; exact d4
  have hstr' : vk_R own is text sa s' := vk_R.warm hW0 hstr
  obtain ⟨U, hsteps, hrun, hend, hW, hsame, ce, hce, hO⟩ := X₁.ctorThrowS hexec htr (own := own) (cls := cls) (names := names) (ic := ic) hown' hcls hnames h (fun x hx => nomatch hx) hfX hkX hcellA (by rw [hhp, hT]; exact Nat.le_refl _) (msg := .ref sa) rfl
    (g := { method := m, pc := pc + 6, locals := ls, stack := .ref sa :: .ref T.heap.size :: .ref T.heap.size :: rest, locked := none }) rfl hsize rfl rfl (rest := rest) rfl
    (by rw [hb]; exact d6) (by rw [hb]; exact d9) hout hRframes (by simp only [List.map_cons, List.sum_cons, hcat]; omega) hlocks
  obtain ⟨f1, f2⟩ := vx_frame hsame
  rw [hhp] at f1 f2
  have hWs : s.WarmedH U.vm := State.WarmedH.trans hW0 hW
  have hcl : s.vm.findClass cls = some ce.cls := by
    have h9 := hO.cls
    rw [hvm] at h9
    exact h9
  have hall : s.sameButNew ({ U with vm := s.vm } : State) locs mc ms := by
    subst hA
    obtain ⟨e1, e2⟩ := hsame
    rw [State.setFrames_setFrames] at e1
    have h2 : (T.setVm s.vm).sameButNew ({ U with vm := s.vm } : State) [] (0 + 1) (0 + 6) := ⟨e1, e2⟩
    have h3 := X.same.trans h2
    rw [List.append_nil] at h3
    exact h3.mono hc hs
  refine ⟨U, ?_, .threw T.heap.size, hrun, hend, Or.inr ⟨T.heap.size, rfl, cls, ce, locs, hx U hWs.alike f1 (fun q hq => f2 q hq (fun z hz => nomatch hz)), hce, hO.vm, hcl, hWs, hall, hf⟩⟩
  refine st1 _ ?_
  show Steps p.tables e below (T1.setTop { method := m, pc := pc + 3, locals := ls, stack := .ref T.heap.size :: rest, locked := none }) _
  jvm_step X₁.here [X₁.here.top, hexec, d3', Value.category]
  exact X₁.ldcString hexec (own := own) (text := text) (index := is) (a := sa) hown' hstr'.1 hstr'.2
    (g := { method := m, pc := pc + 4, locals := ls, stack := .ref T.heap.size :: .ref T.heap.size :: rest, locked := none }) rfl d4' _ hsteps
/-- 'throw new E("text")', the text by a wide index -/
theorem vx_throwSW {cc : ByteArray} {pc : Nat} (hexec : p.tables.exec = Jvm.exec) (hb : c.code = cc) (hl : l.stackTraces = false) {own cls text : String} {names : List String} {ik is ic mc ms sa : Nat} {A : Nat → Prop}
    (hown : s.vm.findClass own = some m.cls) (hcls : Bundle.fit cls = true) (hnames : ∀ n ∈ names, Bundle.fit n = true)
    (hk : (Cond.classLink own ik cls).before args s = true) (hini : (Cond.initialized cls).before args s = true) (hstr : vk_R own is text sa s) (hat : ∀ w ∈ vx_atS own ic cls names, w.before args s = true)
    (hgood : ∀ w ∈ Cond.classLink own ik cls :: Cond.initialized cls :: vx_atS own ic cls names, vx_ot w = true)
    (hU : vx_Zq Bundle.tN "UNASSIGNED_STACK" Bundle.steD A s s.heap) (hN : vx_Zq Bundle.tN "SUPPRESSED_SENTINEL" Bundle.listD A s s.heap) (hS : va_S A s.heap H locs) (hsize : ls.size = c.maxLocals)
    (d0 : decode cc pc = .ok (.new ik, 3)) (d3 : decode cc (pc + 3) = .ok (.dup, 1)) (d4 : decode cc (pc + 4) = .ok (.ldc_w is, 3)) (d7 : decode cc (pc + 7) = .ok (.invokespecial ic, 3)) (d10 : decode cc (pc + 10) = .ok (.athrow, 1))
    (hout : ∀ x ∈ c.exceptionTable.toList, covers x (pc + 10) = false)
    (hRframes : names.length + 3 < R.frames) (hRlocals : (rest.map fun v => v.category).sum + (13 * (names.length + 1) + 43) ≤ R.locals) (hRcells : cells + 1 ≤ R.cells) (hRslots : slots + 6 ≤ R.slots) (hlocks : meth.locks = false)
    (hx : ∀ t : State, s.vm.Alike t.vm → H.size ≤ t.heap.size → (∀ q : Nat, q < H.size → t.heap[q]? = H[q]?) → XC cls s t)
    (hf : ∀ z ∈ locs, free z.base) (hc : cells + 1 ≤ mc) (hs : slots + 6 ≤ ms) :
    W p l e R s m args below meth c H locs cells slots (vx_MQ below Qc XC args s mc ms free) (F0 m pc ls rest) := by
  intro T hT X
  have htr : e.platform.stackTraces = false := (show e.platform.stackTraces = l.stackTraces by rw [X.admits.platform]).trans hl
  have Y := vx_rebase X (R' := { frames := R.frames, locals := R.locals, cells := 1, slots := 6 }) (Nat.le_refl _) (Nat.le_refl _) hRcells hRslots
  obtain ⟨s', hA⟩ : ∃ z, z = (T.setVm s.vm).setFrames (.invoking m args :: below) := ⟨_, rfl⟩
  rw [← hA] at Y
  have hvm : s'.vm = s.vm := by rw [hA]; rfl
  have hhp : s'.heap = H := by rw [hA]; exact hT
  have hW0 : s.WarmedH s'.vm := by rw [hvm]; exact State.WarmedH.refl s
  have hat' : ∀ w ∈ vx_atS own ic cls names, w.before args s' = true := fun w hw => vx_ot_at hW0 hvm.symm (hgood w (List.mem_cons_of_mem _ (List.mem_cons_of_mem _ hw))) (hat w hw)
  have hk' : (Cond.classLink own ik cls).before args s' = true := vx_ot_at hW0 hvm.symm (hgood _ List.mem_cons_self) hk
  have hini' : (Cond.initialized cls).before args s' = true := vx_ot_at hW0 hvm.symm (hgood _ (List.mem_cons_of_mem _ List.mem_cons_self)) hini
  have hU' : vx_Zq Bundle.tN "UNASSIGNED_STACK" Bundle.steD A s' s'.heap := by rw [hhp]; exact vx_Zq.moved hW0.alike (hU.kept hS.2.1)
  have hN' : vx_Zq Bundle.tN "SUPPRESSED_SENTINEL" Bundle.listD A s' s'.heap := by rw [hhp]; exact vx_Zq.moved hW0.alike (hN.kept hS.2.1)
  have h : ∀ w ∈ Bundle.ownAtoms own ic cls names, w.before args s' = true := vx_own hat' (vx_isRefq hU'.1) (vx_isRefq hN'.1) hU'.2.word hN'.2.word
  have hown' : s'.vm.findClass own = some m.cls := by rw [hvm]; exact hown
  have hins : (Cond.instantiable cls 6).before args s' = true := h _ (by simp [Bundle.ownAtoms])
  obtain ⟨vm₁, cX, kX, hfX, hkX, -, -, X₁, st1⟩ := Y.newCold hexec (own := own) (C := cls) (index := ik) (n := 6) hown' hk' hins hini'
    (g := F0 m pc ls rest) rfl (by rw [hb]; exact d0) (Nat.le_refl _) (Nat.le_refl _)
  generalize hT1 : (T.setVm vm₁).pushCell { cls := cX, slots := kX.instanceTypes.map defaultValue, vm := .none } = T1 at X₁ st1
  have hcat : (Value.ref T.heap.size).category = 1 := rfl
  have hcellA : T1.heap[T.heap.size]? = some (freshCell cX kX) := by rw [← hT1]; exact State.heap_pushCell_size _ _
  have d3' : decode c.code (pc + 3) = .ok (.dup, 1) := by rw [hb]; exact d3
  have d4' : decode c.code (pc + 4) = .ok (.ldc_w is, 3) := by rw [hb]; exact d4
  have hstr' : vk_R own is text sa s' := vk_R.warm hW0 hstr
  obtain ⟨U, hsteps, hrun, hend, hW, hsame, ce, hce, hO⟩ := X₁.ctorThrowS hexec htr (own := own) (cls := cls) (names := names) (ic := ic) hown' hcls hnames h (fun x hx => nomatch hx) hfX hkX hcellA (by rw [hhp, hT]; exact Nat.le_refl _) (msg := .ref sa) rfl
    (g := { method := m, pc := pc + 7, locals := ls, stack := .ref sa :: .ref T.heap.size :: .ref T.heap.size :: rest, locked := none }) rfl hsize rfl rfl (rest := rest) rfl
    (by rw [hb]; exact d7) (by rw [hb]; exact d10) hout hRframes (by simp only [List.map_cons, List.sum_cons, hcat]; omega) hlocks
  obtain ⟨f1, f2⟩ := vx_frame hsame
  rw [hhp] at f1 f2
  have hWs : s.WarmedH U.vm := State.WarmedH.trans hW0 hW
  have hcl : s.vm.findClass cls = some ce.cls := by
    have h9 := hO.cls
    rw [hvm] at h9
    exact h9
  have hall : s.sameButNew ({ U with vm := s.vm } : State) locs mc ms := by
    subst hA
    obtain ⟨e1, e2⟩ := hsame
    rw [State.setFrames_setFrames] at e1
    have h2 : (T.setVm s.vm).sameButNew ({ U with vm := s.vm } : State) [] (0 + 1) (0 + 6) := ⟨e1, e2⟩
    have h3 := X.same.trans h2
    rw [List.append_nil] at h3
    exact h3.mono hc hs
  refine ⟨U, ?_, .threw T.heap.size, hrun, hend, Or.inr ⟨T.heap.size, rfl, cls, ce, locs, hx U hWs.alike f1 (fun q hq => f2 q hq (fun z hz => nomatch hz)), hce, hO.vm, hcl, hWs, hall, hf⟩⟩
  refine st1 _ ?_
  show Steps p.tables e below (T1.setTop { method := m, pc := pc + 3, locals := ls, stack := .ref T.heap.size :: rest, locked := none }) _
  jvm_step X₁.here [X₁.here.top, hexec, d3', Value.category]
  exact X₁.ldcStringW hexec (own := own) (text := text) (index := is) (a := sa) hown' hstr'.1 hstr'.2
    (g := { method := m, pc := pc + 4, locals := ls, stack := .ref T.heap.size :: .ref T.heap.size :: rest, locked := none }) rfl d4' _ hsteps
end Ends
section Bodies
variable {l : Launch}
theorem vx_ofW {y : MethodName} {ws ws' : List Cond} {rm : Room} {Pc : Array Value → State → Prop} {Qc : Array Value → State → Outcome → State → Prop} {XC : String → State → State → Prop} {mc ms : Nat} {free : Addr → Prop} {cc : ByteArray} {maxL : Nat} {ret : Option FieldType}
    (hy : plainName y.cls = true) (hw : ws = Cond.code y cc maxL ret :: ws')
    (body : ∀ p e s m args below meth c s₁, BodyLoose p l y (headSpec ws rm) cc maxL ret e s m args below meth c s₁ → c.maxLocals = maxL → (∀ x ∈ c.exceptionTable.toList, False) → Pc args s →
      W p l e (headSpec ws rm).room s m args below meth c s.heap [] 0 0 (vx_MQ below Qc XC args s mc ms free) (entryFrame m args maxL)) : vx_Met l y ws rm Pc Qc XC mc ms free := by
  refine MetFree.of_bodyS (code := cc) (maxLocals := maxL) (ret := ret) hy ?_ ?_
  · intro args s m h hn
    obtain ⟨meth, c, h1, h2, h3, h4, h5, h6, -, -⟩ := Cond.code_spec hn (atoms_spec (ws := ws) h _ (by rw [hw]; exact List.mem_cons_self))
    exact ⟨meth, c, h1, h2, h3, h4, h5, h6⟩
  · intro p e s m args below meth c s₁ B hml hP _
    have hh0 : s₁.heap = s.heap := by rw [B.state]; rfl
    have ht : ∀ x ∈ c.exceptionTable.toList, False := by
      obtain ⟨meth9, c9, h1, h2, -, -, -, -, h7, -⟩ := Cond.code_spec B.named (atoms_spec (ws := ws) B.pre _ (by rw [hw]; exact List.mem_cons_self))
      cases Option.some.inj (h1.symm.trans B.method)
      cases Option.some.inj (h2.symm.trans (Stand.of_body B).code)
      intro x hx
      rw [Array.isEmpty_iff.mp h7] at hx
      cases hx
    obtain ⟨t, a1, o, b1, b2, b3⟩ := body p e s m args below meth c s₁ B hml ht hP s₁ hh0 (Stand.of_body B)
    exact ⟨t, o, a1, b1, b2, b3⟩
/-- the table of a body with handlers -/
theorem vx_table {p : Program} {x y : MethodName} {S : Spec} {cc bytes : ByteArray} {maxL maxL' : Nat} {ret ret' : Option FieldType} {e : Env} {s s₁ : State} {m : MethodId} {args : Array Value} {below : List Frame} {meth : Method} {c : Code} {hh : List (Nat × Nat × Nat × Nat)}
    (B : BodyLoose p l y S cc maxL ret e s m args below meth c s₁) (h : (Cond.codeWith y bytes maxL' ret' hh).before args s = true) : c.exceptionTable.toList = tableOf hh := by
  obtain ⟨m9, meth9, c9, hn9, h1, h2, -, -, h6, -⟩ := Cond.codeWith_spec h
  cases Option.some.inj (hn9.symm.trans B.named)
  cases Option.some.inj (h1.symm.trans B.method)
  cases Option.some.inj (h2.symm.trans (Stand.of_body B).code)
  rw [← h6, table_eq]
end Bodies
end VXA
/-! ===== END ===== -/
/-! ===== BEGIN a static call of a method with an exception table ===== -/
section VXS
variable {p : Program} {l : Launch} {e : Env} {R : Room} {s : State} {m : MethodId} {args : Array Value} {below : List Frame} {meth : Method} {c : Code} {T : State} {H : Heap} {locs : List Loc} {cells slots : Nat}
abbrev vx_CSW (R : Room) (s : State) (args : Array Value) (own : String) (index : Nat) (y : MethodName) (bytes : ByteArray) (maxL : Nat) (ret : Option FieldType) (hh : List (Nat × Nat × Nat × Nat)) (ws : List Cond) (rm : Room) (mc ms n : Nat) : Prop :=
  (rm.cells = mc ∧ rm.slots = ms ∧ rm.frames + 1 ≤ R.frames ∧ 8 + (maxL + 11) + rm.locals ≤ R.locals ∧ (∀ w ∈ ws, ∀ (a' : Array Value) (U : State), s.WarmedH U.vm → w.before a' U = true) ∧ Cond.codeWith y bytes maxL ret hh ∈ ws) ∧
  (Cond.codeWith y bytes maxL ret hh).before args s = true ∧ (Cond.initialized y.cls).before args s = true ∧ (y.cls ≠ "java/lang/invoke/MethodHandle" ∧ y.cls ≠ "java/lang/invoke/VarHandle") ∧
  (∀ sig, parseMethodDescriptor y.desc = some sig → n = sig.parameters.length) ∧ (Cond.methodLink own index y).before args s = true ∧ (Cond.static y).before args s = true
theorem vx_cwSW {own : String} {index maxL mc ms : Nat} {y : MethodName} {bytes : ByteArray} {ret : Option FieldType} {hh : List (Nat × Nat × Nat × Nat)} {Ts ws ws' : List Cond} {rm : Room} (n : Nat) (ht : ∀ w ∈ Ts, w.before args s = true) (hT : GoodIn Ts (va_wsS own index y ws)) (hw : ws = Cond.codeWith y bytes maxL ret hh :: ws') (hrc : rm.cells = mc) (hrs : rm.slots = ms)
    (hd : y.cls ≠ "java/lang/invoke/MethodHandle" ∧ y.cls ≠ "java/lang/invoke/VarHandle" ∧ (parseMethodDescriptor y.desc).map (fun d => d.parameters.length) = some n) (hR : rm.frames + 1 ≤ R.frames ∧ 8 + (maxL + 11) + rm.locals ≤ R.locals) :
    vx_CSW R s args own index y bytes maxL ret hh ws rm mc ms n := by
  have ok : ∀ w ∈ va_wsS own index y ws, w.before args s = true := fun w h => ht w (hT w h).1
  have hG : GoodIn Ts ws := fun w h => hT w (by unfold va_wsS; exact List.mem_append_right _ h)
  have hc : Cond.codeWith y bytes maxL ret hh ∈ ws := by rw [hw]; exact List.mem_cons_self
  refine ⟨⟨hrc, hrs, hR.1, hR.2, pay_in ht hG, hc⟩, ht _ (hG _ hc).1, ok _ (by simp [va_wsS]), ⟨hd.1, hd.2.1⟩, fun sig h => ?_, ok _ (by simp [va_wsS]), ok _ (by simp [va_wsS])⟩
  have h2 := hd.2.2
  rw [h] at h2
  exact (Option.some.inj h2).symm
theorem vx_callSW (X : Stand p l e R s m args below meth c T locs cells slots) (hexec : p.tables.exec = Jvm.exec) {own : String} {index : Nat} {y : MethodName} {bytes : ByteArray} {maxL : Nat} {ret : Option FieldType} {hh : List (Nat × Nat × Nat × Nat)}
    (hown : s.vm.findClass own = some m.cls) (hlink : (Cond.methodLink own index y).before args s = true) (hstat : (Cond.static y).before args s = true) (hinit : (Cond.initialized y.cls).before args s = true)
    (hcode : (Cond.codeWith y bytes maxL ret hh).before args s = true) (hy : y.cls ≠ "java/lang/invoke/MethodHandle" ∧ y.cls ≠ "java/lang/invoke/VarHandle")
    {W9 : Nat} {Pre : Pt → Array Value → Prop} {Post : Pt → Array Value → Option Value → Pt → Prop} (hK : Back l R p e below s args y 3 W9 Pre Post)
    {g : JFrame} (hg : g.method = m) (hsize : g.locals.size = c.maxLocals) {argsL rest : List Value} (hlen : ∀ sig, parseMethodDescriptor y.desc = some sig → argsL.length = sig.parameters.length)
    (hstack : g.stack = argsL.reverse ++ rest) (hW : 2 * g.monitorRoom + (rest.map fun v => v.category).sum ≤ W9) (hdg : decode c.code g.pc = .ok (.invokestatic index, 3))
    (hpre : ∀ vm₁, s.WarmedH vm₁ → Pre ⟨T.setVm vm₁, locs, cells, slots⟩ argsL.toArray) :
    ∃ (v : Option Value) (vm₁ : Vm) (B : Pt), s.WarmedH vm₁ ∧ Stand p l e R s m args below meth c B.U B.locs B.cells B.slots ∧ Post ⟨T.setVm vm₁, locs, cells, slots⟩ argsL.toArray v B ∧
      ∀ target, Steps p.tables e below (B.U.setTop { g with pc := g.pc + 3, stack := v.toList ++ rest }) target → Steps p.tables e below (T.setTop g) target := by
  obtain ⟨mk, methM, cM, hnamed, hmethM, -, -, -, -, -, -, hsigM⟩ := Cond.codeWith_spec hcode
  have hstatic : methM.isStatic = true := Cond.static_spec hnamed hmethM hstat
  obtain ⟨kP, hkP, -⟩ := className_of_methodNamed hnamed
  have hinitP : kP.init = .initialized := Cond.initialized_spec (findClass_of_methodNamed hnamed) hkP hinit
  obtain ⟨vm₁, X₁, hstep₁⟩ := X.invokestatic hexec hown hlink hnamed hmethM hstatic hkP hinitP hy (g := g) hg (argsL := argsL) (rest := rest) (hlen _ hsigM) hstack hdg
  obtain ⟨v, B, X', hpost, hsteps⟩ := hK m meth c ⟨T.setVm vm₁, locs, cells, slots⟩ { g with stack := rest } (.invokestatic index) mk argsL.toArray X₁ hg hsize hdg hW (X₁.named hnamed) (hpre vm₁ X₁.warmed)
  exact ⟨v, vm₁, B, X₁.warmed, X', hpost, fun target h => hstep₁ _ fun acts => by rw [doInvoke_state]; exact hsteps.trans h⟩
theorem vx_runSW {y : MethodName} {bytes cc : ByteArray} {maxL nL mc ms n index : Nat} {ret : Option FieldType} {hh : List (Nat × Nat × Nat × Nat)} {ws : List Cond} {rm : Room} {Pc : Array Value → State → Prop} {Qc : Array Value → State → Outcome → State → Prop} {free : Addr → Prop} {Ts : List Cond} {own : String} {As rest : List Value} {g : JFrame}
    (S : CallFix p m c cc nL s args Ts own) (hM : Met l y ws rm Pc Qc mc ms free) (cw : vx_CSW R s args own index y bytes maxL ret hh ws rm mc ms n) (hp : PreS s H Pc As)
    (hg : g.method = m) (hn : As.length = n) (hsize : g.locals.size = nL) (hstack : g.stack = As.reverse ++ rest) (hW : 2 * g.monitorRoom + (rest.map fun v => v.category).sum ≤ 8) (hdg : decode cc g.pc = .ok (.invokestatic index, 3)) (hf : cells + mc ≤ R.cells ∧ slots + ms ≤ R.slots) :
    va_Run p l e R s m args below meth c H locs cells slots mc ms g rest (Qc As.toArray) (free) := by
  obtain ⟨⟨hrc, hrs, hfr, hlo, hws, hcw⟩, hcode, hini, hy, hlen, hl, hstt⟩ := cw
  have hK : Back l R p e below s args y 3 8 (PreOf R mc ms Pc) (PostOf Qc mc ms free) := va_backW (hh := hh) (bytes := bytes) (maxL := maxL) (ret := ret) hM hp.1 hrc hrs hfr hlo hws hcw (fun a' U hW => word_at hW (Or.inl (by first | rfl | simp [Cond.onTables, Cond.keeps, Cond.steady])) hini)
  obtain ⟨hx, hb, hml, ho, -⟩ := S
  intro T hT X
  obtain ⟨v, vm₁, ⟨U', l2, c2, s2⟩, hW₁, X', ⟨g', mk, t, L, e1, e2, hq, h1, hL, h2, h3⟩, st⟩ := vx_callSW X hx (hh := hh) (bytes := bytes) (maxL := maxL) (ret := ret) ho hl hstt hini hcode hy hK hg (hsize.trans hml.symm) (argsL := As) (rest := rest) (fun sig h => hn.trans (hlen sig h)) hstack hW (by rw [hb]; exact hdg)
    (fun vm₁ hW₁ => ⟨hf.1, hf.2, hp.2 (T.setVm vm₁) hT hW₁⟩)
  dsimp only [Pt.U, Pt.locs, Pt.cells, Pt.slots] at X' e1 e2 h1 h2 h3 st
  subst h1; subst h2; subst h3
  exact ⟨v, (T.setVm vm₁).calling g' mk As.toArray, t, U', L, hT, X', hL, e1, e2, hq, st⟩
/-- not caught here, past rows that name other classes: it goes on to the caller -/
theorem vx_outP {p : Program} {l : Launch} {e : Env} {R : Room} {s : State} {m : MethodId} {args : Array Value} {below : List Frame} {meth : Method} {c : Code} {H : Heap} {locs : List Loc} {cells slots : Nat} {free : Addr → Prop} {ls : Array Slot} {rest : List Value} {Qc : Array Value → State → Outcome → State → Prop} {XC : String → State → State → Prop}
    {pc : Nat} {own E : String} {ce : Cell} {q : Addr} {mc ms : Nat} (hown : s.vm.findClass own = some m.cls) (hlocks : meth.locks = false)
    (hpass : ∀ z ∈ c.exceptionTable.toList, covers z pc = false ∨ (z.catchType ≠ 0 ∧ ∃ nm : String, (Cond.classLink own z.catchType nm).before args s = true ∧ va_Nc E nm s)) (hcell : H[q]? = some ce) (hv : ce.vm = .none) (hcl : s.vm.findClass E = some ce.cls)
    (hx : ∀ t : State, t.heap = H → s.vm.Alike t.vm → XC E s t) (hf : ∀ z ∈ locs, free z.base) (hc : cells ≤ mc) (hs : slots ≤ ms) :
    vx_W p l e R s m args below meth c H locs cells slots (vx_MQ below Qc XC args s mc ms free) (F0 m pc ls rest) q := by
  intro T hT X
  have hpl : e.platform.magicAccessors = ({} : Platform).magicAccessors := by rw [X.admits.platform]
  obtain ⟨vm', hW', X', st⟩ := X.outThrough hlocks q (g := F0 m pc ls rest) rfl rfl rfl (cell := ce) (by rw [hT]; exact hcell) (by rw [hv]; rfl)
    (by obtain ⟨k9, h9, -⟩ := Vm.findClass_spec hcl; exact ⟨k9, h9⟩) (fun z hz => by
      rcases hpass z hz with h | ⟨hz0, nm, hl1, hn1⟩
      · exact Or.inl h
      · obtain ⟨c6, hc6, hcl6⟩ := Cond.classLink_spec hown hl1 e.platform hpl
        obtain ⟨a8, b8, h1, h2, h3⟩ := hn1
        cases Option.some.inj (h1.symm.trans hcl)
        cases Option.some.inj (h2.symm.trans hc6)
        exact Or.inr ⟨hz0, _, hcl6, h3⟩)
  obtain ⟨g₀, hfr⟩ := X'.frames_eq
  have hcell9 : ((T.setVm vm').setFrames (.throwing q :: below)).heap[q]? = some ce := by
    show T.heap[q]? = some ce
    rw [hT]; exact hcell
  have hend : Ended ((T.setVm vm').setFrames (.throwing q :: below)) below (.threw q) := State.frames_setFrames _ (State.cur_lt_of_frames hfr)
  refine ⟨(T.setVm vm').setFrames (.throwing q :: below), ?_, .threw q, X'.here.running, hend, Or.inr ⟨q, rfl, E, ce, locs, hx _ hT (X'.ends _).1.alike, hcell9, hv, hcl, (X'.ends _).1, (X'.ends _).2.mono hc hs, hf⟩⟩
  rw [X.pushThrowing_eq]
  exact st
/-- a thing of a world lies in the heap -/
theorem vx_lt {D : va_G} {cl : List vw_C} {ws : va_W} {H1 : Heap} (h : va_P D cl ws H1) {k : Nat} {q : Nat × va_E} (hk : ws[k]? = some q) : q.1 < H1.size := (h k q hk).lt
end VXS
/-! ===== END ===== -/
/-! ===== BEGIN methods with a table of their own: called by a name, returning or throwing ===== -/
section VXH
/-! vx_backW, vx_callVX, vx_callSX, vx_callVW, vx_runVW, vx_runVX, vx_runSX, vx_ofWH follow the same proofs as their sisters above (Free/Laws.lean, Shelf42/LK1.lean); vx_outP calls Shelf42/NT130.lean (outThrough). -/
section
variable {l : Launch} {R : Room} {p : Program} {e : Env} {below : List Frame} {s : State} {sargs : Array Value} {y : MethodName} {len W9 : Nat}
theorem vx_backW {ws : List Cond} {rm : Room} {Pc : Array Value → State → Prop} {Qc : Array Value → State → Outcome → State → Prop} {XC : String → State → State → Prop} {mc ms : Nat} {free : Addr → Prop} {bytes : ByteArray} {maxL : Nat} {ret : Option FieldType} {hh : List (Nat × Nat × Nat × Nat)}
    (hM : vx_Met l y ws rm Pc Qc XC mc ms free) (hblind : FrameBlind Pc) (hrc : rm.cells = mc) (hrs : rm.slots = ms)
    (hframes : rm.frames + 1 ≤ R.frames) (hlocals : W9 + (maxL + 11) + rm.locals ≤ R.locals)
    (hws : ∀ w ∈ ws, ∀ a' U, s.WarmedH U.vm → w.before a' U = true) (hcode : Cond.codeWith y bytes maxL ret hh ∈ ws) (hinit : ∀ a' U, s.WarmedH U.vm → (Cond.initialized y.cls).before a' U = true) :
    vx_Back l R p e below s sargs y len W9 (PreOf R mc ms Pc) (PostOf Qc mc ms free) (vx_Post XC mc ms free) := by
  intro m meth c A g ig mk a X hg hsize hdg hW hn hp
  have h1 : (headSpec ws rm).pre.before a A.U = true := atoms_intro fun w hw => hws w hw _ _ X.warmed
  have h2 : (Cond.codeWith y bytes maxL ret hh).before a A.U = true := hws _ hcode _ _ X.warmed
  have h3 : (Cond.initialized y.cls).before a A.U = true := hinit _ _ X.warmed
  have h4 : A.cells + (headSpec ws rm).room.cells ≤ R.cells := by rw [show (headSpec ws rm).room.cells = mc from hrc]; exact hp.1
  have h5 : A.slots + (headSpec ws rm).room.slots ≤ R.slots := by rw [show (headSpec ws rm).room.slots = ms from hrs]; exact hp.2.1
  have hPc : Pc a (A.U.calling g mk a) := hblind _ _ _ _ hp.2.2
  obtain ⟨U, Ls, c0, s0⟩ := A
  dsimp only [Pt.U, Pt.locs, Pt.cells, Pt.slots] at h1 h2 h3 h4 h5 X hn hPc ⊢
  obtain ⟨m9, methY, cY, hn9, hmY, hcY, -, hlY, -⟩ := Cond.codeWith_spec h2
  cases Option.some.inj (hn9.symm.trans hn)
  obtain ⟨kY, hkY, -⟩ := className_of_methodNamed hn
  have hinitY : kY.init = .initialized := Cond.initialized_spec (findClass_of_methodNamed hn) hkY h3
  have h : At U g.method c below := by rw [hg]; exact X.here
  have hlocals9 : W9 + (maxL + 11) + (headSpec ws rm).room.locals ≤ R.locals := hlocals
  have happ : (headSpec ws rm).appliesLoose y e.platform (U.calling g mk a) = true :=
    Spec.appliesLoose_calling (g := g) h hdg hn hkY hinitY
      (X.room_calling (g := g) (R' := (headSpec ws rm).room) hsize hmY hcY hframes (by rw [hlY]; omega) h4 h5) h1
  obtain ⟨mid, hmid⟩ := h.above
  have hfr : (U.setTop g).frames = (.java g :: mid) ++ below := by rw [State.frames_setTop' g h.top, hmid]; rfl
  obtain ⟨o, s₂, hsteps, -, hend, hq⟩ := Steps.callFree hM p X.admits X.cas X.clock (acts := []) hfr happ hPc trivial
  have hq' : vx_Q Qc XC mc ms free a (U.calling g mk a) o s₂ := hq
  rw [State.frames_setTop' g h.top] at hend
  obtain ⟨g₀, hg0⟩ := Option.isSome_iff_exists.mp h.top
  obtain ⟨r, hr⟩ := State.topJava?_eq_some.mp hg0
  have hr' : (({ U with heap := s₂.heap, slotsUsed := s₂.slotsUsed } : State).setVm s₂.vm).frames = .java g₀ :: r := hr
  rcases hq' with ⟨hqc, L, hfe, hL⟩ | ⟨q, rfl, E, ce, L, hx, hce, hcv, hcl, hW₂, hsm, hL⟩
  · obtain ⟨⟨v, rfl⟩, hW₂, e2, q2, q3, q4, q5, q6⟩ := id hfe
    have e3 : s₂ = ({ (U.calling g mk a).setFrames s₂.frames with heap := s₂.heap, slotsUsed := s₂.slotsUsed } : State).setVm s₂.vm := by
      have : s₂ = ({ s₂ with vm := (U.calling g mk a).vm } : State).setVm s₂.vm := rfl
      rw [e2] at this
      exact this
    obtain ⟨c₂, i₂, len₂, hc₂, hd₂, hf₂⟩ := hend
    have hW' : U.WarmedH s₂.vm := hW₂
    have hcc : c₂ = c := by
      have h1 : s₂.code? g.method = U.code? g.method := by
        rw [State.code?_eq, State.code?_eq, hW'.alike.method?]
      exact Option.some.inj (hc₂.symm.trans (h1.trans h.code))
    subst hcc
    have hlen : len₂ = len := by rw [hdg] at hd₂; cases hd₂; rfl
    subst hlen
    have hs₂ : s₂ = (({ U with heap := s₂.heap, slotsUsed := s₂.slotsUsed } : State).setVm s₂.vm).setTop { g with pc := g.pc + len₂, stack := v.toList ++ g.stack } := by
      refine e3.trans ?_
      rw [hf₂, State.calling_eq h.top, State.setFrames_setFrames, State.setTop_of_frames _ hr', hr]
      rfl
    have hsame : U.sameButNew ({ U with heap := s₂.heap, slotsUsed := s₂.slotsUsed } : State) L mc ms := by
      refine ⟨?_, q2, q3, q4, q5, q6⟩
      obtain ⟨t, ht, -⟩ := State.frames_cons hr
      show ({ U with heap := s₂.heap, slotsUsed := s₂.slotsUsed } : State) = { U.setFrames U.frames with heap := s₂.heap, slotsUsed := s₂.slotsUsed }
      rw [State.setFrames_self ht]
    subst hg
    refine Or.inl ⟨v, ⟨(({ U with heap := s₂.heap, slotsUsed := s₂.slotsUsed } : State).setVm s₂.vm), Ls ++ L, c0 + mc, s0 + ms⟩,
      ⟨X.admits, X.cas, X.clock, X.frames, X.room, X.hears, X.method, X.code, (X.here.setHeapUsed s₂.heap s₂.slotsUsed).setVm hW'.alike, X.tail, State.WarmedH.trans X.warmed hW', X.limits, X.bytes, X.same.trans (hsame.setVm s.vm)⟩,
      ⟨g, mk, s₂, L, rfl, rfl, hqc, rfl, hL, rfl, rfl⟩, ?_⟩
    show Steps p.tables e below _ ((({ U with heap := s₂.heap, slotsUsed := s₂.slotsUsed } : State).setVm s₂.vm).setTop { g with pc := g.pc + len₂, stack := v.toList ++ g.stack })
    rw [← hs₂]
    exact hsteps
  · obtain ⟨e2, q2, q3, q4, q5, q6⟩ := id hsm
    have e3 : s₂ = ({ (U.calling g mk a).setFrames s₂.frames with heap := s₂.heap, slotsUsed := s₂.slotsUsed } : State).setVm s₂.vm := by
      have : s₂ = ({ s₂ with vm := (U.calling g mk a).vm } : State).setVm s₂.vm := rfl
      rw [e2] at this
      exact this
    have hf₂ : s₂.frames = .throwing q :: .java g :: U.frames.tail := hend
    have hW' : U.WarmedH s₂.vm := hW₂
    have hs₂ : s₂ = ((({ U with heap := s₂.heap, slotsUsed := s₂.slotsUsed } : State).setVm s₂.vm).setTop g).pushFrame (.throwing q) := by
      refine e3.trans ?_
      rw [hf₂, State.calling_eq h.top, State.setFrames_setFrames, State.pushFrame, State.frames_setTop _ hr', State.setTop_of_frames _ hr', State.setFrames_setFrames, hr]
      rfl
    have hsame : U.sameButNew ({ U with heap := s₂.heap, slotsUsed := s₂.slotsUsed } : State) L mc ms := by
      refine ⟨?_, q2, q3, q4, q5, q6⟩
      obtain ⟨t, ht, -⟩ := State.frames_cons hr
      show ({ U with heap := s₂.heap, slotsUsed := s₂.slotsUsed } : State) = { U.setFrames U.frames with heap := s₂.heap, slotsUsed := s₂.slotsUsed }
      rw [State.setFrames_self ht]
    subst hg
    refine Or.inr ⟨q, ⟨(({ U with heap := s₂.heap, slotsUsed := s₂.slotsUsed } : State).setVm s₂.vm), Ls ++ L, c0 + mc, s0 + ms⟩,
      ⟨X.admits, X.cas, X.clock, X.frames, X.room, X.hears, X.method, X.code, (X.here.setHeapUsed s₂.heap s₂.slotsUsed).setVm hW'.alike, X.tail, State.WarmedH.trans X.warmed hW', X.limits, X.bytes, X.same.trans (hsame.setVm s.vm)⟩,
      ⟨g, mk, s₂, L, E, ce, rfl, rfl, hx, hce, hcv, hcl, rfl, hL, rfl, rfl⟩, ?_⟩
    show Steps p.tables e below _ (((({ U with heap := s₂.heap, slotsUsed := s₂.slotsUsed } : State).setVm s₂.vm).setTop g).pushFrame (.throwing q))
    rw [← hs₂]
    exact hsteps
end
variable {p : Program} {l : Launch} {e : Env} {R : Room} {s : State} {m : MethodId} {args : Array Value} {below : List Frame} {meth : Method} {c : Code} {T : State} {H : Heap} {locs : List Loc} {cells slots : Nat}
theorem vx_callVX (X : Stand p l e R s m args below meth c T locs cells slots) (hexec : p.tables.exec = Jvm.exec) {own C : String} {index : Nat} {y : MethodName} {bytes : ByteArray} {maxL : Nat} {ret : Option FieldType} {hh : List (Nat × Nat × Nat × Nat)}
    (hown : s.vm.findClass own = some m.cls) (hlink : (Cond.methodLink own index y).before args s = true) (hinst : (Cond.instanceMethod y).before args s = true) (hsel : (Cond.selects C y y).before args s = true)
    (hcode : (Cond.codeWith y bytes maxL ret hh).before args s = true) (hy : y.cls ≠ "java/lang/invoke/MethodHandle" ∧ y.cls ≠ "java/lang/invoke/VarHandle")
    {W9 : Nat} {Pre : Pt → Array Value → Prop} {Post : Pt → Array Value → Option Value → Pt → Prop} {PostX : Pt → Array Value → Addr → Pt → Prop} (hK : vx_Back l R p e below s args y 3 W9 Pre Post PostX)
    {b : Addr} {cellB : Cell} (hcell : T.heap[b]? = some cellB) (hobj : cellB.vm.isStatics = false) (hcls : s.vm.findClass C = some cellB.cls)
    {g : JFrame} (hg : g.method = m) (hsize : g.locals.size = c.maxLocals) {argsL rest : List Value} (hlen : ∀ sig, parseMethodDescriptor y.desc = some sig → argsL.length = sig.parameters.length)
    (hstack : g.stack = argsL.reverse ++ .ref b :: rest) (hW : 2 * g.monitorRoom + (rest.map fun v => v.category).sum ≤ W9) (hdg : decode c.code g.pc = .ok (.invokevirtual index, 3))
    (hpre : ∀ vm₁, s.WarmedH vm₁ → Pre ⟨T.setVm vm₁, locs, cells, slots⟩ (Value.ref b :: argsL).toArray) :
    (∃ (v : Option Value) (vm₁ : Vm) (B : Pt), s.WarmedH vm₁ ∧ Stand p l e R s m args below meth c B.U B.locs B.cells B.slots ∧ Post ⟨T.setVm vm₁, locs, cells, slots⟩ (Value.ref b :: argsL).toArray v B ∧
      ∀ target, Steps p.tables e below (B.U.setTop { g with pc := g.pc + 3, stack := v.toList ++ rest }) target → Steps p.tables e below (T.setTop g) target) ∨
    (∃ (q : Addr) (vm₁ : Vm) (B : Pt), s.WarmedH vm₁ ∧ Stand p l e R s m args below meth c B.U B.locs B.cells B.slots ∧ PostX ⟨T.setVm vm₁, locs, cells, slots⟩ (Value.ref b :: argsL).toArray q B ∧
      Steps p.tables e below (T.setTop g) ((B.U.setTop { g with stack := rest }).pushFrame (.throwing q))) := by
  obtain ⟨mk, methM, hnamed, hmethM, hstM, habM⟩ := Cond.instanceMethod_spec hinst
  obtain ⟨m8, methM', cM, hn8, hmethM', -, -, -, -, -, -, hsigM⟩ := Cond.codeWith_spec hcode
  cases Option.some.inj (hn8.symm.trans hnamed)
  cases hmethM.symm.trans hmethM'
  obtain ⟨c2, r2, m2, q1, q2, q3, q4, kP, hkP, hkPi⟩ := Cond.selects_spec hsel
  cases hcls.symm.trans q1
  cases (State.methodFound?_of_named hnamed hy).symm.trans q2
  cases hnamed.symm.trans q3
  have hselP : selectMethod e.platform s.vm cellB.cls mk = .method mk := by rw [Launch.admits_selectMethod X.admits]; exact q4
  obtain ⟨vm₁, X₁, hstep₁⟩ := X.invokevirtual hexec hown hlink hnamed hmethM hstM hkP hkPi hy (a := b) (cell := cellB) hcell
    (fun z h => by rw [h] at hobj; cases hobj) hselP hmethM habM hkP hkPi (g := g) hg (argsL := argsL) (rest := rest) (hlen _ hsigM) hstack hdg
  rcases hK m meth c ⟨T.setVm vm₁, locs, cells, slots⟩ { g with stack := rest } (.invokevirtual index) mk (Value.ref b :: argsL).toArray X₁ hg hsize hdg hW (X₁.named hnamed) (hpre vm₁ X₁.warmed) with ⟨v, B, X', hpost, hsteps⟩ | ⟨q, B, X', hpost, hsteps⟩
  · exact Or.inl ⟨v, vm₁, B, X₁.warmed, X', hpost, fun target h => hstep₁ _ fun acts => by rw [doInvoke_state]; exact hsteps.trans h⟩
  · exact Or.inr ⟨q, vm₁, B, X₁.warmed, X', hpost, hstep₁ _ fun acts => by rw [doInvoke_state]; exact hsteps⟩
theorem vx_callSX (X : Stand p l e R s m args below meth c T locs cells slots) (hexec : p.tables.exec = Jvm.exec) {own : String} {index : Nat} {y : MethodName} {bytes : ByteArray} {maxL : Nat} {ret : Option FieldType} {hh : List (Nat × Nat × Nat × Nat)}
    (hown : s.vm.findClass own = some m.cls) (hlink : (Cond.methodLink own index y).before args s = true) (hstat : (Cond.static y).before args s = true) (hinit : (Cond.initialized y.cls).before args s = true)
    (hcode : (Cond.codeWith y bytes maxL ret hh).before args s = true) (hy : y.cls ≠ "java/lang/invoke/MethodHandle" ∧ y.cls ≠ "java/lang/invoke/VarHandle")
    {W9 : Nat} {Pre : Pt → Array Value → Prop} {Post : Pt → Array Value → Option Value → Pt → Prop} {PostX : Pt → Array Value → Addr → Pt → Prop} (hK : vx_Back l R p e below s args y 3 W9 Pre Post PostX)
    {g : JFrame} (hg : g.method = m) (hsize : g.locals.size = c.maxLocals) {argsL rest : List Value} (hlen : ∀ sig, parseMethodDescriptor y.desc = some sig → argsL.length = sig.parameters.length)
    (hstack : g.stack = argsL.reverse ++ rest) (hW : 2 * g.monitorRoom + (rest.map fun v => v.category).sum ≤ W9) (hdg : decode c.code g.pc = .ok (.invokestatic index, 3))
    (hpre : ∀ vm₁, s.WarmedH vm₁ → Pre ⟨T.setVm vm₁, locs, cells, slots⟩ argsL.toArray) :
    (∃ (v : Option Value) (vm₁ : Vm) (B : Pt), s.WarmedH vm₁ ∧ Stand p l e R s m args below meth c B.U B.locs B.cells B.slots ∧ Post ⟨T.setVm vm₁, locs, cells, slots⟩ argsL.toArray v B ∧
      ∀ target, Steps p.tables e below (B.U.setTop { g with pc := g.pc + 3, stack := v.toList ++ rest }) target → Steps p.tables e below (T.setTop g) target) ∨
    (∃ (q : Addr) (vm₁ : Vm) (B : Pt), s.WarmedH vm₁ ∧ Stand p l e R s m args below meth c B.U B.locs B.cells B.slots ∧ PostX ⟨T.setVm vm₁, locs, cells, slots⟩ argsL.toArray q B ∧
      Steps p.tables e below (T.setTop g) ((B.U.setTop { g with stack := rest }).pushFrame (.throwing q))) := by
  obtain ⟨mk, methM, cM, hnamed, hmethM, -, -, -, -, -, -, hsigM⟩ := Cond.codeWith_spec hcode
  have hstatic : methM.isStatic = true := Cond.static_spec hnamed hmethM hstat
  obtain ⟨kP, hkP, -⟩ := className_of_methodNamed hnamed
  have hinitP : kP.init = .initialized := Cond.initialized_spec (findClass_of_methodNamed hnamed) hkP hinit
  obtain ⟨vm₁, X₁, hstep₁⟩ := X.invokestatic hexec hown hlink hnamed hmethM hstatic hkP hinitP hy (g := g) hg (argsL := argsL) (rest := rest) (hlen _ hsigM) hstack hdg
  rcases hK m meth c ⟨T.setVm vm₁, locs, cells, slots⟩ { g with stack := rest } (.invokestatic index) mk argsL.toArray X₁ hg hsize hdg hW (X₁.named hnamed) (hpre vm₁ X₁.warmed) with ⟨v, B, X', hpost, hsteps⟩ | ⟨q, B, X', hpost, hsteps⟩
  · exact Or.inl ⟨v, vm₁, B, X₁.warmed, X', hpost, fun target h => hstep₁ _ fun acts => by rw [doInvoke_state]; exact hsteps.trans h⟩
  · exact Or.inr ⟨q, vm₁, B, X₁.warmed, X', hpost, hstep₁ _ fun acts => by rw [doInvoke_state]; exact hsteps⟩
theorem vx_callVW (X : Stand p l e R s m args below meth c T locs cells slots) (hexec : p.tables.exec = Jvm.exec) {own C : String} {index : Nat} {y : MethodName} {bytes : ByteArray} {maxL : Nat} {ret : Option FieldType} {hh : List (Nat × Nat × Nat × Nat)}
    (hown : s.vm.findClass own = some m.cls) (hlink : (Cond.methodLink own index y).before args s = true) (hinst : (Cond.instanceMethod y).before args s = true) (hsel : (Cond.selects C y y).before args s = true)
    (hcode : (Cond.codeWith y bytes maxL ret hh).before args s = true) (hy : y.cls ≠ "java/lang/invoke/MethodHandle" ∧ y.cls ≠ "java/lang/invoke/VarHandle")
    {W9 : Nat} {Pre : Pt → Array Value → Prop} {Post : Pt → Array Value → Option Value → Pt → Prop} (hK : Back l R p e below s args y 3 W9 Pre Post)
    {b : Addr} {cellB : Cell} (hcell : T.heap[b]? = some cellB) (hobj : cellB.vm.isStatics = false) (hcls : s.vm.findClass C = some cellB.cls)
    {g : JFrame} (hg : g.method = m) (hsize : g.locals.size = c.maxLocals) {argsL rest : List Value} (hlen : ∀ sig, parseMethodDescriptor y.desc = some sig → argsL.length = sig.parameters.length)
    (hstack : g.stack = argsL.reverse ++ .ref b :: rest) (hW : 2 * g.monitorRoom + (rest.map fun v => v.category).sum ≤ W9) (hdg : decode c.code g.pc = .ok (.invokevirtual index, 3))
    (hpre : ∀ vm₁, s.WarmedH vm₁ → Pre ⟨T.setVm vm₁, locs, cells, slots⟩ (Value.ref b :: argsL).toArray) :
    ∃ (v : Option Value) (vm₁ : Vm) (B : Pt), s.WarmedH vm₁ ∧ Stand p l e R s m args below meth c B.U B.locs B.cells B.slots ∧ Post ⟨T.setVm vm₁, locs, cells, slots⟩ (Value.ref b :: argsL).toArray v B ∧
      ∀ target, Steps p.tables e below (B.U.setTop { g with pc := g.pc + 3, stack := v.toList ++ rest }) target → Steps p.tables e below (T.setTop g) target := by
  obtain ⟨mk, methM, hnamed, hmethM, hstM, habM⟩ := Cond.instanceMethod_spec hinst
  obtain ⟨m8, methM', cM, hn8, hmethM', -, -, -, -, -, -, hsigM⟩ := Cond.codeWith_spec hcode
  cases Option.some.inj (hn8.symm.trans hnamed)
  cases hmethM.symm.trans hmethM'
  obtain ⟨c2, r2, m2, q1, q2, q3, q4, kP, hkP, hkPi⟩ := Cond.selects_spec hsel
  cases hcls.symm.trans q1
  cases (State.methodFound?_of_named hnamed hy).symm.trans q2
  cases hnamed.symm.trans q3
  have hselP : selectMethod e.platform s.vm cellB.cls mk = .method mk := by rw [Launch.admits_selectMethod X.admits]; exact q4
  obtain ⟨vm₁, X₁, hstep₁⟩ := X.invokevirtual hexec hown hlink hnamed hmethM hstM hkP hkPi hy (a := b) (cell := cellB) hcell
    (fun z h => by rw [h] at hobj; cases hobj) hselP hmethM habM hkP hkPi (g := g) hg (argsL := argsL) (rest := rest) (hlen _ hsigM) hstack hdg
  obtain ⟨v, B, X', hpost, hsteps⟩ := hK m meth c ⟨T.setVm vm₁, locs, cells, slots⟩ { g with stack := rest } (.invokevirtual index) mk (Value.ref b :: argsL).toArray X₁ hg hsize hdg hW (X₁.named hnamed) (hpre vm₁ X₁.warmed)
  exact ⟨v, vm₁, B, X₁.warmed, X', hpost, fun target h => hstep₁ _ fun acts => by rw [doInvoke_state]; exact hsteps.trans h⟩
abbrev vx_CVW (R : Room) (s : State) (args : Array Value) (own C : String) (index : Nat) (y : MethodName) (bytes : ByteArray) (maxL : Nat) (ret : Option FieldType) (hh : List (Nat × Nat × Nat × Nat)) (ws : List Cond) (rm : Room) (mc ms n : Nat) : Prop :=
  (rm.cells = mc ∧ rm.slots = ms ∧ rm.frames + 1 ≤ R.frames ∧ 8 + (maxL + 11) + rm.locals ≤ R.locals ∧ (∀ w ∈ ws, ∀ (a' : Array Value) (U : State), s.WarmedH U.vm → w.before a' U = true) ∧ Cond.codeWith y bytes maxL ret hh ∈ ws) ∧
  (Cond.codeWith y bytes maxL ret hh).before args s = true ∧ (Cond.initialized y.cls).before args s = true ∧ (y.cls ≠ "java/lang/invoke/MethodHandle" ∧ y.cls ≠ "java/lang/invoke/VarHandle") ∧
  (∀ sig, parseMethodDescriptor y.desc = some sig → n = sig.parameters.length) ∧ (Cond.methodLink own index y).before args s = true ∧ (Cond.instanceMethod y).before args s = true ∧ (Cond.selects C y y).before args s = true
theorem vx_cwVW {own C : String} {index maxL mc ms : Nat} {y : MethodName} {bytes : ByteArray} {ret : Option FieldType} {hh : List (Nat × Nat × Nat × Nat)} {Ts ws ws' : List Cond} {rm : Room} (n : Nat) (ht : ∀ w ∈ Ts, w.before args s = true) (hT : GoodIn Ts (wsV own index C y ws)) (hw : ws = Cond.codeWith y bytes maxL ret hh :: ws') (hrc : rm.cells = mc) (hrs : rm.slots = ms)
    (hd : y.cls = C ∧ y.cls ≠ "java/lang/invoke/MethodHandle" ∧ y.cls ≠ "java/lang/invoke/VarHandle" ∧ (parseMethodDescriptor y.desc).map (fun d => d.parameters.length) = some n) (hR : rm.frames + 1 ≤ R.frames ∧ 8 + (maxL + 11) + rm.locals ≤ R.locals) :
    vx_CVW R s args own C index y bytes maxL ret hh ws rm mc ms n := by
  obtain ⟨hC, hd⟩ := hd
  subst hC
  have ok : ∀ w ∈ wsV own index y.cls y ws, w.before args s = true := fun w h => ht w (hT w h).1
  have hG : GoodIn Ts ws := fun w h => hT w (by unfold wsV; exact List.mem_append_right _ h)
  have hc : Cond.codeWith y bytes maxL ret hh ∈ ws := by rw [hw]; exact List.mem_cons_self
  refine ⟨⟨hrc, hrs, hR.1, hR.2, pay_in ht hG, hc⟩, ht _ (hG _ hc).1, ok _ (by simp [wsV]), ⟨hd.1, hd.2.1⟩, fun sig h => ?_, ok _ (by simp [wsV]), ok _ (by simp [wsV]), ok _ (by simp [wsV])⟩
  have h2 := hd.2.2
  rw [h] at h2
  exact (Option.some.inj h2).symm
theorem vx_runVW {y : MethodName} {bytes cc : ByteArray} {maxL nL mc ms n index : Nat} {ret : Option FieldType} {hh : List (Nat × Nat × Nat × Nat)} {ws : List Cond} {rm : Room} {Pc : Array Value → State → Prop} {Qc : Array Value → State → Outcome → State → Prop} {free : Addr → Prop} {Ts : List Cond} {own C : String} {b : Addr} {As rest : List Value} {g : JFrame}
    (S : CallFix p m c cc nL s args Ts own) (hM : Met l y ws rm Pc Qc mc ms free) (cw : vx_CVW R s args own C index y bytes maxL ret hh ws rm mc ms n) (hp : PreV s H C b Pc As)
    (hg : g.method = m) (hn : As.length = n) (hsize : g.locals.size = nL) (hstack : g.stack = As.reverse ++ .ref b :: rest) (hW : 2 * g.monitorRoom + (rest.map fun v => v.category).sum ≤ 8) (hdg : decode cc g.pc = .ok (.invokevirtual index, 3)) (hf : cells + mc ≤ R.cells ∧ slots + ms ≤ R.slots) :
    va_Run p l e R s m args below meth c H locs cells slots mc ms g rest (Qc (Value.ref b :: As).toArray) free := by
  obtain ⟨⟨hrc, hrs, hfr, hlo, hws, hcw⟩, hcode, hini, hy, hlen, hl, hin, hse⟩ := cw
  have hK : Back l R p e below s args y 3 8 (PreOf R mc ms Pc) (PostOf Qc mc ms free) := va_backW (hh := hh) (bytes := bytes) (maxL := maxL) (ret := ret) hM hp.1 hrc hrs hfr hlo hws hcw (fun a' U hW => word_at hW (Or.inl (by first | rfl | simp [Cond.onTables, Cond.keeps, Cond.steady])) hini)
  obtain ⟨hx, hb, hml, ho, -⟩ := S
  obtain ⟨-, ⟨cellB, hcB, hoB, hclB⟩, hPc⟩ := hp
  intro T hT X
  obtain ⟨v, vm₁, ⟨U', l2, c2, s2⟩, hW₁, X', ⟨g', mk, t, L, e1, e2, hq, h1, hL, h2, h3⟩, st⟩ := vx_callVW X hx (C := C) (hh := hh) (bytes := bytes) (maxL := maxL) (ret := ret) ho hl hin hse hcode hy hK (by rw [hT]; exact hcB) hoB hclB hg (hsize.trans hml.symm) (argsL := As) (rest := rest) (fun sig h => hn.trans (hlen sig h)) hstack hW (by rw [hb]; exact hdg)
    (fun vm₁ hW₁ => ⟨hf.1, hf.2, hPc (T.setVm vm₁) hT hW₁⟩)
  dsimp only [Pt.U, Pt.locs, Pt.cells, Pt.slots] at X' e1 e2 h1 h2 h3 st
  subst h1; subst h2; subst h3
  exact ⟨v, (T.setVm vm₁).calling g' mk (Value.ref b :: As).toArray, t, U', L, hT, X', hL, e1, e2, hq, st⟩
section
variable {y : MethodName} {bytes cc : ByteArray} {maxL nL mc ms n index : Nat} {ret : Option FieldType} {ws : List Cond} {rm : Room} {Pc : Array Value → State → Prop} {Qc : Array Value → State → Outcome → State → Prop} {XC : String → State → State → Prop} {free : Addr → Prop} {Ts : List Cond} {own C : String} {b : Addr} {As rest : List Value} {g : JFrame}
theorem vx_runVX {hh : List (Nat × Nat × Nat × Nat)} (S : CallFix p m c cc nL s args Ts own) (hM : vx_Met l y ws rm Pc Qc XC mc ms free) (cw : vx_CVW R s args own C index y bytes maxL ret hh ws rm mc ms n) (hp : PreV s H C b Pc As)
    (hg : g.method = m) (hn : As.length = n) (hsize : g.locals.size = nL) (hstack : g.stack = As.reverse ++ .ref b :: rest) (hW : 2 * g.monitorRoom + (rest.map fun v => v.category).sum ≤ 8) (hdg : decode cc g.pc = .ok (.invokevirtual index, 3)) (hf : cells + mc ≤ R.cells ∧ slots + ms ≤ R.slots) :
    vx_Run p l e R s m args below meth c H locs cells slots mc ms g rest (Qc (Value.ref b :: As).toArray) XC free := by
  obtain ⟨⟨hrc, hrs, hfr, hlo, hws, hcw⟩, hcode, hini, hy, hlen, hl, hin, hse⟩ := cw
  have hK : vx_Back l R p e below s args y 3 8 (PreOf R mc ms Pc) (PostOf Qc mc ms free) (vx_Post XC mc ms free) := vx_backW (hh := hh) (bytes := bytes) (maxL := maxL) (ret := ret) hM hp.1 hrc hrs hfr hlo hws hcw (fun a' U hW => word_at hW (Or.inl (by first | rfl | simp [Cond.onTables, Cond.keeps, Cond.steady])) hini)
  obtain ⟨hx, hb, hml, ho, -⟩ := S
  obtain ⟨-, ⟨cellB, hcB, hoB, hclB⟩, hPc⟩ := hp
  intro T hT X
  rcases vx_callVX X hx (C := C) (hh := hh) (bytes := bytes) (maxL := maxL) (ret := ret) ho hl hin hse hcode hy hK (by rw [hT]; exact hcB) hoB hclB hg (hsize.trans hml.symm) (argsL := As) (rest := rest) (fun sig h => hn.trans (hlen sig h)) hstack hW (by rw [hb]; exact hdg)
    (fun vm₁ hW₁ => ⟨hf.1, hf.2, hPc (T.setVm vm₁) hT hW₁⟩) with ⟨v, vm₁, ⟨U', l2, c2, s2⟩, hW₁, X', ⟨g', mk, t, L, e1, e2, hq, h1, hL, h2, h3⟩, st⟩ | ⟨q, vm₁, ⟨U', l2, c2, s2⟩, hW₁, X', ⟨g', mk, t, L, E, ce, e1, e2, hq, hce, hcv, hcl, h1, hL, h2, h3⟩, st⟩
  · dsimp only [Pt.U, Pt.locs, Pt.cells, Pt.slots] at X' e1 e2 h1 h2 h3 st
    subst h1; subst h2; subst h3
    exact Or.inl ⟨v, (T.setVm vm₁).calling g' mk (Value.ref b :: As).toArray, t, U', L, hT, X', hL, e1, e2, hq, st⟩
  · dsimp only [Pt.U, Pt.locs, Pt.cells, Pt.slots] at X' e1 e2 h1 h2 h3 st hcl
    subst h1; subst h2; subst h3
    exact Or.inr ⟨q, (T.setVm vm₁).calling g' mk (Value.ref b :: As).toArray, t, U', L, E, ce, hT, X', hL, e1, e2, hq, hce, hcv, vx_cls hW₁ hcl, st⟩
theorem vx_runSX {hh : List (Nat × Nat × Nat × Nat)} (S : CallFix p m c cc nL s args Ts own) (hM : vx_Met l y ws rm Pc Qc XC mc ms free) (cw : vx_CSW R s args own index y bytes maxL ret hh ws rm mc ms n) (hp : PreS s H Pc As)
    (hg : g.method = m) (hn : As.length = n) (hsize : g.locals.size = nL) (hstack : g.stack = As.reverse ++ rest) (hW : 2 * g.monitorRoom + (rest.map fun v => v.category).sum ≤ 8) (hdg : decode cc g.pc = .ok (.invokestatic index, 3)) (hf : cells + mc ≤ R.cells ∧ slots + ms ≤ R.slots) :
    vx_Run p l e R s m args below meth c H locs cells slots mc ms g rest (Qc As.toArray) XC free := by
  obtain ⟨⟨hrc, hrs, hfr, hlo, hws, hcw⟩, hcode, hini, hy, hlen, hl, hstt⟩ := cw
  have hK : vx_Back l R p e below s args y 3 8 (PreOf R mc ms Pc) (PostOf Qc mc ms free) (vx_Post XC mc ms free) := vx_backW (hh := hh) (bytes := bytes) (maxL := maxL) (ret := ret) hM hp.1 hrc hrs hfr hlo hws hcw (fun a' U hW => word_at hW (Or.inl (by first | rfl | simp [Cond.onTables, Cond.keeps, Cond.steady])) hini)
  obtain ⟨hx, hb, hml, ho, -⟩ := S
  intro T hT X
  rcases vx_callSX X hx (hh := hh) (bytes := bytes) (maxL := maxL) (ret := ret) ho hl hstt hini hcode hy hK hg (hsize.trans hml.symm) (argsL := As) (rest := rest) (fun sig h => hn.trans (hlen sig h)) hstack hW (by rw [hb]; exact hdg)
    (fun vm₁ hW₁ => ⟨hf.1, hf.2, hp.2 (T.setVm vm₁) hT hW₁⟩) with ⟨v, vm₁, ⟨U', l2, c2, s2⟩, hW₁, X', ⟨g', mk, t, L, e1, e2, hq, h1, hL, h2, h3⟩, st⟩ | ⟨q, vm₁, ⟨U', l2, c2, s2⟩, hW₁, X', ⟨g', mk, t, L, E, ce, e1, e2, hq, hce, hcv, hcl, h1, hL, h2, h3⟩, st⟩
  · dsimp only [Pt.U, Pt.locs, Pt.cells, Pt.slots] at X' e1 e2 h1 h2 h3 st
    subst h1; subst h2; subst h3
    exact Or.inl ⟨v, (T.setVm vm₁).calling g' mk As.toArray, t, U', L, hT, X', hL, e1, e2, hq, st⟩
  · dsimp only [Pt.U, Pt.locs, Pt.cells, Pt.slots] at X' e1 e2 h1 h2 h3 st hcl
    subst h1; subst h2; subst h3
    exact Or.inr ⟨q, (T.setVm vm₁).calling g' mk As.toArray, t, U', L, E, ce, hT, X', hL, e1, e2, hq, hce, hcv, vx_cls hW₁ hcl, st⟩
end
end VXH
theorem vx_ofWH {l : Launch} {y : MethodName} {ws ws' : List Cond} {rm : Room} {Pc : Array Value → State → Prop} {Qc : Array Value → State → Outcome → State → Prop} {XC : String → State → State → Prop} {mc ms : Nat} {free : Addr → Prop} {cc : ByteArray} {maxL : Nat} {ret : Option FieldType} {hh : List (Nat × Nat × Nat × Nat)}
    (hy : plainName y.cls = true) (hw : ws = Cond.codeWith y cc maxL ret hh :: ws')
    (body : ∀ p e s m args below meth c s₁, BodyLoose p l y (headSpec ws rm) cc maxL ret e s m args below meth c s₁ → c.maxLocals = maxL → Pc args s →
      W p l e (headSpec ws rm).room s m args below meth c s.heap [] 0 0 (vx_MQ below Qc XC args s mc ms free) (entryFrame m args maxL)) : vx_Met l y ws rm Pc Qc XC mc ms free := by
  refine MetFree.of_bodyS (code := cc) (maxLocals := maxL) (ret := ret) hy ?_ ?_
  · intro args s m h hn
    obtain ⟨m9, meth, c, hn9, h1, h2, h3, h4, -, h5, h6, -⟩ := Cond.codeWith_spec (atoms_spec (ws := ws) h _ (by rw [hw]; exact List.mem_cons_self))
    cases hn.symm.trans hn9
    exact ⟨meth, c, h1, h2, h3, h4, h5, h6⟩
  · intro p e s m args below meth c s₁ B hml hP _
    have hh0 : s₁.heap = s.heap := by rw [B.state]; rfl
    obtain ⟨t, a1, o, b1, b2, b3⟩ := body p e s m args below meth c s₁ B hml hP s₁ hh0 (Stand.of_body B)
    exact ⟨t, o, a1, b1, b2, b3⟩
/-! ===== END ===== -/
end
section
def RX0 : String := "AccessGate$Ask"
def TX0 : u_T := fun k => match k with
  | 0 => ("AccessGate$Ask", "who", "LAccessGate$Person;", true)
  | 1 => ("AccessGate$Ask", "where", "LAccessGate$Machine;", true)
  | 2 => ("AccessGate$Ask", "minutes", "I", true)
  | 3 => ("AccessGate$Ask", "time", "I", true)
  | 4 => ("AccessGate$Ask", "firstApprover", "LAccessGate$Person;", false)
  | _ => ("AccessGate$Ask", "settled", "I", false)
def tyX0 : Nat → FieldType := fun k => match k with
  | 0 => .object "AccessGate$Person"
  | 1 => .object "AccessGate$Machine"
  | 2 => .int
  | 3 => .int
  | 4 => .object "AccessGate$Person"
  | _ => .int
abbrev wsX00 : List Cond := u_ws RX0 TX0 6
theorem nmX0 : ∀ a, a < 6 → ∀ b, b < 6 → a ≠ b → (TX0 a).2.1 ≠ (TX0 b).2.1 := by decide +kernel
theorem tyX0_ok : ∀ k, k < 6 → parseFieldDescriptor (TX0 k).2.2.1 = some (tyX0 k) := by decide +kernel
abbrev cX0_init : ByteArray := prog_2_method_1_code
def yX0_init : MethodName := ⟨RX0, "<init>", "(LAccessGate$Person;LAccessGate$Machine;II)V"⟩
abbrev cX0_stateAt : ByteArray := prog_2_method_2_code
def yX0_stateAt : MethodName := ⟨RX0, "stateAt", "(I)I"⟩
def RX1 : String := "AccessGate$Entry"
def TX1 : u_T := fun k => match k with
  | 0 => ("AccessGate$Entry", "who", "LAccessGate$Person;", true)
  | 1 => ("AccessGate$Entry", "where", "LAccessGate$Machine;", true)
  | 2 => ("AccessGate$Entry", "time", "I", true)
  | _ => ("AccessGate$Entry", "lookedAt", "Z", false)
def tyX1 : Nat → FieldType := fun k => match k with
  | 0 => .object "AccessGate$Person"
  | 1 => .object "AccessGate$Machine"
  | 2 => .int
  | _ => .boolean
abbrev wsX10 : List Cond := u_ws RX1 TX1 4
theorem nmX1 : ∀ a, a < 4 → ∀ b, b < 4 → a ≠ b → (TX1 a).2.1 ≠ (TX1 b).2.1 := by decide +kernel
theorem tyX1_ok : ∀ k, k < 4 → parseFieldDescriptor (TX1 k).2.2.1 = some (tyX1 k) := by decide +kernel
abbrev cX1_init : ByteArray := prog_3_method_1_code
def yX1_init : MethodName := ⟨RX1, "<init>", "(LAccessGate$Person;LAccessGate$Machine;I)V"⟩
abbrev cX1_isOverdueAt : ByteArray := prog_3_method_2_code
def yX1_isOverdueAt : MethodName := ⟨RX1, "isOverdueAt", "(I)Z"⟩
def RX2 : String := "AccessGate$Machine"
def TX2 : u_T := fun k => match k with
  | 0 => ("AccessGate$Machine", "number", "I", true)
  | _ => ("AccessGate$Machine", "label", "I", true)
def tyX2 : Nat → FieldType := fun k => match k with
  | 0 => .int
  | _ => .int
abbrev wsX20 : List Cond := u_ws RX2 TX2 2
theorem nmX2 : ∀ a, a < 2 → ∀ b, b < 2 → a ≠ b → (TX2 a).2.1 ≠ (TX2 b).2.1 := by decide +kernel
theorem tyX2_ok : ∀ k, k < 2 → parseFieldDescriptor (TX2 k).2.2.1 = some (tyX2 k) := by decide +kernel
abbrev cX2_init : ByteArray := prog_4_method_1_code
def yX2_init : MethodName := ⟨RX2, "<init>", "(II)V"⟩
def RX3 : String := "AccessGate$Person"
def TX3 : u_T := fun k => match k with
  | 0 => ("AccessGate$Person", "number", "I", true)
  | 1 => ("AccessGate$Person", "team", "I", true)
  | _ => ("AccessGate$Person", "labelBits", "I", false)
def tyX3 : Nat → FieldType := fun k => match k with
  | 0 => .int
  | 1 => .int
  | _ => .int
abbrev wsX30 : List Cond := u_ws RX3 TX3 3
theorem nmX3 : ∀ a, a < 3 → ∀ b, b < 3 → a ≠ b → (TX3 a).2.1 ≠ (TX3 b).2.1 := by decide +kernel
theorem tyX3_ok : ∀ k, k < 3 → parseFieldDescriptor (TX3 k).2.2.1 = some (tyX3 k) := by decide +kernel
abbrev cX3_init : ByteArray := prog_5_method_1_code
def yX3_init : MethodName := ⟨RX3, "<init>", "(II)V"⟩
abbrev cX3_hasLabel : ByteArray := prog_5_method_2_code
def yX3_hasLabel : MethodName := ⟨RX3, "hasLabel", "(I)Z"⟩
abbrev cX3_keepLabel : ByteArray := prog_5_method_3_code
def yX3_keepLabel : MethodName := ⟨RX3, "keepLabel", "(IZ)V"⟩
abbrev cX3_mayJudge : ByteArray := prog_5_method_4_code
def yX3_mayJudge : MethodName := ⟨RX3, "mayJudge", "(LAccessGate$Person;LAccessGate$Machine;)Z"⟩
def RX4 : String := "AccessGate$Right"
def TX4 : u_T := fun k => match k with
  | 0 => ("AccessGate$Right", "who", "LAccessGate$Person;", true)
  | 1 => ("AccessGate$Right", "where", "LAccessGate$Machine;", true)
  | 2 => ("AccessGate$Right", "begin", "I", true)
  | _ => ("AccessGate$Right", "end", "I", false)
def tyX4 : Nat → FieldType := fun k => match k with
  | 0 => .object "AccessGate$Person"
  | 1 => .object "AccessGate$Machine"
  | 2 => .int
  | _ => .int
abbrev wsX40 : List Cond := u_ws RX4 TX4 4
theorem nmX4 : ∀ a, a < 4 → ∀ b, b < 4 → a ≠ b → (TX4 a).2.1 ≠ (TX4 b).2.1 := by decide +kernel
theorem tyX4_ok : ∀ k, k < 4 → parseFieldDescriptor (TX4 k).2.2.1 = some (tyX4 k) := by decide +kernel
abbrev cX4_init : ByteArray := prog_6_method_1_code
def yX4_init : MethodName := ⟨RX4, "<init>", "(LAccessGate$Person;LAccessGate$Machine;II)V"⟩
abbrev cX4_holdsAt : ByteArray := prog_6_method_2_code
def yX4_holdsAt : MethodName := ⟨RX4, "holdsAt", "(I)Z"⟩
def RX5 : String := "AccessGate$Session"
def TX5 : u_T := fun k => match k with
  | 0 => ("AccessGate$Session", "who", "LAccessGate$Person;", true)
  | 1 => ("AccessGate$Session", "where", "LAccessGate$Machine;", true)
  | 2 => ("AccessGate$Session", "closed", "Z", false)
  | 3 => ("AccessGate$Session", "lastLine", "I", false)
  | 4 => ("AccessGate$Session", "heldSince", "I", false)
  | _ => ("AccessGate$Session", "linesLetThrough", "I", false)
def tyX5 : Nat → FieldType := fun k => match k with
  | 0 => .object "AccessGate$Person"
  | 1 => .object "AccessGate$Machine"
  | 2 => .boolean
  | 3 => .int
  | 4 => .int
  | _ => .int
abbrev wsX50 : List Cond := u_ws RX5 TX5 6
theorem nmX5 : ∀ a, a < 6 → ∀ b, b < 6 → a ≠ b → (TX5 a).2.1 ≠ (TX5 b).2.1 := by decide +kernel
theorem tyX5_ok : ∀ k, k < 6 → parseFieldDescriptor (TX5 k).2.2.1 = some (tyX5 k) := by decide +kernel
abbrev cX5_init : ByteArray := prog_7_method_1_code
def yX5_init : MethodName := ⟨RX5, "<init>", "(LAccessGate$Person;LAccessGate$Machine;I)V"⟩
abbrev cX5_holdsLine : ByteArray := prog_7_method_2_code
def yX5_holdsLine : MethodName := ⟨RX5, "holdsLine", "()Z"⟩
abbrev cX5_restsAt : ByteArray := prog_7_method_3_code
def yX5_restsAt : MethodName := ⟨RX5, "restsAt", "(I)Z"⟩
def RX6 : String := "AccessGate$StepRecord"
def TX6 : u_T := fun k => match k with
  | 0 => ("AccessGate$StepRecord", "kinds", "[I", true)
  | 1 => ("AccessGate$StepRecord", "seals", "[I", true)
  | 2 => ("AccessGate$StepRecord", "count", "I", false)
  | _ => ("AccessGate$StepRecord", "lastSeal", "I", false)
def tyX6 : Nat → FieldType := fun k => match k with
  | 0 => .array .int
  | 1 => .array .int
  | 2 => .int
  | _ => .int
abbrev wsX60 : List Cond := u_ws RX6 TX6 4
theorem nmX6 : ∀ a, a < 4 → ∀ b, b < 4 → a ≠ b → (TX6 a).2.1 ≠ (TX6 b).2.1 := by decide +kernel
theorem tyX6_ok : ∀ k, k < 4 → parseFieldDescriptor (TX6 k).2.2.1 = some (tyX6 k) := by decide +kernel
abbrev cX6_init : ByteArray := prog_8_method_1_code
def yX6_init : MethodName := ⟨RX6, "<init>", "()V"⟩
abbrev cX6_add : ByteArray := prog_8_method_2_code
def yX6_add : MethodName := ⟨RX6, "add", "(ILAccessGate$Person;LAccessGate$Machine;I)V"⟩
def RX7 : String := "AccessGate"
def TX7 : u_T := fun k => match k with
  | 0 => ("AccessGate", "people", "Ljava/util/ArrayList;", true)
  | 1 => ("AccessGate", "machines", "Ljava/util/ArrayList;", true)
  | 2 => ("AccessGate", "asks", "Ljava/util/ArrayList;", true)
  | 3 => ("AccessGate", "entries", "Ljava/util/ArrayList;", true)
  | 4 => ("AccessGate", "rights", "Ljava/util/ArrayList;", true)
  | 5 => ("AccessGate", "sessions", "Ljava/util/ArrayList;", true)
  | 6 => ("AccessGate", "record", "LAccessGate$StepRecord;", true)
  | 7 => ("AccessGate", "openCount", "I", false)
  | _ => ("AccessGate", "now", "I", false)
def tyX7 : Nat → FieldType := fun k => match k with
  | 0 => .object "java/util/ArrayList"
  | 1 => .object "java/util/ArrayList"
  | 2 => .object "java/util/ArrayList"
  | 3 => .object "java/util/ArrayList"
  | 4 => .object "java/util/ArrayList"
  | 5 => .object "java/util/ArrayList"
  | 6 => .object "AccessGate$StepRecord"
  | 7 => .int
  | _ => .int
abbrev wsX70 : List Cond := u_ws RX7 TX7 9
theorem nmX7 : ∀ a, a < 9 → ∀ b, b < 9 → a ≠ b → (TX7 a).2.1 ≠ (TX7 b).2.1 := by decide +kernel
theorem tyX7_ok : ∀ k, k < 9 → parseFieldDescriptor (TX7 k).2.2.1 = some (tyX7 k) := by decide +kernel
abbrev cX7_init : ByteArray := prog_1_method_1_code
def yX7_init : MethodName := ⟨RX7, "<init>", "()V"⟩
abbrev cX7_addPerson : ByteArray := prog_1_method_2_code
def yX7_addPerson : MethodName := ⟨RX7, "addPerson", "(I)I"⟩
abbrev cX7_addMachine : ByteArray := prog_1_method_3_code
def yX7_addMachine : MethodName := ⟨RX7, "addMachine", "(I)I"⟩
abbrev cX7_setLabel : ByteArray := prog_1_method_4_code
def yX7_setLabel : MethodName := ⟨RX7, "setLabel", "(IIZ)I"⟩
abbrev cX7_takeAway : ByteArray := prog_1_method_5_code
def yX7_takeAway : MethodName := ⟨RX7, "takeAway", "(II)I"⟩
abbrev cX7_ask : ByteArray := prog_1_method_6_code
def yX7_ask : MethodName := ⟨RX7, "ask", "(III)I"⟩
abbrev cX7_approve : ByteArray := prog_1_method_7_code
def yX7_approve : MethodName := ⟨RX7, "approve", "(II)Z"⟩
abbrev cX7_deny : ByteArray := prog_1_method_8_code
def yX7_deny : MethodName := ⟨RX7, "deny", "(II)V"⟩
abbrev cX7_askState : ByteArray := prog_1_method_9_code
def yX7_askState : MethodName := ⟨RX7, "askState", "(I)I"⟩
abbrev cX7_enter : ByteArray := prog_1_method_10_code
def yX7_enter : MethodName := ⟨RX7, "enter", "(II)I"⟩
abbrev cX7_lookAt : ByteArray := prog_1_method_11_code
def yX7_lookAt : MethodName := ⟨RX7, "lookAt", "(II)I"⟩
abbrev cX7_overdue : ByteArray := prog_1_method_12_code
def yX7_overdue : MethodName := ⟨RX7, "overdue", "(I)I"⟩
abbrev cX7_couldEnter : ByteArray := prog_1_method_13_code
def yX7_couldEnter : MethodName := ⟨RX7, "couldEnter", "(III)Z"⟩
abbrev cX7_open : ByteArray := prog_1_method_14_code
def yX7_open : MethodName := ⟨RX7, "open", "(II)I"⟩
abbrev cX7_type : ByteArray := prog_1_method_15_code
def yX7_type : MethodName := ⟨RX7, "type", "(II)Z"⟩
abbrev cX7_letThrough : ByteArray := prog_1_method_16_code
def yX7_letThrough : MethodName := ⟨RX7, "letThrough", "(II)I"⟩
abbrev cX7_close : ByteArray := prog_1_method_17_code
def yX7_close : MethodName := ⟨RX7, "close", "(I)I"⟩
abbrev cX7_isOpen : ByteArray := prog_1_method_18_code
def yX7_isOpen : MethodName := ⟨RX7, "isOpen", "(I)Z"⟩
abbrev cX7_openSessions : ByteArray := prog_1_method_19_code
def yX7_openSessions : MethodName := ⟨RX7, "openSessions", "()I"⟩
abbrev cX7_pass : ByteArray := prog_1_method_20_code
def yX7_pass : MethodName := ⟨RX7, "pass", "(I)I"⟩
abbrev cX7_clock : ByteArray := prog_1_method_21_code
def yX7_clock : MethodName := ⟨RX7, "clock", "()I"⟩
abbrev cX7_steps : ByteArray := prog_1_method_22_code
def yX7_steps : MethodName := ⟨RX7, "steps", "()I"⟩
abbrev cX7_kind : ByteArray := prog_1_method_23_code
def yX7_kind : MethodName := ⟨RX7, "kind", "(I)I"⟩
abbrev cX7_seal : ByteArray := prog_1_method_24_code
def yX7_seal : MethodName := ⟨RX7, "seal", "(I)I"⟩
abbrev cX7_personAt : ByteArray := prog_1_method_25_code
def yX7_personAt : MethodName := ⟨RX7, "personAt", "(I)LAccessGate$Person;"⟩
abbrev cX7_machineAt : ByteArray := prog_1_method_26_code
def yX7_machineAt : MethodName := ⟨RX7, "machineAt", "(I)LAccessGate$Machine;"⟩
abbrev cX7_askAt : ByteArray := prog_1_method_27_code
def yX7_askAt : MethodName := ⟨RX7, "askAt", "(I)LAccessGate$Ask;"⟩
abbrev cX7_entryAt : ByteArray := prog_1_method_28_code
def yX7_entryAt : MethodName := ⟨RX7, "entryAt", "(I)LAccessGate$Entry;"⟩
abbrev cX7_sessionAt : ByteArray := prog_1_method_29_code
def yX7_sessionAt : MethodName := ⟨RX7, "sessionAt", "(I)LAccessGate$Session;"⟩
abbrev cX7_requireStep : ByteArray := prog_1_method_30_code
def yX7_requireStep : MethodName := ⟨RX7, "requireStep", "(I)V"⟩
abbrev cX7_requireLabel : ByteArray := prog_1_method_31_code
def yX7_requireLabel : MethodName := ⟨RX7, "requireLabel", "(I)V"⟩
abbrev cX7_requireRoomFor : ByteArray := prog_1_method_32_code
def yX7_requireRoomFor : MethodName := ⟨RX7, "requireRoomFor", "(I)V"⟩
abbrev cX7_requireOpen : ByteArray := prog_1_method_33_code
def yX7_requireOpen : MethodName := ⟨RX7, "requireOpen", "(LAccessGate$Session;)V"⟩
abbrev cX7_requireMayAskOrEnter : ByteArray := prog_1_method_34_code
def yX7_requireMayAskOrEnter : MethodName := ⟨RX7, "requireMayAskOrEnter", "(LAccessGate$Person;LAccessGate$Machine;)V"⟩
abbrev cX7_requireMayJudge : ByteArray := prog_1_method_35_code
def yX7_requireMayJudge : MethodName := ⟨RX7, "requireMayJudge", "(LAccessGate$Ask;LAccessGate$Person;)V"⟩
abbrev cX7_countOverdue : ByteArray := prog_1_method_36_code
def yX7_countOverdue : MethodName := ⟨RX7, "countOverdue", "(LAccessGate$Person;)I"⟩
abbrev cX7_rightHolds : ByteArray := prog_1_method_37_code
def yX7_rightHolds : MethodName := ⟨RX7, "rightHolds", "(LAccessGate$Person;LAccessGate$Machine;I)Z"⟩
abbrev cX7_endRights : ByteArray := prog_1_method_38_code
def yX7_endRights : MethodName := ⟨RX7, "endRights", "(LAccessGate$Person;LAccessGate$Machine;)V"⟩
abbrev cX7_denyWaitingAsks : ByteArray := prog_1_method_39_code
def yX7_denyWaitingAsks : MethodName := ⟨RX7, "denyWaitingAsks", "(LAccessGate$Person;LAccessGate$Machine;)V"⟩
abbrev cX7_closeEndedSessions : ByteArray := prog_1_method_40_code
def yX7_closeEndedSessions : MethodName := ⟨RX7, "closeEndedSessions", "()I"⟩
abbrev cX7_endSession : ByteArray := prog_1_method_41_code
def yX7_endSession : MethodName := ⟨RX7, "endSession", "(LAccessGate$Session;)V"⟩
def RX8 : String := "AccessGateModel"
def TX8 : u_T := fun k => match k with
  | 0 => ("AccessGateModel", "teams", "[I", true)
  | 1 => ("AccessGateModel", "labels", "[Z", true)
  | 2 => ("AccessGateModel", "people", "I", false)
  | 3 => ("AccessGateModel", "labelOf", "[I", true)
  | 4 => ("AccessGateModel", "machines", "I", false)
  | 5 => ("AccessGateModel", "clock", "I", false)
  | 6 => ("AccessGateModel", "rightPeople", "[I", true)
  | 7 => ("AccessGateModel", "rightMachines", "[I", true)
  | 8 => ("AccessGateModel", "begins", "[I", true)
  | 9 => ("AccessGateModel", "ends", "[I", true)
  | 10 => ("AccessGateModel", "rights", "I", false)
  | 11 => ("AccessGateModel", "askPeople", "[I", true)
  | 12 => ("AccessGateModel", "askMachines", "[I", true)
  | 13 => ("AccessGateModel", "askMinutes", "[I", true)
  | 14 => ("AccessGateModel", "askTimes", "[I", true)
  | 15 => ("AccessGateModel", "askStates", "[I", true)
  | 16 => ("AccessGateModel", "firstBy", "[I", true)
  | 17 => ("AccessGateModel", "asks", "I", false)
  | 18 => ("AccessGateModel", "entryPeople", "[I", true)
  | 19 => ("AccessGateModel", "entryMachines", "[I", true)
  | 20 => ("AccessGateModel", "entryTimes", "[I", true)
  | 21 => ("AccessGateModel", "looked", "[Z", true)
  | 22 => ("AccessGateModel", "entries", "I", false)
  | 23 => ("AccessGateModel", "sessionPeople", "[I", true)
  | 24 => ("AccessGateModel", "sessionMachines", "[I", true)
  | 25 => ("AccessGateModel", "opens", "[Z", true)
  | 26 => ("AccessGateModel", "typed", "[I", true)
  | 27 => ("AccessGateModel", "held", "[I", true)
  | 28 => ("AccessGateModel", "through", "[I", true)
  | 29 => ("AccessGateModel", "sessions", "I", false)
  | 30 => ("AccessGateModel", "kinds", "[I", true)
  | 31 => ("AccessGateModel", "seals", "[I", true)
  | 32 => ("AccessGateModel", "steps", "I", false)
  | _ => ("AccessGateModel", "last", "I", false)
def tyX8 : Nat → FieldType := fun k => match k with
  | 0 => .array .int
  | 1 => .array .boolean
  | 2 => .int
  | 3 => .array .int
  | 4 => .int
  | 5 => .int
  | 6 => .array .int
  | 7 => .array .int
  | 8 => .array .int
  | 9 => .array .int
  | 10 => .int
  | 11 => .array .int
  | 12 => .array .int
  | 13 => .array .int
  | 14 => .array .int
  | 15 => .array .int
  | 16 => .array .int
  | 17 => .int
  | 18 => .array .int
  | 19 => .array .int
  | 20 => .array .int
  | 21 => .array .boolean
  | 22 => .int
  | 23 => .array .int
  | 24 => .array .int
  | 25 => .array .boolean
  | 26 => .array .int
  | 27 => .array .int
  | 28 => .array .int
  | 29 => .int
  | 30 => .array .int
  | 31 => .array .int
  | 32 => .int
  | _ => .int
abbrev wsX80 : List Cond := u_ws RX8 TX8 34
theorem nmX8 : ∀ a, a < 34 → ∀ b, b < 34 → a ≠ b → (TX8 a).2.1 ≠ (TX8 b).2.1 := by decide +kernel
theorem tyX8_ok : ∀ k, k < 34 → parseFieldDescriptor (TX8 k).2.2.1 = some (tyX8 k) := by decide +kernel
abbrev cX8_init : ByteArray := prog_10_method_1_code
def yX8_init : MethodName := ⟨RX8, "<init>", "()V"⟩
abbrev cX8_thrown : ByteArray := prog_10_method_2_code
def yX8_thrown : MethodName := ⟨RX8, "thrown", "()I"⟩
abbrev cX8_in : ByteArray := prog_10_method_3_code
def yX8_in : MethodName := ⟨RX8, "in", "(III)Z"⟩
abbrev cX8_goes : ByteArray := prog_10_method_4_code
def yX8_goes : MethodName := ⟨RX8, "goes", "(ZZZ)Z"⟩
abbrev cX8_isPerson : ByteArray := prog_10_method_5_code
def yX8_isPerson : MethodName := ⟨RX8, "isPerson", "(I)Z"⟩
abbrev cX8_isMachine : ByteArray := prog_10_method_6_code
def yX8_isMachine : MethodName := ⟨RX8, "isMachine", "(I)Z"⟩
abbrev cX8_areBoth : ByteArray := prog_10_method_7_code
def yX8_areBoth : MethodName := ⟨RX8, "areBoth", "(II)Z"⟩
abbrev cX8_isAsk : ByteArray := prog_10_method_8_code
def yX8_isAsk : MethodName := ⟨RX8, "isAsk", "(I)Z"⟩
abbrev cX8_isEntry : ByteArray := prog_10_method_9_code
def yX8_isEntry : MethodName := ⟨RX8, "isEntry", "(I)Z"⟩
abbrev cX8_isSession : ByteArray := prog_10_method_10_code
def yX8_isSession : MethodName := ⟨RX8, "isSession", "(I)Z"⟩
abbrev cX8_writes : ByteArray := prog_10_method_11_code
def yX8_writes : MethodName := ⟨RX8, "writes", "(III)V"⟩
abbrev cX8_addPerson : ByteArray := prog_10_method_12_code
def yX8_addPerson : MethodName := ⟨RX8, "addPerson", "(I)I"⟩
abbrev cX8_addMachine : ByteArray := prog_10_method_13_code
def yX8_addMachine : MethodName := ⟨RX8, "addMachine", "(I)I"⟩
abbrev cX8_hasLabel : ByteArray := prog_10_method_14_code
def yX8_hasLabel : MethodName := ⟨RX8, "hasLabel", "(II)Z"⟩
abbrev cX8_holdsAt : ByteArray := prog_10_method_15_code
def yX8_holdsAt : MethodName := ⟨RX8, "holdsAt", "(III)Z"⟩
abbrev cX8_grants : ByteArray := prog_10_method_16_code
def yX8_grants : MethodName := ⟨RX8, "grants", "(III)V"⟩
abbrev cX8_endsRights : ByteArray := prog_10_method_17_code
def yX8_endsRights : MethodName := ⟨RX8, "endsRights", "(II)V"⟩
abbrev cX8_deniesAsks : ByteArray := prog_10_method_18_code
def yX8_deniesAsks : MethodName := ⟨RX8, "deniesAsks", "(II)V"⟩
abbrev cX8_shuts : ByteArray := prog_10_method_19_code
def yX8_shuts : MethodName := ⟨RX8, "shuts", "(I)V"⟩
abbrev cX8_closes : ByteArray := prog_10_method_20_code
def yX8_closes : MethodName := ⟨RX8, "closes", "(I)I"⟩
abbrev cX8_setLabel : ByteArray := prog_10_method_21_code
def yX8_setLabel : MethodName := ⟨RX8, "setLabel", "(IIZ)I"⟩
abbrev cX8_takeAway : ByteArray := prog_10_method_22_code
def yX8_takeAway : MethodName := ⟨RX8, "takeAway", "(II)I"⟩
abbrev cX8_overdues : ByteArray := prog_10_method_23_code
def yX8_overdues : MethodName := ⟨RX8, "overdues", "(I)I"⟩
abbrev cX8_canAsk : ByteArray := prog_10_method_24_code
def yX8_canAsk : MethodName := ⟨RX8, "canAsk", "(II)Z"⟩
abbrev cX8_ask : ByteArray := prog_10_method_25_code
def yX8_ask : MethodName := ⟨RX8, "ask", "(III)I"⟩
abbrev cX8_canJudge : ByteArray := prog_10_method_26_code
def yX8_canJudge : MethodName := ⟨RX8, "canJudge", "(II)Z"⟩
abbrev cX8_approve : ByteArray := prog_10_method_27_code
def yX8_approve : MethodName := ⟨RX8, "approve", "(II)Z"⟩
abbrev cX8_deny : ByteArray := prog_10_method_28_code
def yX8_deny : MethodName := ⟨RX8, "deny", "(II)V"⟩
abbrev cX8_askState : ByteArray := prog_10_method_29_code
def yX8_askState : MethodName := ⟨RX8, "askState", "(I)I"⟩
abbrev cX8_enter : ByteArray := prog_10_method_30_code
def yX8_enter : MethodName := ⟨RX8, "enter", "(II)I"⟩
abbrev cX8_lookAt : ByteArray := prog_10_method_31_code
def yX8_lookAt : MethodName := ⟨RX8, "lookAt", "(II)I"⟩
abbrev cX8_overdue : ByteArray := prog_10_method_32_code
def yX8_overdue : MethodName := ⟨RX8, "overdue", "(I)I"⟩
abbrev cX8_couldEnter : ByteArray := prog_10_method_33_code
def yX8_couldEnter : MethodName := ⟨RX8, "couldEnter", "(III)Z"⟩
abbrev cX8_open : ByteArray := prog_10_method_34_code
def yX8_open : MethodName := ⟨RX8, "open", "(II)I"⟩
abbrev cX8_type : ByteArray := prog_10_method_35_code
def yX8_type : MethodName := ⟨RX8, "type", "(II)Z"⟩
abbrev cX8_letThrough : ByteArray := prog_10_method_36_code
def yX8_letThrough : MethodName := ⟨RX8, "letThrough", "(II)I"⟩
abbrev cX8_close : ByteArray := prog_10_method_37_code
def yX8_close : MethodName := ⟨RX8, "close", "(I)I"⟩
abbrev cX8_isOpen : ByteArray := prog_10_method_38_code
def yX8_isOpen : MethodName := ⟨RX8, "isOpen", "(I)Z"⟩
abbrev cX8_openSessions : ByteArray := prog_10_method_39_code
def yX8_openSessions : MethodName := ⟨RX8, "openSessions", "()I"⟩
abbrev cX8_pass : ByteArray := prog_10_method_40_code
def yX8_pass : MethodName := ⟨RX8, "pass", "(I)I"⟩
abbrev cX8_clock : ByteArray := prog_10_method_41_code
def yX8_clock : MethodName := ⟨RX8, "clock", "()I"⟩
abbrev cX8_steps : ByteArray := prog_10_method_42_code
def yX8_steps : MethodName := ⟨RX8, "steps", "()I"⟩
abbrev cX8_kind : ByteArray := prog_10_method_43_code
def yX8_kind : MethodName := ⟨RX8, "kind", "(I)I"⟩
abbrev cX8_seal : ByteArray := prog_10_method_44_code
def yX8_seal : MethodName := ⟨RX8, "seal", "(I)I"⟩
def RJx145de : String := "java/io/Serializable"
def TJx145de : u_T := fun k => match k with
  | _ => ("", "", "", false)
def tyJx145de : Nat → FieldType := fun k => match k with
  | _ => .int
abbrev wsJx145de0 : List Cond := u_ws RJx145de TJx145de 0
theorem nmJx145de : ∀ a, a < 0 → ∀ b, b < 0 → a ≠ b → (TJx145de a).2.1 ≠ (TJx145de b).2.1 := by decide +kernel
theorem tyJx145de_ok : ∀ k, k < 0 → parseFieldDescriptor (TJx145de k).2.2.1 = some (tyJx145de k) := by decide +kernel
def RJx8e188 : String := "java/lang/Cloneable"
def TJx8e188 : u_T := fun k => match k with
  | _ => ("", "", "", false)
def tyJx8e188 : Nat → FieldType := fun k => match k with
  | _ => .int
abbrev wsJx8e1880 : List Cond := u_ws RJx8e188 TJx8e188 0
theorem nmJx8e188 : ∀ a, a < 0 → ∀ b, b < 0 → a ≠ b → (TJx8e188 a).2.1 ≠ (TJx8e188 b).2.1 := by decide +kernel
theorem tyJx8e188_ok : ∀ k, k < 0 → parseFieldDescriptor (TJx8e188 k).2.2.1 = some (tyJx8e188 k) := by decide +kernel
def RJxab1ab : String := "java/lang/Iterable"
def TJxab1ab : u_T := fun k => match k with
  | _ => ("", "", "", false)
def tyJxab1ab : Nat → FieldType := fun k => match k with
  | _ => .int
abbrev wsJxab1ab0 : List Cond := u_ws RJxab1ab TJxab1ab 0
theorem nmJxab1ab : ∀ a, a < 0 → ∀ b, b < 0 → a ≠ b → (TJxab1ab a).2.1 ≠ (TJxab1ab b).2.1 := by decide +kernel
theorem tyJxab1ab_ok : ∀ k, k < 0 → parseFieldDescriptor (TJxab1ab k).2.2.1 = some (tyJxab1ab k) := by decide +kernel
def RJ9 : String := "java/lang/Math"
def TJ9 : u_T := fun k => match k with
  | _ => ("", "", "", false)
def tyJ9 : Nat → FieldType := fun k => match k with
  | _ => .int
abbrev wsJ90 : List Cond := u_ws RJ9 TJ9 0
theorem nmJ9 : ∀ a, a < 0 → ∀ b, b < 0 → a ≠ b → (TJ9 a).2.1 ≠ (TJ9 b).2.1 := by decide +kernel
theorem tyJ9_ok : ∀ k, k < 0 → parseFieldDescriptor (TJ9 k).2.2.1 = some (tyJ9 k) := by decide +kernel
abbrev cJ9_max_7cf53 : ByteArray := prog_18_method_65_code
def yJ9_max_7cf53 : MethodName := ⟨RJ9, "max", "(II)I"⟩
abbrev cJ9_min_7cf53 : ByteArray := prog_18_method_69_code
def yJ9_min_7cf53 : MethodName := ⟨RJ9, "min", "(II)I"⟩
def RJ0 : String := "java/lang/String"
def TJ0 : u_T := fun k => match k with
  | _ => ("", "", "", false)
def tyJ0 : Nat → FieldType := fun k => match k with
  | _ => .int
abbrev wsJ00 : List Cond := u_ws RJ0 TJ0 0
theorem nmJ0 : ∀ a, a < 0 → ∀ b, b < 0 → a ≠ b → (TJ0 a).2.1 ≠ (TJ0 b).2.1 := by decide +kernel
theorem tyJ0_ok : ∀ k, k < 0 → parseFieldDescriptor (TJ0 k).2.2.1 = some (tyJ0 k) := by decide +kernel
def RJ10 : String := "java/lang/System"
def TJ10 : u_T := fun k => match k with
  | _ => ("", "", "", false)
def tyJ10 : Nat → FieldType := fun k => match k with
  | _ => .int
abbrev wsJ100 : List Cond := u_ws RJ10 TJ10 0
theorem nmJ10 : ∀ a, a < 0 → ∀ b, b < 0 → a ≠ b → (TJ10 a).2.1 ≠ (TJ10 b).2.1 := by decide +kernel
theorem tyJ10_ok : ∀ k, k < 0 → parseFieldDescriptor (TJ10 k).2.2.1 = some (tyJ10 k) := by decide +kernel
def RJxa1e45 : String := "java/util/AbstractCollection"
def TJxa1e45 : u_T := fun k => match k with
  | _ => ("", "", "", false)
def tyJxa1e45 : Nat → FieldType := fun k => match k with
  | _ => .int
abbrev wsJxa1e450 : List Cond := u_ws RJxa1e45 TJxa1e45 0
theorem nmJxa1e45 : ∀ a, a < 0 → ∀ b, b < 0 → a ≠ b → (TJxa1e45 a).2.1 ≠ (TJxa1e45 b).2.1 := by decide +kernel
theorem tyJxa1e45_ok : ∀ k, k < 0 → parseFieldDescriptor (TJxa1e45 k).2.2.1 = some (tyJxa1e45 k) := by decide +kernel
abbrev cJxa1e45_init_da8c8 : ByteArray := prog_23_method_1_code
def yJxa1e45_init_da8c8 : MethodName := ⟨RJxa1e45, "<init>", "()V"⟩
def RJxc12de : String := "java/util/AbstractList"
def TJxc12de : u_T := fun k => match k with
  | _ => ("", "", "", false)
def tyJxc12de : Nat → FieldType := fun k => match k with
  | _ => .int
abbrev wsJxc12de0 : List Cond := u_ws RJxc12de TJxc12de 0
theorem nmJxc12de : ∀ a, a < 0 → ∀ b, b < 0 → a ≠ b → (TJxc12de a).2.1 ≠ (TJxc12de b).2.1 := by decide +kernel
theorem tyJxc12de_ok : ∀ k, k < 0 → parseFieldDescriptor (TJxc12de k).2.2.1 = some (tyJxc12de k) := by decide +kernel
abbrev cJxc12de_init_da8c8 : ByteArray := prog_24_method_1_code
def yJxc12de_init_da8c8 : MethodName := ⟨RJxc12de, "<init>", "()V"⟩
def RJx4a65c : String := "java/util/ArrayList"
def TJx4a65c : u_T := fun k => match k with
  | 0 => ("java/util/AbstractList", "modCount", "I", false)
  | 1 => ("java/util/ArrayList", "elementData", "[Ljava/lang/Object;", false)
  | _ => ("java/util/ArrayList", "size", "I", false)
def tyJx4a65c : Nat → FieldType := fun k => match k with
  | 0 => .int
  | 1 => .array (.object "java/lang/Object")
  | _ => .int
abbrev wsJx4a65c0 : List Cond := u_ws RJx4a65c TJx4a65c 3
theorem nmJx4a65c : ∀ a, a < 3 → ∀ b, b < 3 → a ≠ b → (TJx4a65c a).2.1 ≠ (TJx4a65c b).2.1 := by decide +kernel
theorem tyJx4a65c_ok : ∀ k, k < 3 → parseFieldDescriptor (TJx4a65c k).2.2.1 = some (tyJx4a65c k) := by decide +kernel
abbrev cJx4a65c_init_da8c8 : ByteArray := prog_25_method_2_code
def yJx4a65c_init_da8c8 : MethodName := ⟨RJx4a65c, "<init>", "()V"⟩
abbrev cJx4a65c_grow_92f84 : ByteArray := prog_25_method_6_code
def yJx4a65c_grow_92f84 : MethodName := ⟨RJx4a65c, "grow", "(I)[Ljava/lang/Object;"⟩
abbrev cJx4a65c_grow_d5877 : ByteArray := prog_25_method_7_code
def yJx4a65c_grow_d5877 : MethodName := ⟨RJx4a65c, "grow", "()[Ljava/lang/Object;"⟩
abbrev cJx4a65c_size_8abf5 : ByteArray := prog_25_method_8_code
def yJx4a65c_size_8abf5 : MethodName := ⟨RJx4a65c, "size", "()I"⟩
abbrev cJx4a65c_elementData_915e3 : ByteArray := prog_25_method_18_code
def yJx4a65c_elementData_915e3 : MethodName := ⟨RJx4a65c, "elementData", "(I)Ljava/lang/Object;"⟩
abbrev cJx4a65c_get_915e3 : ByteArray := prog_25_method_20_code
def yJx4a65c_get_915e3 : MethodName := ⟨RJx4a65c, "get", "(I)Ljava/lang/Object;"⟩
abbrev cJx4a65c_add_72be8 : ByteArray := prog_25_method_24_code
def yJx4a65c_add_72be8 : MethodName := ⟨RJx4a65c, "add", "(Ljava/lang/Object;[Ljava/lang/Object;I)V"⟩
abbrev cJx4a65c_add_9ea2d : ByteArray := prog_25_method_25_code
def yJx4a65c_add_9ea2d : MethodName := ⟨RJx4a65c, "add", "(Ljava/lang/Object;)Z"⟩
def RJ7 : String := "java/util/Arrays"
def TJ7 : u_T := fun k => match k with
  | _ => ("", "", "", false)
def tyJ7 : Nat → FieldType := fun k => match k with
  | _ => .int
abbrev wsJ70 : List Cond := u_ws RJ7 TJ7 0
theorem nmJ7 : ∀ a, a < 0 → ∀ b, b < 0 → a ≠ b → (TJ7 a).2.1 ≠ (TJ7 b).2.1 := by decide +kernel
theorem tyJ7_ok : ∀ k, k < 0 → parseFieldDescriptor (TJ7 k).2.2.1 = some (tyJ7 k) := by decide +kernel
abbrev cJ7_copyOf_1904c : ByteArray := prog_26_method_119_code
def yJ7_copyOf_1904c : MethodName := ⟨RJ7, "copyOf", "([Ljava/lang/Object;I)[Ljava/lang/Object;"⟩
abbrev cJ7_copyOf_6403c : ByteArray := prog_26_method_120_code
def yJ7_copyOf_6403c : MethodName := ⟨RJ7, "copyOf", "([Ljava/lang/Object;ILjava/lang/Class;)[Ljava/lang/Object;"⟩
def RJx5ef63 : String := "java/util/Collection"
def TJx5ef63 : u_T := fun k => match k with
  | _ => ("", "", "", false)
def tyJx5ef63 : Nat → FieldType := fun k => match k with
  | _ => .int
abbrev wsJx5ef630 : List Cond := u_ws RJx5ef63 TJx5ef63 0
theorem nmJx5ef63 : ∀ a, a < 0 → ∀ b, b < 0 → a ≠ b → (TJx5ef63 a).2.1 ≠ (TJx5ef63 b).2.1 := by decide +kernel
theorem tyJx5ef63_ok : ∀ k, k < 0 → parseFieldDescriptor (TJx5ef63 k).2.2.1 = some (tyJx5ef63 k) := by decide +kernel
def RJxbd725 : String := "java/util/List"
def TJxbd725 : u_T := fun k => match k with
  | _ => ("", "", "", false)
def tyJxbd725 : Nat → FieldType := fun k => match k with
  | _ => .int
abbrev wsJxbd7250 : List Cond := u_ws RJxbd725 TJxbd725 0
theorem nmJxbd725 : ∀ a, a < 0 → ∀ b, b < 0 → a ≠ b → (TJxbd725 a).2.1 ≠ (TJxbd725 b).2.1 := by decide +kernel
theorem tyJxbd725_ok : ∀ k, k < 0 → parseFieldDescriptor (TJxbd725 k).2.2.1 = some (tyJxbd725 k) := by decide +kernel
def RJ15 : String := "java/util/Objects"
def TJ15 : u_T := fun k => match k with
  | _ => ("", "", "", false)
def tyJ15 : Nat → FieldType := fun k => match k with
  | _ => .int
abbrev wsJ150 : List Cond := u_ws RJ15 TJ15 0
theorem nmJ15 : ∀ a, a < 0 → ∀ b, b < 0 → a ≠ b → (TJ15 a).2.1 ≠ (TJ15 b).2.1 := by decide +kernel
theorem tyJ15_ok : ∀ k, k < 0 → parseFieldDescriptor (TJ15 k).2.2.1 = some (tyJ15 k) := by decide +kernel
abbrev cJ15_checkIndex_7cf53 : ByteArray := prog_29_method_17_code
def yJ15_checkIndex_7cf53 : MethodName := ⟨RJ15, "checkIndex", "(II)I"⟩
def RJxf0a74 : String := "java/util/RandomAccess"
def TJxf0a74 : u_T := fun k => match k with
  | _ => ("", "", "", false)
def tyJxf0a74 : Nat → FieldType := fun k => match k with
  | _ => .int
abbrev wsJxf0a740 : List Cond := u_ws RJxf0a74 TJxf0a74 0
theorem nmJxf0a74 : ∀ a, a < 0 → ∀ b, b < 0 → a ≠ b → (TJxf0a74 a).2.1 ≠ (TJxf0a74 b).2.1 := by decide +kernel
theorem tyJxf0a74_ok : ∀ k, k < 0 → parseFieldDescriptor (TJxf0a74 k).2.2.1 = some (tyJxf0a74 k) := by decide +kernel
def RJxa66e6 : String := "java/util/SequencedCollection"
def TJxa66e6 : u_T := fun k => match k with
  | _ => ("", "", "", false)
def tyJxa66e6 : Nat → FieldType := fun k => match k with
  | _ => .int
abbrev wsJxa66e60 : List Cond := u_ws RJxa66e6 TJxa66e6 0
theorem nmJxa66e6 : ∀ a, a < 0 → ∀ b, b < 0 → a ≠ b → (TJxa66e6 a).2.1 ≠ (TJxa66e6 b).2.1 := by decide +kernel
theorem tyJxa66e6_ok : ∀ k, k < 0 → parseFieldDescriptor (TJxa66e6 k).2.2.1 = some (tyJxa66e6 k) := by decide +kernel
def RJ8 : String := "jdk/internal/util/ArraysSupport"
def TJ8 : u_T := fun k => match k with
  | _ => ("", "", "", false)
def tyJ8 : Nat → FieldType := fun k => match k with
  | _ => .int
abbrev wsJ80 : List Cond := u_ws RJ8 TJ8 0
theorem nmJ8 : ∀ a, a < 0 → ∀ b, b < 0 → a ≠ b → (TJ8 a).2.1 ≠ (TJ8 b).2.1 := by decide +kernel
theorem tyJ8_ok : ∀ k, k < 0 → parseFieldDescriptor (TJ8 k).2.2.1 = some (tyJ8 k) := by decide +kernel
abbrev cJ8_newLength_cabcc : ByteArray := prog_32_method_27_code
def yJ8_newLength_cabcc : MethodName := ⟨RJ8, "newLength", "(III)I"⟩
abbrev cJ8_hugeLength_7cf53 : ByteArray := prog_32_method_28_code
def yJ8_hugeLength_7cf53 : MethodName := ⟨RJ8, "hugeLength", "(II)I"⟩
def RJ3 : String := "jdk/internal/util/Preconditions"
def TJ3 : u_T := fun k => match k with
  | _ => ("", "", "", false)
def tyJ3 : Nat → FieldType := fun k => match k with
  | _ => .int
abbrev wsJ30 : List Cond := u_ws RJ3 TJ3 0
theorem nmJ3 : ∀ a, a < 0 → ∀ b, b < 0 → a ≠ b → (TJ3 a).2.1 ≠ (TJ3 b).2.1 := by decide +kernel
theorem tyJ3_ok : ∀ k, k < 0 → parseFieldDescriptor (TJ3 k).2.2.1 = some (tyJ3 k) := by decide +kernel
abbrev cJ3_checkIndex_8e157 : ByteArray := prog_33_method_11_code
def yJ3_checkIndex_8e157 : MethodName := ⟨RJ3, "checkIndex", "(IILjava/util/function/BiFunction;)I"⟩
def RL : String := "AccessGateLaw"
abbrev cL_addPerson : ByteArray := method_3_code
def yL_addPerson : MethodName := ⟨RL, "addPerson", "(LAccessGate;I[J)I"⟩
abbrev cL_addMachine : ByteArray := method_4_code
def yL_addMachine : MethodName := ⟨RL, "addMachine", "(LAccessGate;I[J)I"⟩
abbrev cL_setLabel : ByteArray := method_5_code
def yL_setLabel : MethodName := ⟨RL, "setLabel", "(LAccessGate;IIZ[J)I"⟩
abbrev cL_takeAway : ByteArray := method_6_code
def yL_takeAway : MethodName := ⟨RL, "takeAway", "(LAccessGate;II[J)I"⟩
abbrev cL_ask : ByteArray := method_7_code
def yL_ask : MethodName := ⟨RL, "ask", "(LAccessGate;III[J)I"⟩
abbrev cL_approve : ByteArray := method_8_code
def yL_approve : MethodName := ⟨RL, "approve", "(LAccessGate;II[J)I"⟩
abbrev cL_deny : ByteArray := method_9_code
def yL_deny : MethodName := ⟨RL, "deny", "(LAccessGate;II)I"⟩
abbrev cL_askState : ByteArray := method_10_code
def yL_askState : MethodName := ⟨RL, "askState", "(LAccessGate;I[J)I"⟩
abbrev cL_enter : ByteArray := method_11_code
def yL_enter : MethodName := ⟨RL, "enter", "(LAccessGate;II[J)I"⟩
abbrev cL_lookAt : ByteArray := method_12_code
def yL_lookAt : MethodName := ⟨RL, "lookAt", "(LAccessGate;II[J)I"⟩
abbrev cL_overdue : ByteArray := method_13_code
def yL_overdue : MethodName := ⟨RL, "overdue", "(LAccessGate;I[J)I"⟩
abbrev cL_couldEnter : ByteArray := method_14_code
def yL_couldEnter : MethodName := ⟨RL, "couldEnter", "(LAccessGate;III[J)I"⟩
abbrev cL_open : ByteArray := method_15_code
def yL_open : MethodName := ⟨RL, "open", "(LAccessGate;II[J)I"⟩
abbrev cL_type : ByteArray := method_16_code
def yL_type : MethodName := ⟨RL, "type", "(LAccessGate;II[J)I"⟩
abbrev cL_letThrough : ByteArray := method_17_code
def yL_letThrough : MethodName := ⟨RL, "letThrough", "(LAccessGate;II[J)I"⟩
abbrev cL_close : ByteArray := method_18_code
def yL_close : MethodName := ⟨RL, "close", "(LAccessGate;I[J)I"⟩
abbrev cL_isOpen : ByteArray := method_19_code
def yL_isOpen : MethodName := ⟨RL, "isOpen", "(LAccessGate;I[J)I"⟩
abbrev cL_pass : ByteArray := method_20_code
def yL_pass : MethodName := ⟨RL, "pass", "(LAccessGate;I[J)I"⟩
abbrev cL_kind : ByteArray := method_21_code
def yL_kind : MethodName := ⟨RL, "kind", "(LAccessGate;I[J)I"⟩
abbrev cL_seal : ByteArray := method_22_code
def yL_seal : MethodName := ⟨RL, "seal", "(LAccessGate;I[J)I"⟩
abbrev cL_law : ByteArray := code
def yL_law : MethodName := ⟨RL, "law", "([I)Z"⟩
abbrev vwCl : List vw_C := [(RJx4a65c, TJx4a65c, 3), (RX0, TX0, 6), (RX1, TX1, 4), (RX2, TX2, 2), (RX3, TX3, 3), (RX4, TX4, 4), (RX5, TX5, 6), (RX6, TX6, 4), (RX7, TX7, 9), (RX8, TX8, 34)]
end
section
theorem dX0_init_0 : decode cX0_init 0 = .ok (.aload_n 0, 1) := by decide +kernel
theorem dX0_init_1 : decode cX0_init 1 = .ok (.invokespecial 3, 3) := by decide +kernel
theorem dX0_init_4 : decode cX0_init 4 = .ok (.aload_n 0, 1) := by decide +kernel
theorem dX0_init_5 : decode cX0_init 5 = .ok (.aconst_null, 1) := by decide +kernel
theorem dX0_init_6 : decode cX0_init 6 = .ok (.putfield 9, 3) := by decide +kernel
theorem dX0_init_9 : decode cX0_init 9 = .ok (.aload_n 0, 1) := by decide +kernel
theorem dX0_init_10 : decode cX0_init 10 = .ok (.iconst 0, 1) := by decide +kernel
theorem dX0_init_11 : decode cX0_init 11 = .ok (.putfield 15, 3) := by decide +kernel
theorem dX0_init_14 : decode cX0_init 14 = .ok (.aload_n 0, 1) := by decide +kernel
theorem dX0_init_15 : decode cX0_init 15 = .ok (.aload_n 1, 1) := by decide +kernel
theorem dX0_init_16 : decode cX0_init 16 = .ok (.putfield 19, 3) := by decide +kernel
theorem dX0_init_19 : decode cX0_init 19 = .ok (.aload_n 0, 1) := by decide +kernel
theorem dX0_init_20 : decode cX0_init 20 = .ok (.aload_n 2, 1) := by decide +kernel
theorem dX0_init_21 : decode cX0_init 21 = .ok (.putfield 22, 3) := by decide +kernel
theorem dX0_init_24 : decode cX0_init 24 = .ok (.aload_n 0, 1) := by decide +kernel
theorem dX0_init_25 : decode cX0_init 25 = .ok (.iload_n 3, 1) := by decide +kernel
theorem dX0_init_26 : decode cX0_init 26 = .ok (.putfield 26, 3) := by decide +kernel
theorem dX0_init_29 : decode cX0_init 29 = .ok (.aload_n 0, 1) := by decide +kernel
theorem dX0_init_30 : decode cX0_init 30 = .ok (.iload 4, 2) := by decide +kernel
theorem dX0_init_32 : decode cX0_init 32 = .ok (.putfield 29, 3) := by decide +kernel
theorem dX0_init_35 : decode cX0_init 35 = .ok (.return_, 1) := by decide +kernel
theorem dX0_stateAt_0 : decode cX0_stateAt 0 = .ok (.aload_n 0, 1) := by decide +kernel
theorem dX0_stateAt_1 : decode cX0_stateAt 1 = .ok (.getfield 15, 3) := by decide +kernel
theorem dX0_stateAt_4 : decode cX0_stateAt 4 = .ok (.ifCond .ne 18, 3) := by decide +kernel
theorem dX0_stateAt_7 : decode cX0_stateAt 7 = .ok (.iload_n 1, 1) := by decide +kernel
theorem dX0_stateAt_8 : decode cX0_stateAt 8 = .ok (.aload_n 0, 1) := by decide +kernel
theorem dX0_stateAt_9 : decode cX0_stateAt 9 = .ok (.getfield 29, 3) := by decide +kernel
theorem dX0_stateAt_12 : decode cX0_stateAt 12 = .ok (.isub, 1) := by decide +kernel
theorem dX0_stateAt_13 : decode cX0_stateAt 13 = .ok (.bipush 60, 2) := by decide +kernel
theorem dX0_stateAt_15 : decode cX0_stateAt 15 = .ok (.if_icmp .lt 7, 3) := by decide +kernel
theorem dX0_stateAt_18 : decode cX0_stateAt 18 = .ok (.iconst 3, 1) := by decide +kernel
theorem dX0_stateAt_19 : decode cX0_stateAt 19 = .ok (.goto 7, 3) := by decide +kernel
theorem dX0_stateAt_22 : decode cX0_stateAt 22 = .ok (.aload_n 0, 1) := by decide +kernel
theorem dX0_stateAt_23 : decode cX0_stateAt 23 = .ok (.getfield 15, 3) := by decide +kernel
theorem dX0_stateAt_26 : decode cX0_stateAt 26 = .ok (.ireturn, 1) := by decide +kernel
theorem dX1_init_0 : decode cX1_init 0 = .ok (.aload_n 0, 1) := by decide +kernel
theorem dX1_init_1 : decode cX1_init 1 = .ok (.invokespecial 3, 3) := by decide +kernel
theorem dX1_init_4 : decode cX1_init 4 = .ok (.aload_n 0, 1) := by decide +kernel
theorem dX1_init_5 : decode cX1_init 5 = .ok (.iconst 0, 1) := by decide +kernel
theorem dX1_init_6 : decode cX1_init 6 = .ok (.putfield 9, 3) := by decide +kernel
theorem dX1_init_9 : decode cX1_init 9 = .ok (.aload_n 0, 1) := by decide +kernel
theorem dX1_init_10 : decode cX1_init 10 = .ok (.aload_n 1, 1) := by decide +kernel
theorem dX1_init_11 : decode cX1_init 11 = .ok (.putfield 15, 3) := by decide +kernel
theorem dX1_init_14 : decode cX1_init 14 = .ok (.aload_n 0, 1) := by decide +kernel
theorem dX1_init_15 : decode cX1_init 15 = .ok (.aload_n 2, 1) := by decide +kernel
theorem dX1_init_16 : decode cX1_init 16 = .ok (.putfield 19, 3) := by decide +kernel
theorem dX1_init_19 : decode cX1_init 19 = .ok (.aload_n 0, 1) := by decide +kernel
theorem dX1_init_20 : decode cX1_init 20 = .ok (.iload_n 3, 1) := by decide +kernel
theorem dX1_init_21 : decode cX1_init 21 = .ok (.putfield 23, 3) := by decide +kernel
theorem dX1_init_24 : decode cX1_init 24 = .ok (.return_, 1) := by decide +kernel
theorem dX1_isOverdueAt_0 : decode cX1_isOverdueAt 0 = .ok (.aload_n 0, 1) := by decide +kernel
theorem dX1_isOverdueAt_1 : decode cX1_isOverdueAt 1 = .ok (.getfield 9, 3) := by decide +kernel
theorem dX1_isOverdueAt_4 : decode cX1_isOverdueAt 4 = .ok (.ifCond .ne 19, 3) := by decide +kernel
theorem dX1_isOverdueAt_7 : decode cX1_isOverdueAt 7 = .ok (.iload_n 1, 1) := by decide +kernel
theorem dX1_isOverdueAt_8 : decode cX1_isOverdueAt 8 = .ok (.aload_n 0, 1) := by decide +kernel
theorem dX1_isOverdueAt_9 : decode cX1_isOverdueAt 9 = .ok (.getfield 23, 3) := by decide +kernel
theorem dX1_isOverdueAt_12 : decode cX1_isOverdueAt 12 = .ok (.isub, 1) := by decide +kernel
theorem dX1_isOverdueAt_13 : decode cX1_isOverdueAt 13 = .ok (.sipush 1440, 3) := by decide +kernel
theorem dX1_isOverdueAt_16 : decode cX1_isOverdueAt 16 = .ok (.if_icmp .lt 7, 3) := by decide +kernel
theorem dX1_isOverdueAt_19 : decode cX1_isOverdueAt 19 = .ok (.iconst 1, 1) := by decide +kernel
theorem dX1_isOverdueAt_20 : decode cX1_isOverdueAt 20 = .ok (.goto 4, 3) := by decide +kernel
theorem dX1_isOverdueAt_23 : decode cX1_isOverdueAt 23 = .ok (.iconst 0, 1) := by decide +kernel
theorem dX1_isOverdueAt_24 : decode cX1_isOverdueAt 24 = .ok (.ireturn, 1) := by decide +kernel
theorem dX2_init_0 : decode cX2_init 0 = .ok (.aload_n 0, 1) := by decide +kernel
theorem dX2_init_1 : decode cX2_init 1 = .ok (.invokespecial 1, 3) := by decide +kernel
theorem dX2_init_4 : decode cX2_init 4 = .ok (.aload_n 0, 1) := by decide +kernel
theorem dX2_init_5 : decode cX2_init 5 = .ok (.iload_n 1, 1) := by decide +kernel
theorem dX2_init_6 : decode cX2_init 6 = .ok (.putfield 7, 3) := by decide +kernel
theorem dX2_init_9 : decode cX2_init 9 = .ok (.aload_n 0, 1) := by decide +kernel
theorem dX2_init_10 : decode cX2_init 10 = .ok (.iload_n 2, 1) := by decide +kernel
theorem dX2_init_11 : decode cX2_init 11 = .ok (.putfield 13, 3) := by decide +kernel
theorem dX2_init_14 : decode cX2_init 14 = .ok (.return_, 1) := by decide +kernel
theorem dX3_init_0 : decode cX3_init 0 = .ok (.aload_n 0, 1) := by decide +kernel
theorem dX3_init_1 : decode cX3_init 1 = .ok (.invokespecial 1, 3) := by decide +kernel
theorem dX3_init_4 : decode cX3_init 4 = .ok (.aload_n 0, 1) := by decide +kernel
theorem dX3_init_5 : decode cX3_init 5 = .ok (.iconst 0, 1) := by decide +kernel
theorem dX3_init_6 : decode cX3_init 6 = .ok (.putfield 7, 3) := by decide +kernel
theorem dX3_init_9 : decode cX3_init 9 = .ok (.aload_n 0, 1) := by decide +kernel
theorem dX3_init_10 : decode cX3_init 10 = .ok (.iload_n 1, 1) := by decide +kernel
theorem dX3_init_11 : decode cX3_init 11 = .ok (.putfield 13, 3) := by decide +kernel
theorem dX3_init_14 : decode cX3_init 14 = .ok (.aload_n 0, 1) := by decide +kernel
theorem dX3_init_15 : decode cX3_init 15 = .ok (.iload_n 2, 1) := by decide +kernel
theorem dX3_init_16 : decode cX3_init 16 = .ok (.putfield 16, 3) := by decide +kernel
theorem dX3_init_19 : decode cX3_init 19 = .ok (.return_, 1) := by decide +kernel
theorem dX3_hasLabel_0 : decode cX3_hasLabel 0 = .ok (.aload_n 0, 1) := by decide +kernel
theorem dX3_hasLabel_1 : decode cX3_hasLabel 1 = .ok (.getfield 7, 3) := by decide +kernel
theorem dX3_hasLabel_4 : decode cX3_hasLabel 4 = .ok (.iload_n 1, 1) := by decide +kernel
theorem dX3_hasLabel_5 : decode cX3_hasLabel 5 = .ok (.ishr, 1) := by decide +kernel
theorem dX3_hasLabel_6 : decode cX3_hasLabel 6 = .ok (.iconst 1, 1) := by decide +kernel
theorem dX3_hasLabel_7 : decode cX3_hasLabel 7 = .ok (.iand, 1) := by decide +kernel
theorem dX3_hasLabel_8 : decode cX3_hasLabel 8 = .ok (.iconst 1, 1) := by decide +kernel
theorem dX3_hasLabel_9 : decode cX3_hasLabel 9 = .ok (.if_icmp .ne 7, 3) := by decide +kernel
theorem dX3_hasLabel_12 : decode cX3_hasLabel 12 = .ok (.iconst 1, 1) := by decide +kernel
theorem dX3_hasLabel_13 : decode cX3_hasLabel 13 = .ok (.goto 4, 3) := by decide +kernel
theorem dX3_hasLabel_16 : decode cX3_hasLabel 16 = .ok (.iconst 0, 1) := by decide +kernel
theorem dX3_hasLabel_17 : decode cX3_hasLabel 17 = .ok (.ireturn, 1) := by decide +kernel
theorem dX3_keepLabel_0 : decode cX3_keepLabel 0 = .ok (.iconst 1, 1) := by decide +kernel
theorem dX3_keepLabel_1 : decode cX3_keepLabel 1 = .ok (.iload_n 1, 1) := by decide +kernel
theorem dX3_keepLabel_2 : decode cX3_keepLabel 2 = .ok (.ishl, 1) := by decide +kernel
theorem dX3_keepLabel_3 : decode cX3_keepLabel 3 = .ok (.istore_n 3, 1) := by decide +kernel
theorem dX3_keepLabel_4 : decode cX3_keepLabel 4 = .ok (.aload_n 0, 1) := by decide +kernel
theorem dX3_keepLabel_5 : decode cX3_keepLabel 5 = .ok (.iload_n 2, 1) := by decide +kernel
theorem dX3_keepLabel_6 : decode cX3_keepLabel 6 = .ok (.ifCond .eq 12, 3) := by decide +kernel
theorem dX3_keepLabel_9 : decode cX3_keepLabel 9 = .ok (.aload_n 0, 1) := by decide +kernel
theorem dX3_keepLabel_10 : decode cX3_keepLabel 10 = .ok (.getfield 7, 3) := by decide +kernel
theorem dX3_keepLabel_13 : decode cX3_keepLabel 13 = .ok (.iload_n 3, 1) := by decide +kernel
theorem dX3_keepLabel_14 : decode cX3_keepLabel 14 = .ok (.ior, 1) := by decide +kernel
theorem dX3_keepLabel_15 : decode cX3_keepLabel 15 = .ok (.goto 11, 3) := by decide +kernel
theorem dX3_keepLabel_18 : decode cX3_keepLabel 18 = .ok (.aload_n 0, 1) := by decide +kernel
theorem dX3_keepLabel_19 : decode cX3_keepLabel 19 = .ok (.getfield 7, 3) := by decide +kernel
theorem dX3_keepLabel_22 : decode cX3_keepLabel 22 = .ok (.iload_n 3, 1) := by decide +kernel
theorem dX3_keepLabel_23 : decode cX3_keepLabel 23 = .ok (.iconst (-1), 1) := by decide +kernel
theorem dX3_keepLabel_24 : decode cX3_keepLabel 24 = .ok (.ixor, 1) := by decide +kernel
theorem dX3_keepLabel_25 : decode cX3_keepLabel 25 = .ok (.iand, 1) := by decide +kernel
theorem dX3_keepLabel_26 : decode cX3_keepLabel 26 = .ok (.putfield 7, 3) := by decide +kernel
theorem dX3_keepLabel_29 : decode cX3_keepLabel 29 = .ok (.return_, 1) := by decide +kernel
theorem dX3_mayJudge_0 : decode cX3_mayJudge 0 = .ok (.aload_n 0, 1) := by decide +kernel
theorem dX3_mayJudge_1 : decode cX3_mayJudge 1 = .ok (.getfield 16, 3) := by decide +kernel
theorem dX3_mayJudge_4 : decode cX3_mayJudge 4 = .ok (.aload_n 1, 1) := by decide +kernel
theorem dX3_mayJudge_5 : decode cX3_mayJudge 5 = .ok (.getfield 16, 3) := by decide +kernel
theorem dX3_mayJudge_8 : decode cX3_mayJudge 8 = .ok (.if_icmp .eq 18, 3) := by decide +kernel
theorem dX3_mayJudge_11 : decode cX3_mayJudge 11 = .ok (.aload_n 0, 1) := by decide +kernel
theorem dX3_mayJudge_12 : decode cX3_mayJudge 12 = .ok (.aload_n 2, 1) := by decide +kernel
theorem dX3_mayJudge_13 : decode cX3_mayJudge 13 = .ok (.getfield 19, 3) := by decide +kernel
theorem dX3_mayJudge_16 : decode cX3_mayJudge 16 = .ok (.invokevirtual 24, 3) := by decide +kernel
theorem dX3_mayJudge_19 : decode cX3_mayJudge 19 = .ok (.ifCond .eq 7, 3) := by decide +kernel
theorem dX3_mayJudge_22 : decode cX3_mayJudge 22 = .ok (.iconst 1, 1) := by decide +kernel
theorem dX3_mayJudge_23 : decode cX3_mayJudge 23 = .ok (.goto 4, 3) := by decide +kernel
theorem dX3_mayJudge_26 : decode cX3_mayJudge 26 = .ok (.iconst 0, 1) := by decide +kernel
theorem dX3_mayJudge_27 : decode cX3_mayJudge 27 = .ok (.ireturn, 1) := by decide +kernel
theorem dX4_init_0 : decode cX4_init 0 = .ok (.aload_n 0, 1) := by decide +kernel
theorem dX4_init_1 : decode cX4_init 1 = .ok (.invokespecial 1, 3) := by decide +kernel
theorem dX4_init_4 : decode cX4_init 4 = .ok (.aload_n 0, 1) := by decide +kernel
theorem dX4_init_5 : decode cX4_init 5 = .ok (.aload_n 1, 1) := by decide +kernel
theorem dX4_init_6 : decode cX4_init 6 = .ok (.putfield 7, 3) := by decide +kernel
theorem dX4_init_9 : decode cX4_init 9 = .ok (.aload_n 0, 1) := by decide +kernel
theorem dX4_init_10 : decode cX4_init 10 = .ok (.aload_n 2, 1) := by decide +kernel
theorem dX4_init_11 : decode cX4_init 11 = .ok (.putfield 13, 3) := by decide +kernel
theorem dX4_init_14 : decode cX4_init 14 = .ok (.aload_n 0, 1) := by decide +kernel
theorem dX4_init_15 : decode cX4_init 15 = .ok (.iload_n 3, 1) := by decide +kernel
theorem dX4_init_16 : decode cX4_init 16 = .ok (.putfield 17, 3) := by decide +kernel
theorem dX4_init_19 : decode cX4_init 19 = .ok (.aload_n 0, 1) := by decide +kernel
theorem dX4_init_20 : decode cX4_init 20 = .ok (.iload 4, 2) := by decide +kernel
theorem dX4_init_22 : decode cX4_init 22 = .ok (.putfield 21, 3) := by decide +kernel
theorem dX4_init_25 : decode cX4_init 25 = .ok (.return_, 1) := by decide +kernel
theorem dX4_holdsAt_0 : decode cX4_holdsAt 0 = .ok (.aload_n 0, 1) := by decide +kernel
theorem dX4_holdsAt_1 : decode cX4_holdsAt 1 = .ok (.getfield 17, 3) := by decide +kernel
theorem dX4_holdsAt_4 : decode cX4_holdsAt 4 = .ok (.iload_n 1, 1) := by decide +kernel
theorem dX4_holdsAt_5 : decode cX4_holdsAt 5 = .ok (.if_icmp .gt 15, 3) := by decide +kernel
theorem dX4_holdsAt_8 : decode cX4_holdsAt 8 = .ok (.iload_n 1, 1) := by decide +kernel
theorem dX4_holdsAt_9 : decode cX4_holdsAt 9 = .ok (.aload_n 0, 1) := by decide +kernel
theorem dX4_holdsAt_10 : decode cX4_holdsAt 10 = .ok (.getfield 21, 3) := by decide +kernel
theorem dX4_holdsAt_13 : decode cX4_holdsAt 13 = .ok (.if_icmp .ge 7, 3) := by decide +kernel
theorem dX4_holdsAt_16 : decode cX4_holdsAt 16 = .ok (.iconst 1, 1) := by decide +kernel
theorem dX4_holdsAt_17 : decode cX4_holdsAt 17 = .ok (.goto 4, 3) := by decide +kernel
theorem dX4_holdsAt_20 : decode cX4_holdsAt 20 = .ok (.iconst 0, 1) := by decide +kernel
theorem dX4_holdsAt_21 : decode cX4_holdsAt 21 = .ok (.ireturn, 1) := by decide +kernel
theorem dX5_init_0 : decode cX5_init 0 = .ok (.aload_n 0, 1) := by decide +kernel
theorem dX5_init_1 : decode cX5_init 1 = .ok (.invokespecial 3, 3) := by decide +kernel
theorem dX5_init_4 : decode cX5_init 4 = .ok (.aload_n 0, 1) := by decide +kernel
theorem dX5_init_5 : decode cX5_init 5 = .ok (.iconst 0, 1) := by decide +kernel
theorem dX5_init_6 : decode cX5_init 6 = .ok (.putfield 9, 3) := by decide +kernel
theorem dX5_init_9 : decode cX5_init 9 = .ok (.aload_n 0, 1) := by decide +kernel
theorem dX5_init_10 : decode cX5_init 10 = .ok (.iconst (-1), 1) := by decide +kernel
theorem dX5_init_11 : decode cX5_init 11 = .ok (.putfield 15, 3) := by decide +kernel
theorem dX5_init_14 : decode cX5_init 14 = .ok (.aload_n 0, 1) := by decide +kernel
theorem dX5_init_15 : decode cX5_init 15 = .ok (.iconst 0, 1) := by decide +kernel
theorem dX5_init_16 : decode cX5_init 16 = .ok (.putfield 19, 3) := by decide +kernel
theorem dX5_init_19 : decode cX5_init 19 = .ok (.aload_n 0, 1) := by decide +kernel
theorem dX5_init_20 : decode cX5_init 20 = .ok (.aload_n 1, 1) := by decide +kernel
theorem dX5_init_21 : decode cX5_init 21 = .ok (.putfield 22, 3) := by decide +kernel
theorem dX5_init_24 : decode cX5_init 24 = .ok (.aload_n 0, 1) := by decide +kernel
theorem dX5_init_25 : decode cX5_init 25 = .ok (.aload_n 2, 1) := by decide +kernel
theorem dX5_init_26 : decode cX5_init 26 = .ok (.putfield 26, 3) := by decide +kernel
theorem dX5_init_29 : decode cX5_init 29 = .ok (.aload_n 0, 1) := by decide +kernel
theorem dX5_init_30 : decode cX5_init 30 = .ok (.iload_n 3, 1) := by decide +kernel
theorem dX5_init_31 : decode cX5_init 31 = .ok (.putfield 30, 3) := by decide +kernel
theorem dX5_init_34 : decode cX5_init 34 = .ok (.return_, 1) := by decide +kernel
theorem dX5_holdsLine_0 : decode cX5_holdsLine 0 = .ok (.aload_n 0, 1) := by decide +kernel
theorem dX5_holdsLine_1 : decode cX5_holdsLine 1 = .ok (.getfield 15, 3) := by decide +kernel
theorem dX5_holdsLine_4 : decode cX5_holdsLine 4 = .ok (.iconst (-1), 1) := by decide +kernel
theorem dX5_holdsLine_5 : decode cX5_holdsLine 5 = .ok (.if_icmp .eq 7, 3) := by decide +kernel
theorem dX5_holdsLine_8 : decode cX5_holdsLine 8 = .ok (.iconst 1, 1) := by decide +kernel
theorem dX5_holdsLine_9 : decode cX5_holdsLine 9 = .ok (.goto 4, 3) := by decide +kernel
theorem dX5_holdsLine_12 : decode cX5_holdsLine 12 = .ok (.iconst 0, 1) := by decide +kernel
theorem dX5_holdsLine_13 : decode cX5_holdsLine 13 = .ok (.ireturn, 1) := by decide +kernel
theorem dX5_restsAt_0 : decode cX5_restsAt 0 = .ok (.iload_n 1, 1) := by decide +kernel
theorem dX5_restsAt_1 : decode cX5_restsAt 1 = .ok (.aload_n 0, 1) := by decide +kernel
theorem dX5_restsAt_2 : decode cX5_restsAt 2 = .ok (.getfield 30, 3) := by decide +kernel
theorem dX5_restsAt_5 : decode cX5_restsAt 5 = .ok (.isub, 1) := by decide +kernel
theorem dX5_restsAt_6 : decode cX5_restsAt 6 = .ok (.bipush 15, 2) := by decide +kernel
theorem dX5_restsAt_8 : decode cX5_restsAt 8 = .ok (.if_icmp .lt 7, 3) := by decide +kernel
theorem dX5_restsAt_11 : decode cX5_restsAt 11 = .ok (.iconst 1, 1) := by decide +kernel
theorem dX5_restsAt_12 : decode cX5_restsAt 12 = .ok (.goto 4, 3) := by decide +kernel
theorem dX5_restsAt_15 : decode cX5_restsAt 15 = .ok (.iconst 0, 1) := by decide +kernel
theorem dX5_restsAt_16 : decode cX5_restsAt 16 = .ok (.ireturn, 1) := by decide +kernel
theorem dX6_init_0 : decode cX6_init 0 = .ok (.aload_n 0, 1) := by decide +kernel
theorem dX6_init_1 : decode cX6_init 1 = .ok (.invokespecial 3, 3) := by decide +kernel
theorem dX6_init_4 : decode cX6_init 4 = .ok (.aload_n 0, 1) := by decide +kernel
theorem dX6_init_5 : decode cX6_init 5 = .ok (.sipush 1024, 3) := by decide +kernel
theorem dX6_init_8 : decode cX6_init 8 = .ok (.newarray .int, 2) := by decide +kernel
theorem dX6_init_10 : decode cX6_init 10 = .ok (.putfield 9, 3) := by decide +kernel
theorem dX6_init_13 : decode cX6_init 13 = .ok (.aload_n 0, 1) := by decide +kernel
theorem dX6_init_14 : decode cX6_init 14 = .ok (.sipush 1024, 3) := by decide +kernel
theorem dX6_init_17 : decode cX6_init 17 = .ok (.newarray .int, 2) := by decide +kernel
theorem dX6_init_19 : decode cX6_init 19 = .ok (.putfield 15, 3) := by decide +kernel
theorem dX6_init_22 : decode cX6_init 22 = .ok (.aload_n 0, 1) := by decide +kernel
theorem dX6_init_23 : decode cX6_init 23 = .ok (.iconst 0, 1) := by decide +kernel
theorem dX6_init_24 : decode cX6_init 24 = .ok (.putfield 18, 3) := by decide +kernel
theorem dX6_init_27 : decode cX6_init 27 = .ok (.aload_n 0, 1) := by decide +kernel
theorem dX6_init_28 : decode cX6_init 28 = .ok (.iconst 1, 1) := by decide +kernel
theorem dX6_init_29 : decode cX6_init 29 = .ok (.putfield 22, 3) := by decide +kernel
theorem dX6_init_32 : decode cX6_init 32 = .ok (.return_, 1) := by decide +kernel
theorem dX6_add_0 : decode cX6_add 0 = .ok (.aload_n 0, 1) := by decide +kernel
theorem dX6_add_1 : decode cX6_add 1 = .ok (.getfield 18, 3) := by decide +kernel
theorem dX6_add_4 : decode cX6_add 4 = .ok (.sipush 1024, 3) := by decide +kernel
theorem dX6_add_7 : decode cX6_add 7 = .ok (.if_icmp .lt 4, 3) := by decide +kernel
theorem dX6_add_10 : decode cX6_add 10 = .ok (.return_, 1) := by decide +kernel
theorem dX6_add_11 : decode cX6_add 11 = .ok (.aload_n 0, 1) := by decide +kernel
theorem dX6_add_12 : decode cX6_add 12 = .ok (.bipush 31, 2) := by decide +kernel
theorem dX6_add_14 : decode cX6_add 14 = .ok (.aload_n 0, 1) := by decide +kernel
theorem dX6_add_15 : decode cX6_add 15 = .ok (.getfield 22, 3) := by decide +kernel
theorem dX6_add_18 : decode cX6_add 18 = .ok (.imul, 1) := by decide +kernel
theorem dX6_add_19 : decode cX6_add 19 = .ok (.iload_n 1, 1) := by decide +kernel
theorem dX6_add_20 : decode cX6_add 20 = .ok (.iadd, 1) := by decide +kernel
theorem dX6_add_21 : decode cX6_add 21 = .ok (.bipush 10, 2) := by decide +kernel
theorem dX6_add_23 : decode cX6_add 23 = .ok (.aload_n 2, 1) := by decide +kernel
theorem dX6_add_24 : decode cX6_add 24 = .ok (.getfield 25, 3) := by decide +kernel
theorem dX6_add_27 : decode cX6_add 27 = .ok (.imul, 1) := by decide +kernel
theorem dX6_add_28 : decode cX6_add 28 = .ok (.iadd, 1) := by decide +kernel
theorem dX6_add_29 : decode cX6_add 29 = .ok (.sipush 200, 3) := by decide +kernel
theorem dX6_add_32 : decode cX6_add 32 = .ok (.aload_n 3, 1) := by decide +kernel
theorem dX6_add_33 : decode cX6_add 33 = .ok (.getfield 30, 3) := by decide +kernel
theorem dX6_add_36 : decode cX6_add 36 = .ok (.imul, 1) := by decide +kernel
theorem dX6_add_37 : decode cX6_add 37 = .ok (.iadd, 1) := by decide +kernel
theorem dX6_add_38 : decode cX6_add 38 = .ok (.sipush 2000, 3) := by decide +kernel
theorem dX6_add_41 : decode cX6_add 41 = .ok (.iload 4, 2) := by decide +kernel
theorem dX6_add_43 : decode cX6_add 43 = .ok (.imul, 1) := by decide +kernel
theorem dX6_add_44 : decode cX6_add 44 = .ok (.iadd, 1) := by decide +kernel
theorem dX6_add_45 : decode cX6_add 45 = .ok (.ldc 33, 2) := by decide +kernel
theorem dX6_add_47 : decode cX6_add 47 = .ok (.irem, 1) := by decide +kernel
theorem dX6_add_48 : decode cX6_add 48 = .ok (.putfield 22, 3) := by decide +kernel
theorem dX6_add_51 : decode cX6_add 51 = .ok (.aload_n 0, 1) := by decide +kernel
theorem dX6_add_52 : decode cX6_add 52 = .ok (.getfield 9, 3) := by decide +kernel
theorem dX6_add_55 : decode cX6_add 55 = .ok (.aload_n 0, 1) := by decide +kernel
theorem dX6_add_56 : decode cX6_add 56 = .ok (.getfield 18, 3) := by decide +kernel
theorem dX6_add_59 : decode cX6_add 59 = .ok (.iload_n 1, 1) := by decide +kernel
theorem dX6_add_60 : decode cX6_add 60 = .ok (.iastore, 1) := by decide +kernel
theorem dX6_add_61 : decode cX6_add 61 = .ok (.aload_n 0, 1) := by decide +kernel
theorem dX6_add_62 : decode cX6_add 62 = .ok (.getfield 15, 3) := by decide +kernel
theorem dX6_add_65 : decode cX6_add 65 = .ok (.aload_n 0, 1) := by decide +kernel
theorem dX6_add_66 : decode cX6_add 66 = .ok (.getfield 18, 3) := by decide +kernel
theorem dX6_add_69 : decode cX6_add 69 = .ok (.aload_n 0, 1) := by decide +kernel
theorem dX6_add_70 : decode cX6_add 70 = .ok (.getfield 22, 3) := by decide +kernel
theorem dX6_add_73 : decode cX6_add 73 = .ok (.iastore, 1) := by decide +kernel
theorem dX6_add_74 : decode cX6_add 74 = .ok (.aload_n 0, 1) := by decide +kernel
theorem dX6_add_75 : decode cX6_add 75 = .ok (.dup, 1) := by decide +kernel
theorem dX6_add_76 : decode cX6_add 76 = .ok (.getfield 18, 3) := by decide +kernel
theorem dX6_add_79 : decode cX6_add 79 = .ok (.iconst 1, 1) := by decide +kernel
theorem dX6_add_80 : decode cX6_add 80 = .ok (.iadd, 1) := by decide +kernel
theorem dX6_add_81 : decode cX6_add 81 = .ok (.putfield 18, 3) := by decide +kernel
theorem dX6_add_84 : decode cX6_add 84 = .ok (.return_, 1) := by decide +kernel
theorem dX7_init_0 : decode cX7_init 0 = .ok (.aload_n 0, 1) := by decide +kernel
theorem dX7_init_1 : decode cX7_init 1 = .ok (.invokespecial 3, 3) := by decide +kernel
theorem dX7_init_4 : decode cX7_init 4 = .ok (.aload_n 0, 1) := by decide +kernel
theorem dX7_init_5 : decode cX7_init 5 = .ok (.new 9, 3) := by decide +kernel
theorem dX7_init_8 : decode cX7_init 8 = .ok (.dup, 1) := by decide +kernel
theorem dX7_init_9 : decode cX7_init 9 = .ok (.invokespecial 11, 3) := by decide +kernel
theorem dX7_init_12 : decode cX7_init 12 = .ok (.putfield 12, 3) := by decide +kernel
theorem dX7_init_15 : decode cX7_init 15 = .ok (.aload_n 0, 1) := by decide +kernel
theorem dX7_init_16 : decode cX7_init 16 = .ok (.new 9, 3) := by decide +kernel
theorem dX7_init_19 : decode cX7_init 19 = .ok (.dup, 1) := by decide +kernel
theorem dX7_init_20 : decode cX7_init 20 = .ok (.invokespecial 11, 3) := by decide +kernel
theorem dX7_init_23 : decode cX7_init 23 = .ok (.putfield 16, 3) := by decide +kernel
theorem dX7_init_26 : decode cX7_init 26 = .ok (.aload_n 0, 1) := by decide +kernel
theorem dX7_init_27 : decode cX7_init 27 = .ok (.new 9, 3) := by decide +kernel
theorem dX7_init_30 : decode cX7_init 30 = .ok (.dup, 1) := by decide +kernel
theorem dX7_init_31 : decode cX7_init 31 = .ok (.invokespecial 11, 3) := by decide +kernel
theorem dX7_init_34 : decode cX7_init 34 = .ok (.putfield 19, 3) := by decide +kernel
theorem dX7_init_37 : decode cX7_init 37 = .ok (.aload_n 0, 1) := by decide +kernel
theorem dX7_init_38 : decode cX7_init 38 = .ok (.new 9, 3) := by decide +kernel
theorem dX7_init_41 : decode cX7_init 41 = .ok (.dup, 1) := by decide +kernel
theorem dX7_init_42 : decode cX7_init 42 = .ok (.invokespecial 11, 3) := by decide +kernel
theorem dX7_init_45 : decode cX7_init 45 = .ok (.putfield 22, 3) := by decide +kernel
theorem dX7_init_48 : decode cX7_init 48 = .ok (.aload_n 0, 1) := by decide +kernel
theorem dX7_init_49 : decode cX7_init 49 = .ok (.new 9, 3) := by decide +kernel
theorem dX7_init_52 : decode cX7_init 52 = .ok (.dup, 1) := by decide +kernel
theorem dX7_init_53 : decode cX7_init 53 = .ok (.invokespecial 11, 3) := by decide +kernel
theorem dX7_init_56 : decode cX7_init 56 = .ok (.putfield 25, 3) := by decide +kernel
theorem dX7_init_59 : decode cX7_init 59 = .ok (.aload_n 0, 1) := by decide +kernel
theorem dX7_init_60 : decode cX7_init 60 = .ok (.new 9, 3) := by decide +kernel
theorem dX7_init_63 : decode cX7_init 63 = .ok (.dup, 1) := by decide +kernel
theorem dX7_init_64 : decode cX7_init 64 = .ok (.invokespecial 11, 3) := by decide +kernel
theorem dX7_init_67 : decode cX7_init 67 = .ok (.putfield 28, 3) := by decide +kernel
theorem dX7_init_70 : decode cX7_init 70 = .ok (.aload_n 0, 1) := by decide +kernel
theorem dX7_init_71 : decode cX7_init 71 = .ok (.new 31, 3) := by decide +kernel
theorem dX7_init_74 : decode cX7_init 74 = .ok (.dup, 1) := by decide +kernel
theorem dX7_init_75 : decode cX7_init 75 = .ok (.invokespecial 33, 3) := by decide +kernel
theorem dX7_init_78 : decode cX7_init 78 = .ok (.putfield 34, 3) := by decide +kernel
theorem dX7_init_81 : decode cX7_init 81 = .ok (.aload_n 0, 1) := by decide +kernel
theorem dX7_init_82 : decode cX7_init 82 = .ok (.iconst 0, 1) := by decide +kernel
theorem dX7_init_83 : decode cX7_init 83 = .ok (.putfield 38, 3) := by decide +kernel
theorem dX7_init_86 : decode cX7_init 86 = .ok (.aload_n 0, 1) := by decide +kernel
theorem dX7_init_87 : decode cX7_init 87 = .ok (.iconst 0, 1) := by decide +kernel
theorem dX7_init_88 : decode cX7_init 88 = .ok (.putfield 42, 3) := by decide +kernel
theorem dX7_init_91 : decode cX7_init 91 = .ok (.return_, 1) := by decide +kernel
theorem dX7_addPerson_0 : decode cX7_addPerson 0 = .ok (.iload_n 1, 1) := by decide +kernel
theorem dX7_addPerson_1 : decode cX7_addPerson 1 = .ok (.ifCond .lt 8, 3) := by decide +kernel
theorem dX7_addPerson_4 : decode cX7_addPerson 4 = .ok (.iload_n 1, 1) := by decide +kernel
theorem dX7_addPerson_5 : decode cX7_addPerson 5 = .ok (.iconst 4, 1) := by decide +kernel
theorem dX7_addPerson_6 : decode cX7_addPerson 6 = .ok (.if_icmp .lt 13, 3) := by decide +kernel
theorem dX7_addPerson_9 : decode cX7_addPerson 9 = .ok (.new 45, 3) := by decide +kernel
theorem dX7_addPerson_12 : decode cX7_addPerson 12 = .ok (.dup, 1) := by decide +kernel
theorem dX7_addPerson_13 : decode cX7_addPerson 13 = .ok (.ldc 47, 2) := by decide +kernel
theorem dX7_addPerson_15 : decode cX7_addPerson 15 = .ok (.invokespecial 49, 3) := by decide +kernel
theorem dX7_addPerson_18 : decode cX7_addPerson 18 = .ok (.athrow, 1) := by decide +kernel
theorem dX7_addPerson_19 : decode cX7_addPerson 19 = .ok (.aload_n 0, 1) := by decide +kernel
theorem dX7_addPerson_20 : decode cX7_addPerson 20 = .ok (.getfield 12, 3) := by decide +kernel
theorem dX7_addPerson_23 : decode cX7_addPerson 23 = .ok (.invokevirtual 52, 3) := by decide +kernel
theorem dX7_addPerson_26 : decode cX7_addPerson 26 = .ok (.istore_n 2, 1) := by decide +kernel
theorem dX7_addPerson_27 : decode cX7_addPerson 27 = .ok (.iload_n 2, 1) := by decide +kernel
theorem dX7_addPerson_28 : decode cX7_addPerson 28 = .ok (.bipush 12, 2) := by decide +kernel
theorem dX7_addPerson_30 : decode cX7_addPerson 30 = .ok (.if_icmp .lt 13, 3) := by decide +kernel
theorem dX7_addPerson_33 : decode cX7_addPerson 33 = .ok (.new 56, 3) := by decide +kernel
theorem dX7_addPerson_36 : decode cX7_addPerson 36 = .ok (.dup, 1) := by decide +kernel
theorem dX7_addPerson_37 : decode cX7_addPerson 37 = .ok (.ldc 58, 2) := by decide +kernel
theorem dX7_addPerson_39 : decode cX7_addPerson 39 = .ok (.invokespecial 60, 3) := by decide +kernel
theorem dX7_addPerson_42 : decode cX7_addPerson 42 = .ok (.athrow, 1) := by decide +kernel
theorem dX7_addPerson_43 : decode cX7_addPerson 43 = .ok (.aload_n 0, 1) := by decide +kernel
theorem dX7_addPerson_44 : decode cX7_addPerson 44 = .ok (.getfield 12, 3) := by decide +kernel
theorem dX7_addPerson_47 : decode cX7_addPerson 47 = .ok (.new 61, 3) := by decide +kernel
theorem dX7_addPerson_50 : decode cX7_addPerson 50 = .ok (.dup, 1) := by decide +kernel
theorem dX7_addPerson_51 : decode cX7_addPerson 51 = .ok (.iload_n 2, 1) := by decide +kernel
theorem dX7_addPerson_52 : decode cX7_addPerson 52 = .ok (.iload_n 1, 1) := by decide +kernel
theorem dX7_addPerson_53 : decode cX7_addPerson 53 = .ok (.invokespecial 63, 3) := by decide +kernel
theorem dX7_addPerson_56 : decode cX7_addPerson 56 = .ok (.invokevirtual 66, 3) := by decide +kernel
theorem dX7_addPerson_59 : decode cX7_addPerson 59 = .ok (.pop, 1) := by decide +kernel
theorem dX7_addPerson_60 : decode cX7_addPerson 60 = .ok (.iload_n 2, 1) := by decide +kernel
theorem dX7_addPerson_61 : decode cX7_addPerson 61 = .ok (.ireturn, 1) := by decide +kernel
theorem dX7_addMachine_0 : decode cX7_addMachine 0 = .ok (.iload_n 1, 1) := by decide +kernel
theorem dX7_addMachine_1 : decode cX7_addMachine 1 = .ok (.invokestatic 70, 3) := by decide +kernel
theorem dX7_addMachine_4 : decode cX7_addMachine 4 = .ok (.aload_n 0, 1) := by decide +kernel
theorem dX7_addMachine_5 : decode cX7_addMachine 5 = .ok (.getfield 16, 3) := by decide +kernel
theorem dX7_addMachine_8 : decode cX7_addMachine 8 = .ok (.invokevirtual 52, 3) := by decide +kernel
theorem dX7_addMachine_11 : decode cX7_addMachine 11 = .ok (.istore_n 2, 1) := by decide +kernel
theorem dX7_addMachine_12 : decode cX7_addMachine 12 = .ok (.iload_n 2, 1) := by decide +kernel
theorem dX7_addMachine_13 : decode cX7_addMachine 13 = .ok (.bipush 8, 2) := by decide +kernel
theorem dX7_addMachine_15 : decode cX7_addMachine 15 = .ok (.if_icmp .lt 13, 3) := by decide +kernel
theorem dX7_addMachine_18 : decode cX7_addMachine 18 = .ok (.new 56, 3) := by decide +kernel
theorem dX7_addMachine_21 : decode cX7_addMachine 21 = .ok (.dup, 1) := by decide +kernel
theorem dX7_addMachine_22 : decode cX7_addMachine 22 = .ok (.ldc 74, 2) := by decide +kernel
theorem dX7_addMachine_24 : decode cX7_addMachine 24 = .ok (.invokespecial 60, 3) := by decide +kernel
theorem dX7_addMachine_27 : decode cX7_addMachine 27 = .ok (.athrow, 1) := by decide +kernel
theorem dX7_addMachine_28 : decode cX7_addMachine 28 = .ok (.aload_n 0, 1) := by decide +kernel
theorem dX7_addMachine_29 : decode cX7_addMachine 29 = .ok (.getfield 16, 3) := by decide +kernel
theorem dX7_addMachine_32 : decode cX7_addMachine 32 = .ok (.new 76, 3) := by decide +kernel
theorem dX7_addMachine_35 : decode cX7_addMachine 35 = .ok (.dup, 1) := by decide +kernel
theorem dX7_addMachine_36 : decode cX7_addMachine 36 = .ok (.iload_n 2, 1) := by decide +kernel
theorem dX7_addMachine_37 : decode cX7_addMachine 37 = .ok (.iload_n 1, 1) := by decide +kernel
theorem dX7_addMachine_38 : decode cX7_addMachine 38 = .ok (.invokespecial 78, 3) := by decide +kernel
theorem dX7_addMachine_41 : decode cX7_addMachine 41 = .ok (.invokevirtual 66, 3) := by decide +kernel
theorem dX7_addMachine_44 : decode cX7_addMachine 44 = .ok (.pop, 1) := by decide +kernel
theorem dX7_addMachine_45 : decode cX7_addMachine 45 = .ok (.iload_n 2, 1) := by decide +kernel
theorem dX7_addMachine_46 : decode cX7_addMachine 46 = .ok (.ireturn, 1) := by decide +kernel
theorem dX7_setLabel_0 : decode cX7_setLabel 0 = .ok (.aload_n 0, 1) := by decide +kernel
theorem dX7_setLabel_1 : decode cX7_setLabel 1 = .ok (.iload_n 1, 1) := by decide +kernel
theorem dX7_setLabel_2 : decode cX7_setLabel 2 = .ok (.invokevirtual 79, 3) := by decide +kernel
theorem dX7_setLabel_5 : decode cX7_setLabel 5 = .ok (.astore 4, 2) := by decide +kernel
theorem dX7_setLabel_7 : decode cX7_setLabel 7 = .ok (.iload_n 2, 1) := by decide +kernel
theorem dX7_setLabel_8 : decode cX7_setLabel 8 = .ok (.invokestatic 70, 3) := by decide +kernel
theorem dX7_setLabel_11 : decode cX7_setLabel 11 = .ok (.aload 4, 2) := by decide +kernel
theorem dX7_setLabel_13 : decode cX7_setLabel 13 = .ok (.iload_n 2, 1) := by decide +kernel
theorem dX7_setLabel_14 : decode cX7_setLabel 14 = .ok (.iload_n 3, 1) := by decide +kernel
theorem dX7_setLabel_15 : decode cX7_setLabel 15 = .ok (.invokevirtual 83, 3) := by decide +kernel
theorem dX7_setLabel_18 : decode cX7_setLabel 18 = .ok (.iload_n 3, 1) := by decide +kernel
theorem dX7_setLabel_19 : decode cX7_setLabel 19 = .ok (.ifCond .eq 5, 3) := by decide +kernel
theorem dX7_setLabel_22 : decode cX7_setLabel 22 = .ok (.iconst 0, 1) := by decide +kernel
theorem dX7_setLabel_23 : decode cX7_setLabel 23 = .ok (.ireturn, 1) := by decide +kernel
theorem dX7_setLabel_24 : decode cX7_setLabel 24 = .ok (.iconst 0, 1) := by decide +kernel
theorem dX7_setLabel_25 : decode cX7_setLabel 25 = .ok (.istore 5, 2) := by decide +kernel
theorem dX7_setLabel_27 : decode cX7_setLabel 27 = .ok (.iload 5, 2) := by decide +kernel
theorem dX7_setLabel_29 : decode cX7_setLabel 29 = .ok (.aload_n 0, 1) := by decide +kernel
theorem dX7_setLabel_30 : decode cX7_setLabel 30 = .ok (.getfield 16, 3) := by decide +kernel
theorem dX7_setLabel_33 : decode cX7_setLabel 33 = .ok (.invokevirtual 52, 3) := by decide +kernel
theorem dX7_setLabel_36 : decode cX7_setLabel 36 = .ok (.if_icmp .ge 48, 3) := by decide +kernel
theorem dX7_setLabel_39 : decode cX7_setLabel 39 = .ok (.aload_n 0, 1) := by decide +kernel
theorem dX7_setLabel_40 : decode cX7_setLabel 40 = .ok (.getfield 16, 3) := by decide +kernel
theorem dX7_setLabel_43 : decode cX7_setLabel 43 = .ok (.iload 5, 2) := by decide +kernel
theorem dX7_setLabel_45 : decode cX7_setLabel 45 = .ok (.invokevirtual 87, 3) := by decide +kernel
theorem dX7_setLabel_48 : decode cX7_setLabel 48 = .ok (.checkcast 76, 3) := by decide +kernel
theorem dX7_setLabel_51 : decode cX7_setLabel 51 = .ok (.astore 6, 2) := by decide +kernel
theorem dX7_setLabel_53 : decode cX7_setLabel 53 = .ok (.aload 6, 2) := by decide +kernel
theorem dX7_setLabel_55 : decode cX7_setLabel 55 = .ok (.getfield 91, 3) := by decide +kernel
theorem dX7_setLabel_58 : decode cX7_setLabel 58 = .ok (.iload_n 2, 1) := by decide +kernel
theorem dX7_setLabel_59 : decode cX7_setLabel 59 = .ok (.if_icmp .ne 19, 3) := by decide +kernel
theorem dX7_setLabel_62 : decode cX7_setLabel 62 = .ok (.aload_n 0, 1) := by decide +kernel
theorem dX7_setLabel_63 : decode cX7_setLabel 63 = .ok (.aload 4, 2) := by decide +kernel
theorem dX7_setLabel_65 : decode cX7_setLabel 65 = .ok (.aload 6, 2) := by decide +kernel
theorem dX7_setLabel_67 : decode cX7_setLabel 67 = .ok (.invokevirtual 94, 3) := by decide +kernel
theorem dX7_setLabel_70 : decode cX7_setLabel 70 = .ok (.aload_n 0, 1) := by decide +kernel
theorem dX7_setLabel_71 : decode cX7_setLabel 71 = .ok (.aload 4, 2) := by decide +kernel
theorem dX7_setLabel_73 : decode cX7_setLabel 73 = .ok (.aload 6, 2) := by decide +kernel
theorem dX7_setLabel_75 : decode cX7_setLabel 75 = .ok (.invokevirtual 98, 3) := by decide +kernel
theorem dX7_setLabel_78 : decode cX7_setLabel 78 = .ok (.iinc 5 1, 3) := by decide +kernel
theorem dX7_setLabel_81 : decode cX7_setLabel 81 = .ok (.goto (-54), 3) := by decide +kernel
theorem dX7_setLabel_84 : decode cX7_setLabel 84 = .ok (.aload_n 0, 1) := by decide +kernel
theorem dX7_setLabel_85 : decode cX7_setLabel 85 = .ok (.invokevirtual 101, 3) := by decide +kernel
theorem dX7_setLabel_88 : decode cX7_setLabel 88 = .ok (.ireturn, 1) := by decide +kernel
theorem dX7_takeAway_0 : decode cX7_takeAway 0 = .ok (.aload_n 0, 1) := by decide +kernel
theorem dX7_takeAway_1 : decode cX7_takeAway 1 = .ok (.iload_n 1, 1) := by decide +kernel
theorem dX7_takeAway_2 : decode cX7_takeAway 2 = .ok (.invokevirtual 79, 3) := by decide +kernel
theorem dX7_takeAway_5 : decode cX7_takeAway 5 = .ok (.astore_n 3, 1) := by decide +kernel
theorem dX7_takeAway_6 : decode cX7_takeAway 6 = .ok (.aload_n 0, 1) := by decide +kernel
theorem dX7_takeAway_7 : decode cX7_takeAway 7 = .ok (.iload_n 2, 1) := by decide +kernel
theorem dX7_takeAway_8 : decode cX7_takeAway 8 = .ok (.invokevirtual 104, 3) := by decide +kernel
theorem dX7_takeAway_11 : decode cX7_takeAway 11 = .ok (.astore 4, 2) := by decide +kernel
theorem dX7_takeAway_13 : decode cX7_takeAway 13 = .ok (.aload_n 0, 1) := by decide +kernel
theorem dX7_takeAway_14 : decode cX7_takeAway 14 = .ok (.aload_n 3, 1) := by decide +kernel
theorem dX7_takeAway_15 : decode cX7_takeAway 15 = .ok (.aload 4, 2) := by decide +kernel
theorem dX7_takeAway_17 : decode cX7_takeAway 17 = .ok (.invokevirtual 94, 3) := by decide +kernel
theorem dX7_takeAway_20 : decode cX7_takeAway 20 = .ok (.aload_n 0, 1) := by decide +kernel
theorem dX7_takeAway_21 : decode cX7_takeAway 21 = .ok (.aload_n 3, 1) := by decide +kernel
theorem dX7_takeAway_22 : decode cX7_takeAway 22 = .ok (.aload 4, 2) := by decide +kernel
theorem dX7_takeAway_24 : decode cX7_takeAway 24 = .ok (.invokevirtual 98, 3) := by decide +kernel
theorem dX7_takeAway_27 : decode cX7_takeAway 27 = .ok (.aload_n 0, 1) := by decide +kernel
theorem dX7_takeAway_28 : decode cX7_takeAway 28 = .ok (.invokevirtual 101, 3) := by decide +kernel
theorem dX7_takeAway_31 : decode cX7_takeAway 31 = .ok (.ireturn, 1) := by decide +kernel
theorem dX7_ask_0 : decode cX7_ask 0 = .ok (.aload_n 0, 1) := by decide +kernel
theorem dX7_ask_1 : decode cX7_ask 1 = .ok (.iload_n 1, 1) := by decide +kernel
theorem dX7_ask_2 : decode cX7_ask 2 = .ok (.invokevirtual 79, 3) := by decide +kernel
theorem dX7_ask_5 : decode cX7_ask 5 = .ok (.astore 4, 2) := by decide +kernel
theorem dX7_ask_7 : decode cX7_ask 7 = .ok (.aload_n 0, 1) := by decide +kernel
theorem dX7_ask_8 : decode cX7_ask 8 = .ok (.iload_n 2, 1) := by decide +kernel
theorem dX7_ask_9 : decode cX7_ask 9 = .ok (.invokevirtual 104, 3) := by decide +kernel
theorem dX7_ask_12 : decode cX7_ask 12 = .ok (.astore 5, 2) := by decide +kernel
theorem dX7_ask_14 : decode cX7_ask 14 = .ok (.iload_n 3, 1) := by decide +kernel
theorem dX7_ask_15 : decode cX7_ask 15 = .ok (.iconst 1, 1) := by decide +kernel
theorem dX7_ask_16 : decode cX7_ask 16 = .ok (.if_icmp .lt 10, 3) := by decide +kernel
theorem dX7_ask_19 : decode cX7_ask 19 = .ok (.iload_n 3, 1) := by decide +kernel
theorem dX7_ask_20 : decode cX7_ask 20 = .ok (.sipush 600, 3) := by decide +kernel
theorem dX7_ask_23 : decode cX7_ask 23 = .ok (.if_icmp .le 13, 3) := by decide +kernel
theorem dX7_ask_26 : decode cX7_ask 26 = .ok (.new 45, 3) := by decide +kernel
theorem dX7_ask_29 : decode cX7_ask 29 = .ok (.dup, 1) := by decide +kernel
theorem dX7_ask_30 : decode cX7_ask 30 = .ok (.ldc 108, 2) := by decide +kernel
theorem dX7_ask_32 : decode cX7_ask 32 = .ok (.invokespecial 49, 3) := by decide +kernel
theorem dX7_ask_35 : decode cX7_ask 35 = .ok (.athrow, 1) := by decide +kernel
theorem dX7_ask_36 : decode cX7_ask 36 = .ok (.aload_n 0, 1) := by decide +kernel
theorem dX7_ask_37 : decode cX7_ask 37 = .ok (.aload 4, 2) := by decide +kernel
theorem dX7_ask_39 : decode cX7_ask 39 = .ok (.aload 5, 2) := by decide +kernel
theorem dX7_ask_41 : decode cX7_ask 41 = .ok (.invokevirtual 110, 3) := by decide +kernel
theorem dX7_ask_44 : decode cX7_ask 44 = .ok (.aload_n 0, 1) := by decide +kernel
theorem dX7_ask_45 : decode cX7_ask 45 = .ok (.getfield 19, 3) := by decide +kernel
theorem dX7_ask_48 : decode cX7_ask 48 = .ok (.invokevirtual 52, 3) := by decide +kernel
theorem dX7_ask_51 : decode cX7_ask 51 = .ok (.istore 6, 2) := by decide +kernel
theorem dX7_ask_53 : decode cX7_ask 53 = .ok (.iload 6, 2) := by decide +kernel
theorem dX7_ask_55 : decode cX7_ask 55 = .ok (.invokestatic 113, 3) := by decide +kernel
theorem dX7_ask_58 : decode cX7_ask 58 = .ok (.aload_n 0, 1) := by decide +kernel
theorem dX7_ask_59 : decode cX7_ask 59 = .ok (.getfield 19, 3) := by decide +kernel
theorem dX7_ask_62 : decode cX7_ask 62 = .ok (.new 116, 3) := by decide +kernel
theorem dX7_ask_65 : decode cX7_ask 65 = .ok (.dup, 1) := by decide +kernel
theorem dX7_ask_66 : decode cX7_ask 66 = .ok (.aload 4, 2) := by decide +kernel
theorem dX7_ask_68 : decode cX7_ask 68 = .ok (.aload 5, 2) := by decide +kernel
theorem dX7_ask_70 : decode cX7_ask 70 = .ok (.iload_n 3, 1) := by decide +kernel
theorem dX7_ask_71 : decode cX7_ask 71 = .ok (.aload_n 0, 1) := by decide +kernel
theorem dX7_ask_72 : decode cX7_ask 72 = .ok (.getfield 42, 3) := by decide +kernel
theorem dX7_ask_75 : decode cX7_ask 75 = .ok (.invokespecial 118, 3) := by decide +kernel
theorem dX7_ask_78 : decode cX7_ask 78 = .ok (.invokevirtual 66, 3) := by decide +kernel
theorem dX7_ask_81 : decode cX7_ask 81 = .ok (.pop, 1) := by decide +kernel
theorem dX7_ask_82 : decode cX7_ask 82 = .ok (.aload_n 0, 1) := by decide +kernel
theorem dX7_ask_83 : decode cX7_ask 83 = .ok (.getfield 34, 3) := by decide +kernel
theorem dX7_ask_86 : decode cX7_ask 86 = .ok (.iconst 0, 1) := by decide +kernel
theorem dX7_ask_87 : decode cX7_ask 87 = .ok (.aload 4, 2) := by decide +kernel
theorem dX7_ask_89 : decode cX7_ask 89 = .ok (.aload 5, 2) := by decide +kernel
theorem dX7_ask_91 : decode cX7_ask 91 = .ok (.aload_n 0, 1) := by decide +kernel
theorem dX7_ask_92 : decode cX7_ask 92 = .ok (.getfield 42, 3) := by decide +kernel
theorem dX7_ask_95 : decode cX7_ask 95 = .ok (.invokevirtual 121, 3) := by decide +kernel
theorem dX7_ask_98 : decode cX7_ask 98 = .ok (.iload 6, 2) := by decide +kernel
theorem dX7_ask_100 : decode cX7_ask 100 = .ok (.ireturn, 1) := by decide +kernel
theorem dX7_approve_0 : decode cX7_approve 0 = .ok (.aload_n 0, 1) := by decide +kernel
theorem dX7_approve_1 : decode cX7_approve 1 = .ok (.iload_n 1, 1) := by decide +kernel
theorem dX7_approve_2 : decode cX7_approve 2 = .ok (.invokevirtual 124, 3) := by decide +kernel
theorem dX7_approve_5 : decode cX7_approve 5 = .ok (.astore_n 3, 1) := by decide +kernel
theorem dX7_approve_6 : decode cX7_approve 6 = .ok (.aload_n 0, 1) := by decide +kernel
theorem dX7_approve_7 : decode cX7_approve 7 = .ok (.iload_n 2, 1) := by decide +kernel
theorem dX7_approve_8 : decode cX7_approve 8 = .ok (.invokevirtual 79, 3) := by decide +kernel
theorem dX7_approve_11 : decode cX7_approve 11 = .ok (.astore 4, 2) := by decide +kernel
theorem dX7_approve_13 : decode cX7_approve 13 = .ok (.aload_n 0, 1) := by decide +kernel
theorem dX7_approve_14 : decode cX7_approve 14 = .ok (.aload_n 3, 1) := by decide +kernel
theorem dX7_approve_15 : decode cX7_approve 15 = .ok (.aload 4, 2) := by decide +kernel
theorem dX7_approve_17 : decode cX7_approve 17 = .ok (.invokevirtual 128, 3) := by decide +kernel
theorem dX7_approve_20 : decode cX7_approve 20 = .ok (.aload_n 3, 1) := by decide +kernel
theorem dX7_approve_21 : decode cX7_approve 21 = .ok (.getfield 132, 3) := by decide +kernel
theorem dX7_approve_24 : decode cX7_approve 24 = .ok (.aload 4, 2) := by decide +kernel
theorem dX7_approve_26 : decode cX7_approve 26 = .ok (.if_acmp .ne 13, 3) := by decide +kernel
theorem dX7_approve_29 : decode cX7_approve 29 = .ok (.new 56, 3) := by decide +kernel
theorem dX7_approve_32 : decode cX7_approve 32 = .ok (.dup, 1) := by decide +kernel
theorem dX7_approve_33 : decode cX7_approve 33 = .ok (.ldc 136, 2) := by decide +kernel
theorem dX7_approve_35 : decode cX7_approve 35 = .ok (.invokespecial 60, 3) := by decide +kernel
theorem dX7_approve_38 : decode cX7_approve 38 = .ok (.athrow, 1) := by decide +kernel
theorem dX7_approve_39 : decode cX7_approve 39 = .ok (.aload_n 0, 1) := by decide +kernel
theorem dX7_approve_40 : decode cX7_approve 40 = .ok (.getfield 34, 3) := by decide +kernel
theorem dX7_approve_43 : decode cX7_approve 43 = .ok (.iconst 1, 1) := by decide +kernel
theorem dX7_approve_44 : decode cX7_approve 44 = .ok (.aload 4, 2) := by decide +kernel
theorem dX7_approve_46 : decode cX7_approve 46 = .ok (.aload_n 3, 1) := by decide +kernel
theorem dX7_approve_47 : decode cX7_approve 47 = .ok (.getfield 138, 3) := by decide +kernel
theorem dX7_approve_50 : decode cX7_approve 50 = .ok (.aload_n 0, 1) := by decide +kernel
theorem dX7_approve_51 : decode cX7_approve 51 = .ok (.getfield 42, 3) := by decide +kernel
theorem dX7_approve_54 : decode cX7_approve 54 = .ok (.invokevirtual 121, 3) := by decide +kernel
theorem dX7_approve_57 : decode cX7_approve 57 = .ok (.aload_n 3, 1) := by decide +kernel
theorem dX7_approve_58 : decode cX7_approve 58 = .ok (.getfield 132, 3) := by decide +kernel
theorem dX7_approve_61 : decode cX7_approve 61 = .ok (.ifnonnull 11, 3) := by decide +kernel
theorem dX7_approve_64 : decode cX7_approve 64 = .ok (.aload_n 3, 1) := by decide +kernel
theorem dX7_approve_65 : decode cX7_approve 65 = .ok (.aload 4, 2) := by decide +kernel
theorem dX7_approve_67 : decode cX7_approve 67 = .ok (.putfield 132, 3) := by decide +kernel
theorem dX7_approve_70 : decode cX7_approve 70 = .ok (.iconst 0, 1) := by decide +kernel
theorem dX7_approve_71 : decode cX7_approve 71 = .ok (.ireturn, 1) := by decide +kernel
theorem dX7_approve_72 : decode cX7_approve 72 = .ok (.aload_n 3, 1) := by decide +kernel
theorem dX7_approve_73 : decode cX7_approve 73 = .ok (.iconst 1, 1) := by decide +kernel
theorem dX7_approve_74 : decode cX7_approve 74 = .ok (.putfield 142, 3) := by decide +kernel
theorem dX7_approve_77 : decode cX7_approve 77 = .ok (.aload_n 0, 1) := by decide +kernel
theorem dX7_approve_78 : decode cX7_approve 78 = .ok (.getfield 25, 3) := by decide +kernel
theorem dX7_approve_81 : decode cX7_approve 81 = .ok (.new 145, 3) := by decide +kernel
theorem dX7_approve_84 : decode cX7_approve 84 = .ok (.dup, 1) := by decide +kernel
theorem dX7_approve_85 : decode cX7_approve 85 = .ok (.aload_n 3, 1) := by decide +kernel
theorem dX7_approve_86 : decode cX7_approve 86 = .ok (.getfield 147, 3) := by decide +kernel
theorem dX7_approve_89 : decode cX7_approve 89 = .ok (.aload_n 3, 1) := by decide +kernel
theorem dX7_approve_90 : decode cX7_approve 90 = .ok (.getfield 138, 3) := by decide +kernel
theorem dX7_approve_93 : decode cX7_approve 93 = .ok (.aload_n 0, 1) := by decide +kernel
theorem dX7_approve_94 : decode cX7_approve 94 = .ok (.getfield 42, 3) := by decide +kernel
theorem dX7_approve_97 : decode cX7_approve 97 = .ok (.aload_n 0, 1) := by decide +kernel
theorem dX7_approve_98 : decode cX7_approve 98 = .ok (.getfield 42, 3) := by decide +kernel
theorem dX7_approve_101 : decode cX7_approve 101 = .ok (.aload_n 3, 1) := by decide +kernel
theorem dX7_approve_102 : decode cX7_approve 102 = .ok (.getfield 150, 3) := by decide +kernel
theorem dX7_approve_105 : decode cX7_approve 105 = .ok (.iadd, 1) := by decide +kernel
theorem dX7_approve_106 : decode cX7_approve 106 = .ok (.invokespecial 153, 3) := by decide +kernel
theorem dX7_approve_109 : decode cX7_approve 109 = .ok (.invokevirtual 66, 3) := by decide +kernel
theorem dX7_approve_112 : decode cX7_approve 112 = .ok (.pop, 1) := by decide +kernel
theorem dX7_approve_113 : decode cX7_approve 113 = .ok (.iconst 1, 1) := by decide +kernel
theorem dX7_approve_114 : decode cX7_approve 114 = .ok (.ireturn, 1) := by decide +kernel
theorem dX7_deny_0 : decode cX7_deny 0 = .ok (.aload_n 0, 1) := by decide +kernel
theorem dX7_deny_1 : decode cX7_deny 1 = .ok (.iload_n 1, 1) := by decide +kernel
theorem dX7_deny_2 : decode cX7_deny 2 = .ok (.invokevirtual 124, 3) := by decide +kernel
theorem dX7_deny_5 : decode cX7_deny 5 = .ok (.astore_n 3, 1) := by decide +kernel
theorem dX7_deny_6 : decode cX7_deny 6 = .ok (.aload_n 0, 1) := by decide +kernel
theorem dX7_deny_7 : decode cX7_deny 7 = .ok (.iload_n 2, 1) := by decide +kernel
theorem dX7_deny_8 : decode cX7_deny 8 = .ok (.invokevirtual 79, 3) := by decide +kernel
theorem dX7_deny_11 : decode cX7_deny 11 = .ok (.astore 4, 2) := by decide +kernel
theorem dX7_deny_13 : decode cX7_deny 13 = .ok (.aload_n 0, 1) := by decide +kernel
theorem dX7_deny_14 : decode cX7_deny 14 = .ok (.aload_n 3, 1) := by decide +kernel
theorem dX7_deny_15 : decode cX7_deny 15 = .ok (.aload 4, 2) := by decide +kernel
theorem dX7_deny_17 : decode cX7_deny 17 = .ok (.invokevirtual 128, 3) := by decide +kernel
theorem dX7_deny_20 : decode cX7_deny 20 = .ok (.aload_n 3, 1) := by decide +kernel
theorem dX7_deny_21 : decode cX7_deny 21 = .ok (.iconst 2, 1) := by decide +kernel
theorem dX7_deny_22 : decode cX7_deny 22 = .ok (.putfield 142, 3) := by decide +kernel
theorem dX7_deny_25 : decode cX7_deny 25 = .ok (.aload_n 0, 1) := by decide +kernel
theorem dX7_deny_26 : decode cX7_deny 26 = .ok (.getfield 34, 3) := by decide +kernel
theorem dX7_deny_29 : decode cX7_deny 29 = .ok (.iconst 2, 1) := by decide +kernel
theorem dX7_deny_30 : decode cX7_deny 30 = .ok (.aload 4, 2) := by decide +kernel
theorem dX7_deny_32 : decode cX7_deny 32 = .ok (.aload_n 3, 1) := by decide +kernel
theorem dX7_deny_33 : decode cX7_deny 33 = .ok (.getfield 138, 3) := by decide +kernel
theorem dX7_deny_36 : decode cX7_deny 36 = .ok (.aload_n 0, 1) := by decide +kernel
theorem dX7_deny_37 : decode cX7_deny 37 = .ok (.getfield 42, 3) := by decide +kernel
theorem dX7_deny_40 : decode cX7_deny 40 = .ok (.invokevirtual 121, 3) := by decide +kernel
theorem dX7_deny_43 : decode cX7_deny 43 = .ok (.return_, 1) := by decide +kernel
theorem dX7_askState_0 : decode cX7_askState 0 = .ok (.aload_n 0, 1) := by decide +kernel
theorem dX7_askState_1 : decode cX7_askState 1 = .ok (.iload_n 1, 1) := by decide +kernel
theorem dX7_askState_2 : decode cX7_askState 2 = .ok (.invokevirtual 124, 3) := by decide +kernel
theorem dX7_askState_5 : decode cX7_askState 5 = .ok (.aload_n 0, 1) := by decide +kernel
theorem dX7_askState_6 : decode cX7_askState 6 = .ok (.getfield 42, 3) := by decide +kernel
theorem dX7_askState_9 : decode cX7_askState 9 = .ok (.invokevirtual 154, 3) := by decide +kernel
theorem dX7_askState_12 : decode cX7_askState 12 = .ok (.ireturn, 1) := by decide +kernel
theorem dX7_enter_0 : decode cX7_enter 0 = .ok (.aload_n 0, 1) := by decide +kernel
theorem dX7_enter_1 : decode cX7_enter 1 = .ok (.iload_n 1, 1) := by decide +kernel
theorem dX7_enter_2 : decode cX7_enter 2 = .ok (.invokevirtual 79, 3) := by decide +kernel
theorem dX7_enter_5 : decode cX7_enter 5 = .ok (.astore_n 3, 1) := by decide +kernel
theorem dX7_enter_6 : decode cX7_enter 6 = .ok (.aload_n 0, 1) := by decide +kernel
theorem dX7_enter_7 : decode cX7_enter 7 = .ok (.iload_n 2, 1) := by decide +kernel
theorem dX7_enter_8 : decode cX7_enter 8 = .ok (.invokevirtual 104, 3) := by decide +kernel
theorem dX7_enter_11 : decode cX7_enter 11 = .ok (.astore 4, 2) := by decide +kernel
theorem dX7_enter_13 : decode cX7_enter 13 = .ok (.aload_n 0, 1) := by decide +kernel
theorem dX7_enter_14 : decode cX7_enter 14 = .ok (.aload_n 3, 1) := by decide +kernel
theorem dX7_enter_15 : decode cX7_enter 15 = .ok (.aload 4, 2) := by decide +kernel
theorem dX7_enter_17 : decode cX7_enter 17 = .ok (.invokevirtual 110, 3) := by decide +kernel
theorem dX7_enter_20 : decode cX7_enter 20 = .ok (.aload_n 0, 1) := by decide +kernel
theorem dX7_enter_21 : decode cX7_enter 21 = .ok (.getfield 22, 3) := by decide +kernel
theorem dX7_enter_24 : decode cX7_enter 24 = .ok (.invokevirtual 52, 3) := by decide +kernel
theorem dX7_enter_27 : decode cX7_enter 27 = .ok (.istore 5, 2) := by decide +kernel
theorem dX7_enter_29 : decode cX7_enter 29 = .ok (.iload 5, 2) := by decide +kernel
theorem dX7_enter_31 : decode cX7_enter 31 = .ok (.invokestatic 113, 3) := by decide +kernel
theorem dX7_enter_34 : decode cX7_enter 34 = .ok (.aload_n 0, 1) := by decide +kernel
theorem dX7_enter_35 : decode cX7_enter 35 = .ok (.getfield 22, 3) := by decide +kernel
theorem dX7_enter_38 : decode cX7_enter 38 = .ok (.new 158, 3) := by decide +kernel
theorem dX7_enter_41 : decode cX7_enter 41 = .ok (.dup, 1) := by decide +kernel
theorem dX7_enter_42 : decode cX7_enter 42 = .ok (.aload_n 3, 1) := by decide +kernel
theorem dX7_enter_43 : decode cX7_enter 43 = .ok (.aload 4, 2) := by decide +kernel
theorem dX7_enter_45 : decode cX7_enter 45 = .ok (.aload_n 0, 1) := by decide +kernel
theorem dX7_enter_46 : decode cX7_enter 46 = .ok (.getfield 42, 3) := by decide +kernel
theorem dX7_enter_49 : decode cX7_enter 49 = .ok (.invokespecial 160, 3) := by decide +kernel
theorem dX7_enter_52 : decode cX7_enter 52 = .ok (.invokevirtual 66, 3) := by decide +kernel
theorem dX7_enter_55 : decode cX7_enter 55 = .ok (.pop, 1) := by decide +kernel
theorem dX7_enter_56 : decode cX7_enter 56 = .ok (.aload_n 0, 1) := by decide +kernel
theorem dX7_enter_57 : decode cX7_enter 57 = .ok (.getfield 25, 3) := by decide +kernel
theorem dX7_enter_60 : decode cX7_enter 60 = .ok (.new 145, 3) := by decide +kernel
theorem dX7_enter_63 : decode cX7_enter 63 = .ok (.dup, 1) := by decide +kernel
theorem dX7_enter_64 : decode cX7_enter 64 = .ok (.aload_n 3, 1) := by decide +kernel
theorem dX7_enter_65 : decode cX7_enter 65 = .ok (.aload 4, 2) := by decide +kernel
theorem dX7_enter_67 : decode cX7_enter 67 = .ok (.aload_n 0, 1) := by decide +kernel
theorem dX7_enter_68 : decode cX7_enter 68 = .ok (.getfield 42, 3) := by decide +kernel
theorem dX7_enter_71 : decode cX7_enter 71 = .ok (.aload_n 0, 1) := by decide +kernel
theorem dX7_enter_72 : decode cX7_enter 72 = .ok (.getfield 42, 3) := by decide +kernel
theorem dX7_enter_75 : decode cX7_enter 75 = .ok (.bipush 30, 2) := by decide +kernel
theorem dX7_enter_77 : decode cX7_enter 77 = .ok (.iadd, 1) := by decide +kernel
theorem dX7_enter_78 : decode cX7_enter 78 = .ok (.invokespecial 153, 3) := by decide +kernel
theorem dX7_enter_81 : decode cX7_enter 81 = .ok (.invokevirtual 66, 3) := by decide +kernel
theorem dX7_enter_84 : decode cX7_enter 84 = .ok (.pop, 1) := by decide +kernel
theorem dX7_enter_85 : decode cX7_enter 85 = .ok (.aload_n 0, 1) := by decide +kernel
theorem dX7_enter_86 : decode cX7_enter 86 = .ok (.getfield 34, 3) := by decide +kernel
theorem dX7_enter_89 : decode cX7_enter 89 = .ok (.iconst 3, 1) := by decide +kernel
theorem dX7_enter_90 : decode cX7_enter 90 = .ok (.aload_n 3, 1) := by decide +kernel
theorem dX7_enter_91 : decode cX7_enter 91 = .ok (.aload 4, 2) := by decide +kernel
theorem dX7_enter_93 : decode cX7_enter 93 = .ok (.aload_n 0, 1) := by decide +kernel
theorem dX7_enter_94 : decode cX7_enter 94 = .ok (.getfield 42, 3) := by decide +kernel
theorem dX7_enter_97 : decode cX7_enter 97 = .ok (.invokevirtual 121, 3) := by decide +kernel
theorem dX7_enter_100 : decode cX7_enter 100 = .ok (.iload 5, 2) := by decide +kernel
theorem dX7_enter_102 : decode cX7_enter 102 = .ok (.ireturn, 1) := by decide +kernel
theorem dX7_lookAt_0 : decode cX7_lookAt 0 = .ok (.aload_n 0, 1) := by decide +kernel
theorem dX7_lookAt_1 : decode cX7_lookAt 1 = .ok (.iload_n 1, 1) := by decide +kernel
theorem dX7_lookAt_2 : decode cX7_lookAt 2 = .ok (.invokevirtual 163, 3) := by decide +kernel
theorem dX7_lookAt_5 : decode cX7_lookAt 5 = .ok (.astore_n 3, 1) := by decide +kernel
theorem dX7_lookAt_6 : decode cX7_lookAt 6 = .ok (.aload_n 0, 1) := by decide +kernel
theorem dX7_lookAt_7 : decode cX7_lookAt 7 = .ok (.iload_n 2, 1) := by decide +kernel
theorem dX7_lookAt_8 : decode cX7_lookAt 8 = .ok (.invokevirtual 79, 3) := by decide +kernel
theorem dX7_lookAt_11 : decode cX7_lookAt 11 = .ok (.astore 4, 2) := by decide +kernel
theorem dX7_lookAt_13 : decode cX7_lookAt 13 = .ok (.aload_n 3, 1) := by decide +kernel
theorem dX7_lookAt_14 : decode cX7_lookAt 14 = .ok (.getfield 167, 3) := by decide +kernel
theorem dX7_lookAt_17 : decode cX7_lookAt 17 = .ok (.ifCond .eq 13, 3) := by decide +kernel
theorem dX7_lookAt_20 : decode cX7_lookAt 20 = .ok (.new 56, 3) := by decide +kernel
theorem dX7_lookAt_23 : decode cX7_lookAt 23 = .ok (.dup, 1) := by decide +kernel
theorem dX7_lookAt_24 : decode cX7_lookAt 24 = .ok (.ldc 171, 2) := by decide +kernel
theorem dX7_lookAt_26 : decode cX7_lookAt 26 = .ok (.invokespecial 60, 3) := by decide +kernel
theorem dX7_lookAt_29 : decode cX7_lookAt 29 = .ok (.athrow, 1) := by decide +kernel
theorem dX7_lookAt_30 : decode cX7_lookAt 30 = .ok (.aload 4, 2) := by decide +kernel
theorem dX7_lookAt_32 : decode cX7_lookAt 32 = .ok (.getfield 173, 3) := by decide +kernel
theorem dX7_lookAt_35 : decode cX7_lookAt 35 = .ok (.aload_n 3, 1) := by decide +kernel
theorem dX7_lookAt_36 : decode cX7_lookAt 36 = .ok (.getfield 176, 3) := by decide +kernel
theorem dX7_lookAt_39 : decode cX7_lookAt 39 = .ok (.getfield 173, 3) := by decide +kernel
theorem dX7_lookAt_42 : decode cX7_lookAt 42 = .ok (.if_icmp .ne 13, 3) := by decide +kernel
theorem dX7_lookAt_45 : decode cX7_lookAt 45 = .ok (.new 56, 3) := by decide +kernel
theorem dX7_lookAt_48 : decode cX7_lookAt 48 = .ok (.dup, 1) := by decide +kernel
theorem dX7_lookAt_49 : decode cX7_lookAt 49 = .ok (.ldc 177, 2) := by decide +kernel
theorem dX7_lookAt_51 : decode cX7_lookAt 51 = .ok (.invokespecial 60, 3) := by decide +kernel
theorem dX7_lookAt_54 : decode cX7_lookAt 54 = .ok (.athrow, 1) := by decide +kernel
theorem dX7_lookAt_55 : decode cX7_lookAt 55 = .ok (.aload_n 3, 1) := by decide +kernel
theorem dX7_lookAt_56 : decode cX7_lookAt 56 = .ok (.iconst 1, 1) := by decide +kernel
theorem dX7_lookAt_57 : decode cX7_lookAt 57 = .ok (.putfield 167, 3) := by decide +kernel
theorem dX7_lookAt_60 : decode cX7_lookAt 60 = .ok (.aload_n 0, 1) := by decide +kernel
theorem dX7_lookAt_61 : decode cX7_lookAt 61 = .ok (.getfield 34, 3) := by decide +kernel
theorem dX7_lookAt_64 : decode cX7_lookAt 64 = .ok (.iconst 4, 1) := by decide +kernel
theorem dX7_lookAt_65 : decode cX7_lookAt 65 = .ok (.aload 4, 2) := by decide +kernel
theorem dX7_lookAt_67 : decode cX7_lookAt 67 = .ok (.aload_n 3, 1) := by decide +kernel
theorem dX7_lookAt_68 : decode cX7_lookAt 68 = .ok (.getfield 179, 3) := by decide +kernel
theorem dX7_lookAt_71 : decode cX7_lookAt 71 = .ok (.aload_n 0, 1) := by decide +kernel
theorem dX7_lookAt_72 : decode cX7_lookAt 72 = .ok (.getfield 42, 3) := by decide +kernel
theorem dX7_lookAt_75 : decode cX7_lookAt 75 = .ok (.invokevirtual 121, 3) := by decide +kernel
theorem dX7_lookAt_78 : decode cX7_lookAt 78 = .ok (.aload_n 0, 1) := by decide +kernel
theorem dX7_lookAt_79 : decode cX7_lookAt 79 = .ok (.getfield 42, 3) := by decide +kernel
theorem dX7_lookAt_82 : decode cX7_lookAt 82 = .ok (.aload_n 3, 1) := by decide +kernel
theorem dX7_lookAt_83 : decode cX7_lookAt 83 = .ok (.getfield 180, 3) := by decide +kernel
theorem dX7_lookAt_86 : decode cX7_lookAt 86 = .ok (.isub, 1) := by decide +kernel
theorem dX7_lookAt_87 : decode cX7_lookAt 87 = .ok (.ireturn, 1) := by decide +kernel
theorem dX7_overdue_0 : decode cX7_overdue 0 = .ok (.aload_n 0, 1) := by decide +kernel
theorem dX7_overdue_1 : decode cX7_overdue 1 = .ok (.aload_n 0, 1) := by decide +kernel
theorem dX7_overdue_2 : decode cX7_overdue 2 = .ok (.iload_n 1, 1) := by decide +kernel
theorem dX7_overdue_3 : decode cX7_overdue 3 = .ok (.invokevirtual 79, 3) := by decide +kernel
theorem dX7_overdue_6 : decode cX7_overdue 6 = .ok (.invokevirtual 183, 3) := by decide +kernel
theorem dX7_overdue_9 : decode cX7_overdue 9 = .ok (.ireturn, 1) := by decide +kernel
theorem dX7_couldEnter_0 : decode cX7_couldEnter 0 = .ok (.aload_n 0, 1) := by decide +kernel
theorem dX7_couldEnter_1 : decode cX7_couldEnter 1 = .ok (.iload_n 1, 1) := by decide +kernel
theorem dX7_couldEnter_2 : decode cX7_couldEnter 2 = .ok (.invokevirtual 79, 3) := by decide +kernel
theorem dX7_couldEnter_5 : decode cX7_couldEnter 5 = .ok (.astore 4, 2) := by decide +kernel
theorem dX7_couldEnter_7 : decode cX7_couldEnter 7 = .ok (.aload_n 0, 1) := by decide +kernel
theorem dX7_couldEnter_8 : decode cX7_couldEnter 8 = .ok (.iload_n 2, 1) := by decide +kernel
theorem dX7_couldEnter_9 : decode cX7_couldEnter 9 = .ok (.invokevirtual 104, 3) := by decide +kernel
theorem dX7_couldEnter_12 : decode cX7_couldEnter 12 = .ok (.astore 5, 2) := by decide +kernel
theorem dX7_couldEnter_14 : decode cX7_couldEnter 14 = .ok (.iload_n 3, 1) := by decide +kernel
theorem dX7_couldEnter_15 : decode cX7_couldEnter 15 = .ok (.ifCond .lt 9, 3) := by decide +kernel
theorem dX7_couldEnter_18 : decode cX7_couldEnter 18 = .ok (.iload_n 3, 1) := by decide +kernel
theorem dX7_couldEnter_19 : decode cX7_couldEnter 19 = .ok (.ldc 187, 2) := by decide +kernel
theorem dX7_couldEnter_21 : decode cX7_couldEnter 21 = .ok (.if_icmp .le 13, 3) := by decide +kernel
theorem dX7_couldEnter_24 : decode cX7_couldEnter 24 = .ok (.new 45, 3) := by decide +kernel
theorem dX7_couldEnter_27 : decode cX7_couldEnter 27 = .ok (.dup, 1) := by decide +kernel
theorem dX7_couldEnter_28 : decode cX7_couldEnter 28 = .ok (.ldc 188, 2) := by decide +kernel
theorem dX7_couldEnter_30 : decode cX7_couldEnter 30 = .ok (.invokespecial 49, 3) := by decide +kernel
theorem dX7_couldEnter_33 : decode cX7_couldEnter 33 = .ok (.athrow, 1) := by decide +kernel
theorem dX7_couldEnter_34 : decode cX7_couldEnter 34 = .ok (.aload_n 0, 1) := by decide +kernel
theorem dX7_couldEnter_35 : decode cX7_couldEnter 35 = .ok (.aload 4, 2) := by decide +kernel
theorem dX7_couldEnter_37 : decode cX7_couldEnter 37 = .ok (.aload 5, 2) := by decide +kernel
theorem dX7_couldEnter_39 : decode cX7_couldEnter 39 = .ok (.iload_n 3, 1) := by decide +kernel
theorem dX7_couldEnter_40 : decode cX7_couldEnter 40 = .ok (.invokevirtual 190, 3) := by decide +kernel
theorem dX7_couldEnter_43 : decode cX7_couldEnter 43 = .ok (.ireturn, 1) := by decide +kernel
theorem dX7_open_0 : decode cX7_open 0 = .ok (.aload_n 0, 1) := by decide +kernel
theorem dX7_open_1 : decode cX7_open 1 = .ok (.iload_n 1, 1) := by decide +kernel
theorem dX7_open_2 : decode cX7_open 2 = .ok (.invokevirtual 79, 3) := by decide +kernel
theorem dX7_open_5 : decode cX7_open 5 = .ok (.astore_n 3, 1) := by decide +kernel
theorem dX7_open_6 : decode cX7_open 6 = .ok (.aload_n 0, 1) := by decide +kernel
theorem dX7_open_7 : decode cX7_open 7 = .ok (.iload_n 2, 1) := by decide +kernel
theorem dX7_open_8 : decode cX7_open 8 = .ok (.invokevirtual 104, 3) := by decide +kernel
theorem dX7_open_11 : decode cX7_open 11 = .ok (.astore 4, 2) := by decide +kernel
theorem dX7_open_13 : decode cX7_open 13 = .ok (.aload_n 0, 1) := by decide +kernel
theorem dX7_open_14 : decode cX7_open 14 = .ok (.aload_n 3, 1) := by decide +kernel
theorem dX7_open_15 : decode cX7_open 15 = .ok (.aload 4, 2) := by decide +kernel
theorem dX7_open_17 : decode cX7_open 17 = .ok (.aload_n 0, 1) := by decide +kernel
theorem dX7_open_18 : decode cX7_open 18 = .ok (.getfield 42, 3) := by decide +kernel
theorem dX7_open_21 : decode cX7_open 21 = .ok (.invokevirtual 190, 3) := by decide +kernel
theorem dX7_open_24 : decode cX7_open 24 = .ok (.ifCond .ne 13, 3) := by decide +kernel
theorem dX7_open_27 : decode cX7_open 27 = .ok (.new 56, 3) := by decide +kernel
theorem dX7_open_30 : decode cX7_open 30 = .ok (.dup, 1) := by decide +kernel
theorem dX7_open_31 : decode cX7_open 31 = .ok (.ldc 194, 2) := by decide +kernel
theorem dX7_open_33 : decode cX7_open 33 = .ok (.invokespecial 60, 3) := by decide +kernel
theorem dX7_open_36 : decode cX7_open 36 = .ok (.athrow, 1) := by decide +kernel
theorem dX7_open_37 : decode cX7_open 37 = .ok (.aload_n 0, 1) := by decide +kernel
theorem dX7_open_38 : decode cX7_open 38 = .ok (.getfield 28, 3) := by decide +kernel
theorem dX7_open_41 : decode cX7_open 41 = .ok (.invokevirtual 52, 3) := by decide +kernel
theorem dX7_open_44 : decode cX7_open 44 = .ok (.istore 5, 2) := by decide +kernel
theorem dX7_open_46 : decode cX7_open 46 = .ok (.iload 5, 2) := by decide +kernel
theorem dX7_open_48 : decode cX7_open 48 = .ok (.invokestatic 113, 3) := by decide +kernel
theorem dX7_open_51 : decode cX7_open 51 = .ok (.aload_n 0, 1) := by decide +kernel
theorem dX7_open_52 : decode cX7_open 52 = .ok (.getfield 28, 3) := by decide +kernel
theorem dX7_open_55 : decode cX7_open 55 = .ok (.new 196, 3) := by decide +kernel
theorem dX7_open_58 : decode cX7_open 58 = .ok (.dup, 1) := by decide +kernel
theorem dX7_open_59 : decode cX7_open 59 = .ok (.aload_n 3, 1) := by decide +kernel
theorem dX7_open_60 : decode cX7_open 60 = .ok (.aload 4, 2) := by decide +kernel
theorem dX7_open_62 : decode cX7_open 62 = .ok (.aload_n 0, 1) := by decide +kernel
theorem dX7_open_63 : decode cX7_open 63 = .ok (.getfield 42, 3) := by decide +kernel
theorem dX7_open_66 : decode cX7_open 66 = .ok (.invokespecial 198, 3) := by decide +kernel
theorem dX7_open_69 : decode cX7_open 69 = .ok (.invokevirtual 66, 3) := by decide +kernel
theorem dX7_open_72 : decode cX7_open 72 = .ok (.pop, 1) := by decide +kernel
theorem dX7_open_73 : decode cX7_open 73 = .ok (.aload_n 0, 1) := by decide +kernel
theorem dX7_open_74 : decode cX7_open 74 = .ok (.dup, 1) := by decide +kernel
theorem dX7_open_75 : decode cX7_open 75 = .ok (.getfield 38, 3) := by decide +kernel
theorem dX7_open_78 : decode cX7_open 78 = .ok (.iconst 1, 1) := by decide +kernel
theorem dX7_open_79 : decode cX7_open 79 = .ok (.iadd, 1) := by decide +kernel
theorem dX7_open_80 : decode cX7_open 80 = .ok (.putfield 38, 3) := by decide +kernel
theorem dX7_open_83 : decode cX7_open 83 = .ok (.aload_n 0, 1) := by decide +kernel
theorem dX7_open_84 : decode cX7_open 84 = .ok (.getfield 34, 3) := by decide +kernel
theorem dX7_open_87 : decode cX7_open 87 = .ok (.iconst 5, 1) := by decide +kernel
theorem dX7_open_88 : decode cX7_open 88 = .ok (.aload_n 3, 1) := by decide +kernel
theorem dX7_open_89 : decode cX7_open 89 = .ok (.aload 4, 2) := by decide +kernel
theorem dX7_open_91 : decode cX7_open 91 = .ok (.aload_n 0, 1) := by decide +kernel
theorem dX7_open_92 : decode cX7_open 92 = .ok (.getfield 42, 3) := by decide +kernel
theorem dX7_open_95 : decode cX7_open 95 = .ok (.invokevirtual 121, 3) := by decide +kernel
theorem dX7_open_98 : decode cX7_open 98 = .ok (.iload 5, 2) := by decide +kernel
theorem dX7_open_100 : decode cX7_open 100 = .ok (.ireturn, 1) := by decide +kernel
theorem dX7_type_0 : decode cX7_type 0 = .ok (.aload_n 0, 1) := by decide +kernel
theorem dX7_type_1 : decode cX7_type 1 = .ok (.iload_n 1, 1) := by decide +kernel
theorem dX7_type_2 : decode cX7_type 2 = .ok (.invokevirtual 199, 3) := by decide +kernel
theorem dX7_type_5 : decode cX7_type 5 = .ok (.astore_n 3, 1) := by decide +kernel
theorem dX7_type_6 : decode cX7_type 6 = .ok (.iload_n 2, 1) := by decide +kernel
theorem dX7_type_7 : decode cX7_type 7 = .ok (.ifCond .lt 8, 3) := by decide +kernel
theorem dX7_type_10 : decode cX7_type 10 = .ok (.iload_n 2, 1) := by decide +kernel
theorem dX7_type_11 : decode cX7_type 11 = .ok (.iconst 2, 1) := by decide +kernel
theorem dX7_type_12 : decode cX7_type 12 = .ok (.if_icmp .le 13, 3) := by decide +kernel
theorem dX7_type_15 : decode cX7_type 15 = .ok (.new 45, 3) := by decide +kernel
theorem dX7_type_18 : decode cX7_type 18 = .ok (.dup, 1) := by decide +kernel
theorem dX7_type_19 : decode cX7_type 19 = .ok (.ldc 203, 2) := by decide +kernel
theorem dX7_type_21 : decode cX7_type 21 = .ok (.invokespecial 49, 3) := by decide +kernel
theorem dX7_type_24 : decode cX7_type 24 = .ok (.athrow, 1) := by decide +kernel
theorem dX7_type_25 : decode cX7_type 25 = .ok (.aload_n 3, 1) := by decide +kernel
theorem dX7_type_26 : decode cX7_type 26 = .ok (.invokestatic 205, 3) := by decide +kernel
theorem dX7_type_29 : decode cX7_type 29 = .ok (.aload_n 3, 1) := by decide +kernel
theorem dX7_type_30 : decode cX7_type 30 = .ok (.invokevirtual 209, 3) := by decide +kernel
theorem dX7_type_33 : decode cX7_type 33 = .ok (.ifCond .eq 13, 3) := by decide +kernel
theorem dX7_type_36 : decode cX7_type 36 = .ok (.new 56, 3) := by decide +kernel
theorem dX7_type_39 : decode cX7_type 39 = .ok (.dup, 1) := by decide +kernel
theorem dX7_type_40 : decode cX7_type 40 = .ok (.ldc 213, 2) := by decide +kernel
theorem dX7_type_42 : decode cX7_type 42 = .ok (.invokespecial 60, 3) := by decide +kernel
theorem dX7_type_45 : decode cX7_type 45 = .ok (.athrow, 1) := by decide +kernel
theorem dX7_type_46 : decode cX7_type 46 = .ok (.aload_n 0, 1) := by decide +kernel
theorem dX7_type_47 : decode cX7_type 47 = .ok (.getfield 34, 3) := by decide +kernel
theorem dX7_type_50 : decode cX7_type 50 = .ok (.bipush 7, 2) := by decide +kernel
theorem dX7_type_52 : decode cX7_type 52 = .ok (.aload_n 3, 1) := by decide +kernel
theorem dX7_type_53 : decode cX7_type 53 = .ok (.getfield 215, 3) := by decide +kernel
theorem dX7_type_56 : decode cX7_type 56 = .ok (.aload_n 3, 1) := by decide +kernel
theorem dX7_type_57 : decode cX7_type 57 = .ok (.getfield 216, 3) := by decide +kernel
theorem dX7_type_60 : decode cX7_type 60 = .ok (.aload_n 0, 1) := by decide +kernel
theorem dX7_type_61 : decode cX7_type 61 = .ok (.getfield 42, 3) := by decide +kernel
theorem dX7_type_64 : decode cX7_type 64 = .ok (.invokevirtual 121, 3) := by decide +kernel
theorem dX7_type_67 : decode cX7_type 67 = .ok (.aload_n 3, 1) := by decide +kernel
theorem dX7_type_68 : decode cX7_type 68 = .ok (.aload_n 0, 1) := by decide +kernel
theorem dX7_type_69 : decode cX7_type 69 = .ok (.getfield 42, 3) := by decide +kernel
theorem dX7_type_72 : decode cX7_type 72 = .ok (.putfield 217, 3) := by decide +kernel
theorem dX7_type_75 : decode cX7_type 75 = .ok (.iload_n 2, 1) := by decide +kernel
theorem dX7_type_76 : decode cX7_type 76 = .ok (.ifCond .ne 15, 3) := by decide +kernel
theorem dX7_type_79 : decode cX7_type 79 = .ok (.aload_n 3, 1) := by decide +kernel
theorem dX7_type_80 : decode cX7_type 80 = .ok (.dup, 1) := by decide +kernel
theorem dX7_type_81 : decode cX7_type 81 = .ok (.getfield 220, 3) := by decide +kernel
theorem dX7_type_84 : decode cX7_type 84 = .ok (.iconst 1, 1) := by decide +kernel
theorem dX7_type_85 : decode cX7_type 85 = .ok (.iadd, 1) := by decide +kernel
theorem dX7_type_86 : decode cX7_type 86 = .ok (.putfield 220, 3) := by decide +kernel
theorem dX7_type_89 : decode cX7_type 89 = .ok (.iconst 1, 1) := by decide +kernel
theorem dX7_type_90 : decode cX7_type 90 = .ok (.ireturn, 1) := by decide +kernel
theorem dX7_type_91 : decode cX7_type 91 = .ok (.iload_n 2, 1) := by decide +kernel
theorem dX7_type_92 : decode cX7_type 92 = .ok (.iconst 1, 1) := by decide +kernel
theorem dX7_type_93 : decode cX7_type 93 = .ok (.if_icmp .ne 13, 3) := by decide +kernel
theorem dX7_type_96 : decode cX7_type 96 = .ok (.aload_n 3, 1) := by decide +kernel
theorem dX7_type_97 : decode cX7_type 97 = .ok (.aload_n 0, 1) := by decide +kernel
theorem dX7_type_98 : decode cX7_type 98 = .ok (.getfield 42, 3) := by decide +kernel
theorem dX7_type_101 : decode cX7_type 101 = .ok (.putfield 223, 3) := by decide +kernel
theorem dX7_type_104 : decode cX7_type 104 = .ok (.iconst 0, 1) := by decide +kernel
theorem dX7_type_105 : decode cX7_type 105 = .ok (.ireturn, 1) := by decide +kernel
theorem dX7_type_106 : decode cX7_type 106 = .ok (.aload_n 0, 1) := by decide +kernel
theorem dX7_type_107 : decode cX7_type 107 = .ok (.aload_n 3, 1) := by decide +kernel
theorem dX7_type_108 : decode cX7_type 108 = .ok (.getfield 215, 3) := by decide +kernel
theorem dX7_type_111 : decode cX7_type 111 = .ok (.aload_n 3, 1) := by decide +kernel
theorem dX7_type_112 : decode cX7_type 112 = .ok (.getfield 216, 3) := by decide +kernel
theorem dX7_type_115 : decode cX7_type 115 = .ok (.invokevirtual 94, 3) := by decide +kernel
theorem dX7_type_118 : decode cX7_type 118 = .ok (.aload_n 0, 1) := by decide +kernel
theorem dX7_type_119 : decode cX7_type 119 = .ok (.invokevirtual 101, 3) := by decide +kernel
theorem dX7_type_122 : decode cX7_type 122 = .ok (.pop, 1) := by decide +kernel
theorem dX7_type_123 : decode cX7_type 123 = .ok (.iconst 0, 1) := by decide +kernel
theorem dX7_type_124 : decode cX7_type 124 = .ok (.ireturn, 1) := by decide +kernel
theorem dX7_letThrough_0 : decode cX7_letThrough 0 = .ok (.aload_n 0, 1) := by decide +kernel
theorem dX7_letThrough_1 : decode cX7_letThrough 1 = .ok (.iload_n 1, 1) := by decide +kernel
theorem dX7_letThrough_2 : decode cX7_letThrough 2 = .ok (.invokevirtual 199, 3) := by decide +kernel
theorem dX7_letThrough_5 : decode cX7_letThrough 5 = .ok (.astore_n 3, 1) := by decide +kernel
theorem dX7_letThrough_6 : decode cX7_letThrough 6 = .ok (.aload_n 0, 1) := by decide +kernel
theorem dX7_letThrough_7 : decode cX7_letThrough 7 = .ok (.iload_n 2, 1) := by decide +kernel
theorem dX7_letThrough_8 : decode cX7_letThrough 8 = .ok (.invokevirtual 79, 3) := by decide +kernel
theorem dX7_letThrough_11 : decode cX7_letThrough 11 = .ok (.astore 4, 2) := by decide +kernel
theorem dX7_letThrough_13 : decode cX7_letThrough 13 = .ok (.aload_n 3, 1) := by decide +kernel
theorem dX7_letThrough_14 : decode cX7_letThrough 14 = .ok (.invokestatic 205, 3) := by decide +kernel
theorem dX7_letThrough_17 : decode cX7_letThrough 17 = .ok (.aload_n 3, 1) := by decide +kernel
theorem dX7_letThrough_18 : decode cX7_letThrough 18 = .ok (.invokevirtual 209, 3) := by decide +kernel
theorem dX7_letThrough_21 : decode cX7_letThrough 21 = .ok (.ifCond .ne 13, 3) := by decide +kernel
theorem dX7_letThrough_24 : decode cX7_letThrough 24 = .ok (.new 56, 3) := by decide +kernel
theorem dX7_letThrough_27 : decode cX7_letThrough 27 = .ok (.dup, 1) := by decide +kernel
theorem dX7_letThrough_28 : decode cX7_letThrough 28 = .ok (.ldc 226, 2) := by decide +kernel
theorem dX7_letThrough_30 : decode cX7_letThrough 30 = .ok (.invokespecial 60, 3) := by decide +kernel
theorem dX7_letThrough_33 : decode cX7_letThrough 33 = .ok (.athrow, 1) := by decide +kernel
theorem dX7_letThrough_34 : decode cX7_letThrough 34 = .ok (.aload 4, 2) := by decide +kernel
theorem dX7_letThrough_36 : decode cX7_letThrough 36 = .ok (.aload_n 3, 1) := by decide +kernel
theorem dX7_letThrough_37 : decode cX7_letThrough 37 = .ok (.getfield 215, 3) := by decide +kernel
theorem dX7_letThrough_40 : decode cX7_letThrough 40 = .ok (.aload_n 3, 1) := by decide +kernel
theorem dX7_letThrough_41 : decode cX7_letThrough 41 = .ok (.getfield 216, 3) := by decide +kernel
theorem dX7_letThrough_44 : decode cX7_letThrough 44 = .ok (.invokevirtual 228, 3) := by decide +kernel
theorem dX7_letThrough_47 : decode cX7_letThrough 47 = .ok (.ifCond .ne 13, 3) := by decide +kernel
theorem dX7_letThrough_50 : decode cX7_letThrough 50 = .ok (.new 56, 3) := by decide +kernel
theorem dX7_letThrough_53 : decode cX7_letThrough 53 = .ok (.dup, 1) := by decide +kernel
theorem dX7_letThrough_54 : decode cX7_letThrough 54 = .ok (.ldc 232, 2) := by decide +kernel
theorem dX7_letThrough_56 : decode cX7_letThrough 56 = .ok (.invokespecial 60, 3) := by decide +kernel
theorem dX7_letThrough_59 : decode cX7_letThrough 59 = .ok (.athrow, 1) := by decide +kernel
theorem dX7_letThrough_60 : decode cX7_letThrough 60 = .ok (.aload_n 0, 1) := by decide +kernel
theorem dX7_letThrough_61 : decode cX7_letThrough 61 = .ok (.getfield 42, 3) := by decide +kernel
theorem dX7_letThrough_64 : decode cX7_letThrough 64 = .ok (.aload_n 3, 1) := by decide +kernel
theorem dX7_letThrough_65 : decode cX7_letThrough 65 = .ok (.getfield 223, 3) := by decide +kernel
theorem dX7_letThrough_68 : decode cX7_letThrough 68 = .ok (.isub, 1) := by decide +kernel
theorem dX7_letThrough_69 : decode cX7_letThrough 69 = .ok (.istore 5, 2) := by decide +kernel
theorem dX7_letThrough_71 : decode cX7_letThrough 71 = .ok (.aload_n 3, 1) := by decide +kernel
theorem dX7_letThrough_72 : decode cX7_letThrough 72 = .ok (.iconst (-1), 1) := by decide +kernel
theorem dX7_letThrough_73 : decode cX7_letThrough 73 = .ok (.putfield 223, 3) := by decide +kernel
theorem dX7_letThrough_76 : decode cX7_letThrough 76 = .ok (.aload_n 3, 1) := by decide +kernel
theorem dX7_letThrough_77 : decode cX7_letThrough 77 = .ok (.dup, 1) := by decide +kernel
theorem dX7_letThrough_78 : decode cX7_letThrough 78 = .ok (.getfield 220, 3) := by decide +kernel
theorem dX7_letThrough_81 : decode cX7_letThrough 81 = .ok (.iconst 1, 1) := by decide +kernel
theorem dX7_letThrough_82 : decode cX7_letThrough 82 = .ok (.iadd, 1) := by decide +kernel
theorem dX7_letThrough_83 : decode cX7_letThrough 83 = .ok (.putfield 220, 3) := by decide +kernel
theorem dX7_letThrough_86 : decode cX7_letThrough 86 = .ok (.aload_n 0, 1) := by decide +kernel
theorem dX7_letThrough_87 : decode cX7_letThrough 87 = .ok (.getfield 34, 3) := by decide +kernel
theorem dX7_letThrough_90 : decode cX7_letThrough 90 = .ok (.bipush 8, 2) := by decide +kernel
theorem dX7_letThrough_92 : decode cX7_letThrough 92 = .ok (.aload 4, 2) := by decide +kernel
theorem dX7_letThrough_94 : decode cX7_letThrough 94 = .ok (.aload_n 3, 1) := by decide +kernel
theorem dX7_letThrough_95 : decode cX7_letThrough 95 = .ok (.getfield 216, 3) := by decide +kernel
theorem dX7_letThrough_98 : decode cX7_letThrough 98 = .ok (.aload_n 0, 1) := by decide +kernel
theorem dX7_letThrough_99 : decode cX7_letThrough 99 = .ok (.getfield 42, 3) := by decide +kernel
theorem dX7_letThrough_102 : decode cX7_letThrough 102 = .ok (.invokevirtual 121, 3) := by decide +kernel
theorem dX7_letThrough_105 : decode cX7_letThrough 105 = .ok (.iload 5, 2) := by decide +kernel
theorem dX7_letThrough_107 : decode cX7_letThrough 107 = .ok (.ireturn, 1) := by decide +kernel
theorem dX7_close_0 : decode cX7_close 0 = .ok (.aload_n 0, 1) := by decide +kernel
theorem dX7_close_1 : decode cX7_close 1 = .ok (.iload_n 1, 1) := by decide +kernel
theorem dX7_close_2 : decode cX7_close 2 = .ok (.invokevirtual 199, 3) := by decide +kernel
theorem dX7_close_5 : decode cX7_close 5 = .ok (.astore_n 2, 1) := by decide +kernel
theorem dX7_close_6 : decode cX7_close 6 = .ok (.aload_n 2, 1) := by decide +kernel
theorem dX7_close_7 : decode cX7_close 7 = .ok (.invokestatic 205, 3) := by decide +kernel
theorem dX7_close_10 : decode cX7_close 10 = .ok (.aload_n 0, 1) := by decide +kernel
theorem dX7_close_11 : decode cX7_close 11 = .ok (.aload_n 2, 1) := by decide +kernel
theorem dX7_close_12 : decode cX7_close 12 = .ok (.invokevirtual 234, 3) := by decide +kernel
theorem dX7_close_15 : decode cX7_close 15 = .ok (.aload_n 2, 1) := by decide +kernel
theorem dX7_close_16 : decode cX7_close 16 = .ok (.getfield 220, 3) := by decide +kernel
theorem dX7_close_19 : decode cX7_close 19 = .ok (.ireturn, 1) := by decide +kernel
theorem dX7_isOpen_0 : decode cX7_isOpen 0 = .ok (.aload_n 0, 1) := by decide +kernel
theorem dX7_isOpen_1 : decode cX7_isOpen 1 = .ok (.iload_n 1, 1) := by decide +kernel
theorem dX7_isOpen_2 : decode cX7_isOpen 2 = .ok (.invokevirtual 199, 3) := by decide +kernel
theorem dX7_isOpen_5 : decode cX7_isOpen 5 = .ok (.getfield 237, 3) := by decide +kernel
theorem dX7_isOpen_8 : decode cX7_isOpen 8 = .ok (.ifCond .ne 7, 3) := by decide +kernel
theorem dX7_isOpen_11 : decode cX7_isOpen 11 = .ok (.iconst 1, 1) := by decide +kernel
theorem dX7_isOpen_12 : decode cX7_isOpen 12 = .ok (.goto 4, 3) := by decide +kernel
theorem dX7_isOpen_15 : decode cX7_isOpen 15 = .ok (.iconst 0, 1) := by decide +kernel
theorem dX7_isOpen_16 : decode cX7_isOpen 16 = .ok (.ireturn, 1) := by decide +kernel
theorem dX7_openSessions_0 : decode cX7_openSessions 0 = .ok (.aload_n 0, 1) := by decide +kernel
theorem dX7_openSessions_1 : decode cX7_openSessions 1 = .ok (.getfield 38, 3) := by decide +kernel
theorem dX7_openSessions_4 : decode cX7_openSessions 4 = .ok (.ireturn, 1) := by decide +kernel
theorem dX7_pass_0 : decode cX7_pass 0 = .ok (.iload_n 1, 1) := by decide +kernel
theorem dX7_pass_1 : decode cX7_pass 1 = .ok (.iconst 1, 1) := by decide +kernel
theorem dX7_pass_2 : decode cX7_pass 2 = .ok (.if_icmp .lt 10, 3) := by decide +kernel
theorem dX7_pass_5 : decode cX7_pass 5 = .ok (.iload_n 1, 1) := by decide +kernel
theorem dX7_pass_6 : decode cX7_pass 6 = .ok (.sipush 3000, 3) := by decide +kernel
theorem dX7_pass_9 : decode cX7_pass 9 = .ok (.if_icmp .le 13, 3) := by decide +kernel
theorem dX7_pass_12 : decode cX7_pass 12 = .ok (.new 45, 3) := by decide +kernel
theorem dX7_pass_15 : decode cX7_pass 15 = .ok (.dup, 1) := by decide +kernel
theorem dX7_pass_16 : decode cX7_pass 16 = .ok (.ldc 108, 2) := by decide +kernel
theorem dX7_pass_18 : decode cX7_pass 18 = .ok (.invokespecial 49, 3) := by decide +kernel
theorem dX7_pass_21 : decode cX7_pass 21 = .ok (.athrow, 1) := by decide +kernel
theorem dX7_pass_22 : decode cX7_pass 22 = .ok (.aload_n 0, 1) := by decide +kernel
theorem dX7_pass_23 : decode cX7_pass 23 = .ok (.getfield 42, 3) := by decide +kernel
theorem dX7_pass_26 : decode cX7_pass 26 = .ok (.iload_n 1, 1) := by decide +kernel
theorem dX7_pass_27 : decode cX7_pass 27 = .ok (.iadd, 1) := by decide +kernel
theorem dX7_pass_28 : decode cX7_pass 28 = .ok (.istore_n 2, 1) := by decide +kernel
theorem dX7_pass_29 : decode cX7_pass 29 = .ok (.iload_n 2, 1) := by decide +kernel
theorem dX7_pass_30 : decode cX7_pass 30 = .ok (.ldc 187, 2) := by decide +kernel
theorem dX7_pass_32 : decode cX7_pass 32 = .ok (.if_icmp .le 13, 3) := by decide +kernel
theorem dX7_pass_35 : decode cX7_pass 35 = .ok (.new 56, 3) := by decide +kernel
theorem dX7_pass_38 : decode cX7_pass 38 = .ok (.dup, 1) := by decide +kernel
theorem dX7_pass_39 : decode cX7_pass 39 = .ok (.ldc 240, 2) := by decide +kernel
theorem dX7_pass_41 : decode cX7_pass 41 = .ok (.invokespecial 60, 3) := by decide +kernel
theorem dX7_pass_44 : decode cX7_pass 44 = .ok (.athrow, 1) := by decide +kernel
theorem dX7_pass_45 : decode cX7_pass 45 = .ok (.iconst 0, 1) := by decide +kernel
theorem dX7_pass_46 : decode cX7_pass 46 = .ok (.istore_n 3, 1) := by decide +kernel
theorem dX7_pass_47 : decode cX7_pass 47 = .ok (.iconst 0, 1) := by decide +kernel
theorem dX7_pass_48 : decode cX7_pass 48 = .ok (.istore 4, 2) := by decide +kernel
theorem dX7_pass_50 : decode cX7_pass 50 = .ok (.iload 4, 2) := by decide +kernel
theorem dX7_pass_52 : decode cX7_pass 52 = .ok (.iload_n 1, 1) := by decide +kernel
theorem dX7_pass_53 : decode cX7_pass 53 = .ok (.if_icmp .ge 33, 3) := by decide +kernel
theorem dX7_pass_56 : decode cX7_pass 56 = .ok (.aload_n 0, 1) := by decide +kernel
theorem dX7_pass_57 : decode cX7_pass 57 = .ok (.getfield 38, 3) := by decide +kernel
theorem dX7_pass_60 : decode cX7_pass 60 = .ok (.ifCond .le 26, 3) := by decide +kernel
theorem dX7_pass_63 : decode cX7_pass 63 = .ok (.aload_n 0, 1) := by decide +kernel
theorem dX7_pass_64 : decode cX7_pass 64 = .ok (.dup, 1) := by decide +kernel
theorem dX7_pass_65 : decode cX7_pass 65 = .ok (.getfield 42, 3) := by decide +kernel
theorem dX7_pass_68 : decode cX7_pass 68 = .ok (.iconst 1, 1) := by decide +kernel
theorem dX7_pass_69 : decode cX7_pass 69 = .ok (.iadd, 1) := by decide +kernel
theorem dX7_pass_70 : decode cX7_pass 70 = .ok (.putfield 42, 3) := by decide +kernel
theorem dX7_pass_73 : decode cX7_pass 73 = .ok (.iload_n 3, 1) := by decide +kernel
theorem dX7_pass_74 : decode cX7_pass 74 = .ok (.aload_n 0, 1) := by decide +kernel
theorem dX7_pass_75 : decode cX7_pass 75 = .ok (.invokevirtual 101, 3) := by decide +kernel
theorem dX7_pass_78 : decode cX7_pass 78 = .ok (.iadd, 1) := by decide +kernel
theorem dX7_pass_79 : decode cX7_pass 79 = .ok (.istore_n 3, 1) := by decide +kernel
theorem dX7_pass_80 : decode cX7_pass 80 = .ok (.iinc 4 1, 3) := by decide +kernel
theorem dX7_pass_83 : decode cX7_pass 83 = .ok (.goto (-33), 3) := by decide +kernel
theorem dX7_pass_86 : decode cX7_pass 86 = .ok (.aload_n 0, 1) := by decide +kernel
theorem dX7_pass_87 : decode cX7_pass 87 = .ok (.iload_n 2, 1) := by decide +kernel
theorem dX7_pass_88 : decode cX7_pass 88 = .ok (.putfield 42, 3) := by decide +kernel
theorem dX7_pass_91 : decode cX7_pass 91 = .ok (.iload_n 3, 1) := by decide +kernel
theorem dX7_pass_92 : decode cX7_pass 92 = .ok (.ireturn, 1) := by decide +kernel
theorem dX7_clock_0 : decode cX7_clock 0 = .ok (.aload_n 0, 1) := by decide +kernel
theorem dX7_clock_1 : decode cX7_clock 1 = .ok (.getfield 42, 3) := by decide +kernel
theorem dX7_clock_4 : decode cX7_clock 4 = .ok (.ireturn, 1) := by decide +kernel
theorem dX7_steps_0 : decode cX7_steps 0 = .ok (.aload_n 0, 1) := by decide +kernel
theorem dX7_steps_1 : decode cX7_steps 1 = .ok (.getfield 34, 3) := by decide +kernel
theorem dX7_steps_4 : decode cX7_steps 4 = .ok (.getfield 242, 3) := by decide +kernel
theorem dX7_steps_7 : decode cX7_steps 7 = .ok (.ireturn, 1) := by decide +kernel
theorem dX7_kind_0 : decode cX7_kind 0 = .ok (.aload_n 0, 1) := by decide +kernel
theorem dX7_kind_1 : decode cX7_kind 1 = .ok (.iload_n 1, 1) := by decide +kernel
theorem dX7_kind_2 : decode cX7_kind 2 = .ok (.invokevirtual 245, 3) := by decide +kernel
theorem dX7_kind_5 : decode cX7_kind 5 = .ok (.aload_n 0, 1) := by decide +kernel
theorem dX7_kind_6 : decode cX7_kind 6 = .ok (.getfield 34, 3) := by decide +kernel
theorem dX7_kind_9 : decode cX7_kind 9 = .ok (.getfield 248, 3) := by decide +kernel
theorem dX7_kind_12 : decode cX7_kind 12 = .ok (.iload_n 1, 1) := by decide +kernel
theorem dX7_kind_13 : decode cX7_kind 13 = .ok (.iaload, 1) := by decide +kernel
theorem dX7_kind_14 : decode cX7_kind 14 = .ok (.ireturn, 1) := by decide +kernel
theorem dX7_seal_0 : decode cX7_seal 0 = .ok (.aload_n 0, 1) := by decide +kernel
theorem dX7_seal_1 : decode cX7_seal 1 = .ok (.iload_n 1, 1) := by decide +kernel
theorem dX7_seal_2 : decode cX7_seal 2 = .ok (.invokevirtual 245, 3) := by decide +kernel
theorem dX7_seal_5 : decode cX7_seal 5 = .ok (.aload_n 0, 1) := by decide +kernel
theorem dX7_seal_6 : decode cX7_seal 6 = .ok (.getfield 34, 3) := by decide +kernel
theorem dX7_seal_9 : decode cX7_seal 9 = .ok (.getfield 252, 3) := by decide +kernel
theorem dX7_seal_12 : decode cX7_seal 12 = .ok (.iload_n 1, 1) := by decide +kernel
theorem dX7_seal_13 : decode cX7_seal 13 = .ok (.iaload, 1) := by decide +kernel
theorem dX7_seal_14 : decode cX7_seal 14 = .ok (.ireturn, 1) := by decide +kernel
theorem dX7_personAt_0 : decode cX7_personAt 0 = .ok (.iload_n 1, 1) := by decide +kernel
theorem dX7_personAt_1 : decode cX7_personAt 1 = .ok (.ifCond .lt 14, 3) := by decide +kernel
theorem dX7_personAt_4 : decode cX7_personAt 4 = .ok (.iload_n 1, 1) := by decide +kernel
theorem dX7_personAt_5 : decode cX7_personAt 5 = .ok (.aload_n 0, 1) := by decide +kernel
theorem dX7_personAt_6 : decode cX7_personAt 6 = .ok (.getfield 12, 3) := by decide +kernel
theorem dX7_personAt_9 : decode cX7_personAt 9 = .ok (.invokevirtual 52, 3) := by decide +kernel
theorem dX7_personAt_12 : decode cX7_personAt 12 = .ok (.if_icmp .lt 14, 3) := by decide +kernel
theorem dX7_personAt_15 : decode cX7_personAt 15 = .ok (.new 255, 3) := by decide +kernel
theorem dX7_personAt_18 : decode cX7_personAt 18 = .ok (.dup, 1) := by decide +kernel
theorem dX7_personAt_19 : decode cX7_personAt 19 = .ok (.ldc_w 257, 3) := by decide +kernel
theorem dX7_personAt_22 : decode cX7_personAt 22 = .ok (.invokespecial 259, 3) := by decide +kernel
theorem dX7_personAt_25 : decode cX7_personAt 25 = .ok (.athrow, 1) := by decide +kernel
theorem dX7_personAt_26 : decode cX7_personAt 26 = .ok (.aload_n 0, 1) := by decide +kernel
theorem dX7_personAt_27 : decode cX7_personAt 27 = .ok (.getfield 12, 3) := by decide +kernel
theorem dX7_personAt_30 : decode cX7_personAt 30 = .ok (.iload_n 1, 1) := by decide +kernel
theorem dX7_personAt_31 : decode cX7_personAt 31 = .ok (.invokevirtual 87, 3) := by decide +kernel
theorem dX7_personAt_34 : decode cX7_personAt 34 = .ok (.checkcast 61, 3) := by decide +kernel
theorem dX7_personAt_37 : decode cX7_personAt 37 = .ok (.areturn, 1) := by decide +kernel
theorem dX7_machineAt_0 : decode cX7_machineAt 0 = .ok (.iload_n 1, 1) := by decide +kernel
theorem dX7_machineAt_1 : decode cX7_machineAt 1 = .ok (.ifCond .lt 14, 3) := by decide +kernel
theorem dX7_machineAt_4 : decode cX7_machineAt 4 = .ok (.iload_n 1, 1) := by decide +kernel
theorem dX7_machineAt_5 : decode cX7_machineAt 5 = .ok (.aload_n 0, 1) := by decide +kernel
theorem dX7_machineAt_6 : decode cX7_machineAt 6 = .ok (.getfield 16, 3) := by decide +kernel
theorem dX7_machineAt_9 : decode cX7_machineAt 9 = .ok (.invokevirtual 52, 3) := by decide +kernel
theorem dX7_machineAt_12 : decode cX7_machineAt 12 = .ok (.if_icmp .lt 14, 3) := by decide +kernel
theorem dX7_machineAt_15 : decode cX7_machineAt 15 = .ok (.new 255, 3) := by decide +kernel
theorem dX7_machineAt_18 : decode cX7_machineAt 18 = .ok (.dup, 1) := by decide +kernel
theorem dX7_machineAt_19 : decode cX7_machineAt 19 = .ok (.ldc_w 260, 3) := by decide +kernel
theorem dX7_machineAt_22 : decode cX7_machineAt 22 = .ok (.invokespecial 259, 3) := by decide +kernel
theorem dX7_machineAt_25 : decode cX7_machineAt 25 = .ok (.athrow, 1) := by decide +kernel
theorem dX7_machineAt_26 : decode cX7_machineAt 26 = .ok (.aload_n 0, 1) := by decide +kernel
theorem dX7_machineAt_27 : decode cX7_machineAt 27 = .ok (.getfield 16, 3) := by decide +kernel
theorem dX7_machineAt_30 : decode cX7_machineAt 30 = .ok (.iload_n 1, 1) := by decide +kernel
theorem dX7_machineAt_31 : decode cX7_machineAt 31 = .ok (.invokevirtual 87, 3) := by decide +kernel
theorem dX7_machineAt_34 : decode cX7_machineAt 34 = .ok (.checkcast 76, 3) := by decide +kernel
theorem dX7_machineAt_37 : decode cX7_machineAt 37 = .ok (.areturn, 1) := by decide +kernel
theorem dX7_askAt_0 : decode cX7_askAt 0 = .ok (.iload_n 1, 1) := by decide +kernel
theorem dX7_askAt_1 : decode cX7_askAt 1 = .ok (.ifCond .lt 14, 3) := by decide +kernel
theorem dX7_askAt_4 : decode cX7_askAt 4 = .ok (.iload_n 1, 1) := by decide +kernel
theorem dX7_askAt_5 : decode cX7_askAt 5 = .ok (.aload_n 0, 1) := by decide +kernel
theorem dX7_askAt_6 : decode cX7_askAt 6 = .ok (.getfield 19, 3) := by decide +kernel
theorem dX7_askAt_9 : decode cX7_askAt 9 = .ok (.invokevirtual 52, 3) := by decide +kernel
theorem dX7_askAt_12 : decode cX7_askAt 12 = .ok (.if_icmp .lt 14, 3) := by decide +kernel
theorem dX7_askAt_15 : decode cX7_askAt 15 = .ok (.new 255, 3) := by decide +kernel
theorem dX7_askAt_18 : decode cX7_askAt 18 = .ok (.dup, 1) := by decide +kernel
theorem dX7_askAt_19 : decode cX7_askAt 19 = .ok (.ldc_w 262, 3) := by decide +kernel
theorem dX7_askAt_22 : decode cX7_askAt 22 = .ok (.invokespecial 259, 3) := by decide +kernel
theorem dX7_askAt_25 : decode cX7_askAt 25 = .ok (.athrow, 1) := by decide +kernel
theorem dX7_askAt_26 : decode cX7_askAt 26 = .ok (.aload_n 0, 1) := by decide +kernel
theorem dX7_askAt_27 : decode cX7_askAt 27 = .ok (.getfield 19, 3) := by decide +kernel
theorem dX7_askAt_30 : decode cX7_askAt 30 = .ok (.iload_n 1, 1) := by decide +kernel
theorem dX7_askAt_31 : decode cX7_askAt 31 = .ok (.invokevirtual 87, 3) := by decide +kernel
theorem dX7_askAt_34 : decode cX7_askAt 34 = .ok (.checkcast 116, 3) := by decide +kernel
theorem dX7_askAt_37 : decode cX7_askAt 37 = .ok (.areturn, 1) := by decide +kernel
theorem dX7_entryAt_0 : decode cX7_entryAt 0 = .ok (.iload_n 1, 1) := by decide +kernel
theorem dX7_entryAt_1 : decode cX7_entryAt 1 = .ok (.ifCond .lt 14, 3) := by decide +kernel
theorem dX7_entryAt_4 : decode cX7_entryAt 4 = .ok (.iload_n 1, 1) := by decide +kernel
theorem dX7_entryAt_5 : decode cX7_entryAt 5 = .ok (.aload_n 0, 1) := by decide +kernel
theorem dX7_entryAt_6 : decode cX7_entryAt 6 = .ok (.getfield 22, 3) := by decide +kernel
theorem dX7_entryAt_9 : decode cX7_entryAt 9 = .ok (.invokevirtual 52, 3) := by decide +kernel
theorem dX7_entryAt_12 : decode cX7_entryAt 12 = .ok (.if_icmp .lt 14, 3) := by decide +kernel
theorem dX7_entryAt_15 : decode cX7_entryAt 15 = .ok (.new 255, 3) := by decide +kernel
theorem dX7_entryAt_18 : decode cX7_entryAt 18 = .ok (.dup, 1) := by decide +kernel
theorem dX7_entryAt_19 : decode cX7_entryAt 19 = .ok (.ldc_w 264, 3) := by decide +kernel
theorem dX7_entryAt_22 : decode cX7_entryAt 22 = .ok (.invokespecial 259, 3) := by decide +kernel
theorem dX7_entryAt_25 : decode cX7_entryAt 25 = .ok (.athrow, 1) := by decide +kernel
theorem dX7_entryAt_26 : decode cX7_entryAt 26 = .ok (.aload_n 0, 1) := by decide +kernel
theorem dX7_entryAt_27 : decode cX7_entryAt 27 = .ok (.getfield 22, 3) := by decide +kernel
theorem dX7_entryAt_30 : decode cX7_entryAt 30 = .ok (.iload_n 1, 1) := by decide +kernel
theorem dX7_entryAt_31 : decode cX7_entryAt 31 = .ok (.invokevirtual 87, 3) := by decide +kernel
theorem dX7_entryAt_34 : decode cX7_entryAt 34 = .ok (.checkcast 158, 3) := by decide +kernel
theorem dX7_entryAt_37 : decode cX7_entryAt 37 = .ok (.areturn, 1) := by decide +kernel
theorem dX7_sessionAt_0 : decode cX7_sessionAt 0 = .ok (.iload_n 1, 1) := by decide +kernel
theorem dX7_sessionAt_1 : decode cX7_sessionAt 1 = .ok (.ifCond .lt 14, 3) := by decide +kernel
theorem dX7_sessionAt_4 : decode cX7_sessionAt 4 = .ok (.iload_n 1, 1) := by decide +kernel
theorem dX7_sessionAt_5 : decode cX7_sessionAt 5 = .ok (.aload_n 0, 1) := by decide +kernel
theorem dX7_sessionAt_6 : decode cX7_sessionAt 6 = .ok (.getfield 28, 3) := by decide +kernel
theorem dX7_sessionAt_9 : decode cX7_sessionAt 9 = .ok (.invokevirtual 52, 3) := by decide +kernel
theorem dX7_sessionAt_12 : decode cX7_sessionAt 12 = .ok (.if_icmp .lt 14, 3) := by decide +kernel
theorem dX7_sessionAt_15 : decode cX7_sessionAt 15 = .ok (.new 255, 3) := by decide +kernel
theorem dX7_sessionAt_18 : decode cX7_sessionAt 18 = .ok (.dup, 1) := by decide +kernel
theorem dX7_sessionAt_19 : decode cX7_sessionAt 19 = .ok (.ldc_w 266, 3) := by decide +kernel
theorem dX7_sessionAt_22 : decode cX7_sessionAt 22 = .ok (.invokespecial 259, 3) := by decide +kernel
theorem dX7_sessionAt_25 : decode cX7_sessionAt 25 = .ok (.athrow, 1) := by decide +kernel
theorem dX7_sessionAt_26 : decode cX7_sessionAt 26 = .ok (.aload_n 0, 1) := by decide +kernel
theorem dX7_sessionAt_27 : decode cX7_sessionAt 27 = .ok (.getfield 28, 3) := by decide +kernel
theorem dX7_sessionAt_30 : decode cX7_sessionAt 30 = .ok (.iload_n 1, 1) := by decide +kernel
theorem dX7_sessionAt_31 : decode cX7_sessionAt 31 = .ok (.invokevirtual 87, 3) := by decide +kernel
theorem dX7_sessionAt_34 : decode cX7_sessionAt 34 = .ok (.checkcast 196, 3) := by decide +kernel
theorem dX7_sessionAt_37 : decode cX7_sessionAt 37 = .ok (.areturn, 1) := by decide +kernel
theorem dX7_requireStep_0 : decode cX7_requireStep 0 = .ok (.iload_n 1, 1) := by decide +kernel
theorem dX7_requireStep_1 : decode cX7_requireStep 1 = .ok (.ifCond .lt 14, 3) := by decide +kernel
theorem dX7_requireStep_4 : decode cX7_requireStep 4 = .ok (.iload_n 1, 1) := by decide +kernel
theorem dX7_requireStep_5 : decode cX7_requireStep 5 = .ok (.aload_n 0, 1) := by decide +kernel
theorem dX7_requireStep_6 : decode cX7_requireStep 6 = .ok (.getfield 34, 3) := by decide +kernel
theorem dX7_requireStep_9 : decode cX7_requireStep 9 = .ok (.getfield 242, 3) := by decide +kernel
theorem dX7_requireStep_12 : decode cX7_requireStep 12 = .ok (.if_icmp .lt 14, 3) := by decide +kernel
theorem dX7_requireStep_15 : decode cX7_requireStep 15 = .ok (.new 255, 3) := by decide +kernel
theorem dX7_requireStep_18 : decode cX7_requireStep 18 = .ok (.dup, 1) := by decide +kernel
theorem dX7_requireStep_19 : decode cX7_requireStep 19 = .ok (.ldc_w 268, 3) := by decide +kernel
theorem dX7_requireStep_22 : decode cX7_requireStep 22 = .ok (.invokespecial 259, 3) := by decide +kernel
theorem dX7_requireStep_25 : decode cX7_requireStep 25 = .ok (.athrow, 1) := by decide +kernel
theorem dX7_requireStep_26 : decode cX7_requireStep 26 = .ok (.return_, 1) := by decide +kernel
theorem dX7_requireLabel_0 : decode cX7_requireLabel 0 = .ok (.iload_n 0, 1) := by decide +kernel
theorem dX7_requireLabel_1 : decode cX7_requireLabel 1 = .ok (.ifCond .lt 8, 3) := by decide +kernel
theorem dX7_requireLabel_4 : decode cX7_requireLabel 4 = .ok (.iload_n 0, 1) := by decide +kernel
theorem dX7_requireLabel_5 : decode cX7_requireLabel 5 = .ok (.iconst 4, 1) := by decide +kernel
theorem dX7_requireLabel_6 : decode cX7_requireLabel 6 = .ok (.if_icmp .lt 14, 3) := by decide +kernel
theorem dX7_requireLabel_9 : decode cX7_requireLabel 9 = .ok (.new 45, 3) := by decide +kernel
theorem dX7_requireLabel_12 : decode cX7_requireLabel 12 = .ok (.dup, 1) := by decide +kernel
theorem dX7_requireLabel_13 : decode cX7_requireLabel 13 = .ok (.ldc_w 270, 3) := by decide +kernel
theorem dX7_requireLabel_16 : decode cX7_requireLabel 16 = .ok (.invokespecial 49, 3) := by decide +kernel
theorem dX7_requireLabel_19 : decode cX7_requireLabel 19 = .ok (.athrow, 1) := by decide +kernel
theorem dX7_requireLabel_20 : decode cX7_requireLabel 20 = .ok (.return_, 1) := by decide +kernel
theorem dX7_requireRoomFor_0 : decode cX7_requireRoomFor 0 = .ok (.iload_n 0, 1) := by decide +kernel
theorem dX7_requireRoomFor_1 : decode cX7_requireRoomFor 1 = .ok (.sipush 512, 3) := by decide +kernel
theorem dX7_requireRoomFor_4 : decode cX7_requireRoomFor 4 = .ok (.if_icmp .lt 14, 3) := by decide +kernel
theorem dX7_requireRoomFor_7 : decode cX7_requireRoomFor 7 = .ok (.new 56, 3) := by decide +kernel
theorem dX7_requireRoomFor_10 : decode cX7_requireRoomFor 10 = .ok (.dup, 1) := by decide +kernel
theorem dX7_requireRoomFor_11 : decode cX7_requireRoomFor 11 = .ok (.ldc_w 272, 3) := by decide +kernel
theorem dX7_requireRoomFor_14 : decode cX7_requireRoomFor 14 = .ok (.invokespecial 60, 3) := by decide +kernel
theorem dX7_requireRoomFor_17 : decode cX7_requireRoomFor 17 = .ok (.athrow, 1) := by decide +kernel
theorem dX7_requireRoomFor_18 : decode cX7_requireRoomFor 18 = .ok (.return_, 1) := by decide +kernel
theorem dX7_requireOpen_0 : decode cX7_requireOpen 0 = .ok (.aload_n 0, 1) := by decide +kernel
theorem dX7_requireOpen_1 : decode cX7_requireOpen 1 = .ok (.getfield 237, 3) := by decide +kernel
theorem dX7_requireOpen_4 : decode cX7_requireOpen 4 = .ok (.ifCond .eq 14, 3) := by decide +kernel
theorem dX7_requireOpen_7 : decode cX7_requireOpen 7 = .ok (.new 56, 3) := by decide +kernel
theorem dX7_requireOpen_10 : decode cX7_requireOpen 10 = .ok (.dup, 1) := by decide +kernel
theorem dX7_requireOpen_11 : decode cX7_requireOpen 11 = .ok (.ldc_w 274, 3) := by decide +kernel
theorem dX7_requireOpen_14 : decode cX7_requireOpen 14 = .ok (.invokespecial 60, 3) := by decide +kernel
theorem dX7_requireOpen_17 : decode cX7_requireOpen 17 = .ok (.athrow, 1) := by decide +kernel
theorem dX7_requireOpen_18 : decode cX7_requireOpen 18 = .ok (.return_, 1) := by decide +kernel
theorem dX7_requireMayAskOrEnter_0 : decode cX7_requireMayAskOrEnter 0 = .ok (.aload_n 1, 1) := by decide +kernel
theorem dX7_requireMayAskOrEnter_1 : decode cX7_requireMayAskOrEnter 1 = .ok (.aload_n 2, 1) := by decide +kernel
theorem dX7_requireMayAskOrEnter_2 : decode cX7_requireMayAskOrEnter 2 = .ok (.getfield 91, 3) := by decide +kernel
theorem dX7_requireMayAskOrEnter_5 : decode cX7_requireMayAskOrEnter 5 = .ok (.invokevirtual 276, 3) := by decide +kernel
theorem dX7_requireMayAskOrEnter_8 : decode cX7_requireMayAskOrEnter 8 = .ok (.ifCond .ne 14, 3) := by decide +kernel
theorem dX7_requireMayAskOrEnter_11 : decode cX7_requireMayAskOrEnter 11 = .ok (.new 56, 3) := by decide +kernel
theorem dX7_requireMayAskOrEnter_14 : decode cX7_requireMayAskOrEnter 14 = .ok (.dup, 1) := by decide +kernel
theorem dX7_requireMayAskOrEnter_15 : decode cX7_requireMayAskOrEnter 15 = .ok (.ldc_w 280, 3) := by decide +kernel
theorem dX7_requireMayAskOrEnter_18 : decode cX7_requireMayAskOrEnter 18 = .ok (.invokespecial 60, 3) := by decide +kernel
theorem dX7_requireMayAskOrEnter_21 : decode cX7_requireMayAskOrEnter 21 = .ok (.athrow, 1) := by decide +kernel
theorem dX7_requireMayAskOrEnter_22 : decode cX7_requireMayAskOrEnter 22 = .ok (.aload_n 0, 1) := by decide +kernel
theorem dX7_requireMayAskOrEnter_23 : decode cX7_requireMayAskOrEnter 23 = .ok (.aload_n 1, 1) := by decide +kernel
theorem dX7_requireMayAskOrEnter_24 : decode cX7_requireMayAskOrEnter 24 = .ok (.invokevirtual 183, 3) := by decide +kernel
theorem dX7_requireMayAskOrEnter_27 : decode cX7_requireMayAskOrEnter 27 = .ok (.ifCond .le 14, 3) := by decide +kernel
theorem dX7_requireMayAskOrEnter_30 : decode cX7_requireMayAskOrEnter 30 = .ok (.new 56, 3) := by decide +kernel
theorem dX7_requireMayAskOrEnter_33 : decode cX7_requireMayAskOrEnter 33 = .ok (.dup, 1) := by decide +kernel
theorem dX7_requireMayAskOrEnter_34 : decode cX7_requireMayAskOrEnter 34 = .ok (.ldc_w 282, 3) := by decide +kernel
theorem dX7_requireMayAskOrEnter_37 : decode cX7_requireMayAskOrEnter 37 = .ok (.invokespecial 60, 3) := by decide +kernel
theorem dX7_requireMayAskOrEnter_40 : decode cX7_requireMayAskOrEnter 40 = .ok (.athrow, 1) := by decide +kernel
theorem dX7_requireMayAskOrEnter_41 : decode cX7_requireMayAskOrEnter 41 = .ok (.return_, 1) := by decide +kernel
theorem dX7_requireMayJudge_0 : decode cX7_requireMayJudge 0 = .ok (.aload_n 1, 1) := by decide +kernel
theorem dX7_requireMayJudge_1 : decode cX7_requireMayJudge 1 = .ok (.aload_n 0, 1) := by decide +kernel
theorem dX7_requireMayJudge_2 : decode cX7_requireMayJudge 2 = .ok (.getfield 42, 3) := by decide +kernel
theorem dX7_requireMayJudge_5 : decode cX7_requireMayJudge 5 = .ok (.invokevirtual 154, 3) := by decide +kernel
theorem dX7_requireMayJudge_8 : decode cX7_requireMayJudge 8 = .ok (.ifCond .eq 14, 3) := by decide +kernel
theorem dX7_requireMayJudge_11 : decode cX7_requireMayJudge 11 = .ok (.new 56, 3) := by decide +kernel
theorem dX7_requireMayJudge_14 : decode cX7_requireMayJudge 14 = .ok (.dup, 1) := by decide +kernel
theorem dX7_requireMayJudge_15 : decode cX7_requireMayJudge 15 = .ok (.ldc_w 284, 3) := by decide +kernel
theorem dX7_requireMayJudge_18 : decode cX7_requireMayJudge 18 = .ok (.invokespecial 60, 3) := by decide +kernel
theorem dX7_requireMayJudge_21 : decode cX7_requireMayJudge 21 = .ok (.athrow, 1) := by decide +kernel
theorem dX7_requireMayJudge_22 : decode cX7_requireMayJudge 22 = .ok (.aload_n 2, 1) := by decide +kernel
theorem dX7_requireMayJudge_23 : decode cX7_requireMayJudge 23 = .ok (.aload_n 1, 1) := by decide +kernel
theorem dX7_requireMayJudge_24 : decode cX7_requireMayJudge 24 = .ok (.getfield 147, 3) := by decide +kernel
theorem dX7_requireMayJudge_27 : decode cX7_requireMayJudge 27 = .ok (.aload_n 1, 1) := by decide +kernel
theorem dX7_requireMayJudge_28 : decode cX7_requireMayJudge 28 = .ok (.getfield 138, 3) := by decide +kernel
theorem dX7_requireMayJudge_31 : decode cX7_requireMayJudge 31 = .ok (.invokevirtual 228, 3) := by decide +kernel
theorem dX7_requireMayJudge_34 : decode cX7_requireMayJudge 34 = .ok (.ifCond .ne 14, 3) := by decide +kernel
theorem dX7_requireMayJudge_37 : decode cX7_requireMayJudge 37 = .ok (.new 56, 3) := by decide +kernel
theorem dX7_requireMayJudge_40 : decode cX7_requireMayJudge 40 = .ok (.dup, 1) := by decide +kernel
theorem dX7_requireMayJudge_41 : decode cX7_requireMayJudge 41 = .ok (.ldc_w 286, 3) := by decide +kernel
theorem dX7_requireMayJudge_44 : decode cX7_requireMayJudge 44 = .ok (.invokespecial 60, 3) := by decide +kernel
theorem dX7_requireMayJudge_47 : decode cX7_requireMayJudge 47 = .ok (.athrow, 1) := by decide +kernel
theorem dX7_requireMayJudge_48 : decode cX7_requireMayJudge 48 = .ok (.return_, 1) := by decide +kernel
theorem dX7_countOverdue_0 : decode cX7_countOverdue 0 = .ok (.iconst 0, 1) := by decide +kernel
theorem dX7_countOverdue_1 : decode cX7_countOverdue 1 = .ok (.istore_n 2, 1) := by decide +kernel
theorem dX7_countOverdue_2 : decode cX7_countOverdue 2 = .ok (.iconst 0, 1) := by decide +kernel
theorem dX7_countOverdue_3 : decode cX7_countOverdue 3 = .ok (.istore_n 3, 1) := by decide +kernel
theorem dX7_countOverdue_4 : decode cX7_countOverdue 4 = .ok (.iload_n 3, 1) := by decide +kernel
theorem dX7_countOverdue_5 : decode cX7_countOverdue 5 = .ok (.aload_n 0, 1) := by decide +kernel
theorem dX7_countOverdue_6 : decode cX7_countOverdue 6 = .ok (.getfield 22, 3) := by decide +kernel
theorem dX7_countOverdue_9 : decode cX7_countOverdue 9 = .ok (.invokevirtual 52, 3) := by decide +kernel
theorem dX7_countOverdue_12 : decode cX7_countOverdue 12 = .ok (.if_icmp .ge 46, 3) := by decide +kernel
theorem dX7_countOverdue_15 : decode cX7_countOverdue 15 = .ok (.aload_n 0, 1) := by decide +kernel
theorem dX7_countOverdue_16 : decode cX7_countOverdue 16 = .ok (.getfield 22, 3) := by decide +kernel
theorem dX7_countOverdue_19 : decode cX7_countOverdue 19 = .ok (.iload_n 3, 1) := by decide +kernel
theorem dX7_countOverdue_20 : decode cX7_countOverdue 20 = .ok (.invokevirtual 87, 3) := by decide +kernel
theorem dX7_countOverdue_23 : decode cX7_countOverdue 23 = .ok (.checkcast 158, 3) := by decide +kernel
theorem dX7_countOverdue_26 : decode cX7_countOverdue 26 = .ok (.astore 4, 2) := by decide +kernel
theorem dX7_countOverdue_28 : decode cX7_countOverdue 28 = .ok (.aload 4, 2) := by decide +kernel
theorem dX7_countOverdue_30 : decode cX7_countOverdue 30 = .ok (.getfield 176, 3) := by decide +kernel
theorem dX7_countOverdue_33 : decode cX7_countOverdue 33 = .ok (.aload_n 1, 1) := by decide +kernel
theorem dX7_countOverdue_34 : decode cX7_countOverdue 34 = .ok (.if_acmp .ne 18, 3) := by decide +kernel
theorem dX7_countOverdue_37 : decode cX7_countOverdue 37 = .ok (.aload 4, 2) := by decide +kernel
theorem dX7_countOverdue_39 : decode cX7_countOverdue 39 = .ok (.aload_n 0, 1) := by decide +kernel
theorem dX7_countOverdue_40 : decode cX7_countOverdue 40 = .ok (.getfield 42, 3) := by decide +kernel
theorem dX7_countOverdue_43 : decode cX7_countOverdue 43 = .ok (.invokevirtual 288, 3) := by decide +kernel
theorem dX7_countOverdue_46 : decode cX7_countOverdue 46 = .ok (.ifCond .eq 6, 3) := by decide +kernel
theorem dX7_countOverdue_49 : decode cX7_countOverdue 49 = .ok (.iinc 2 1, 3) := by decide +kernel
theorem dX7_countOverdue_52 : decode cX7_countOverdue 52 = .ok (.iinc 3 1, 3) := by decide +kernel
theorem dX7_countOverdue_55 : decode cX7_countOverdue 55 = .ok (.goto (-51), 3) := by decide +kernel
theorem dX7_countOverdue_58 : decode cX7_countOverdue 58 = .ok (.iload_n 2, 1) := by decide +kernel
theorem dX7_countOverdue_59 : decode cX7_countOverdue 59 = .ok (.ireturn, 1) := by decide +kernel
theorem dX7_rightHolds_0 : decode cX7_rightHolds 0 = .ok (.iconst 0, 1) := by decide +kernel
theorem dX7_rightHolds_1 : decode cX7_rightHolds 1 = .ok (.istore 4, 2) := by decide +kernel
theorem dX7_rightHolds_3 : decode cX7_rightHolds 3 = .ok (.iload 4, 2) := by decide +kernel
theorem dX7_rightHolds_5 : decode cX7_rightHolds 5 = .ok (.aload_n 0, 1) := by decide +kernel
theorem dX7_rightHolds_6 : decode cX7_rightHolds 6 = .ok (.getfield 25, 3) := by decide +kernel
theorem dX7_rightHolds_9 : decode cX7_rightHolds 9 = .ok (.invokevirtual 52, 3) := by decide +kernel
theorem dX7_rightHolds_12 : decode cX7_rightHolds 12 = .ok (.if_icmp .ge 52, 3) := by decide +kernel
theorem dX7_rightHolds_15 : decode cX7_rightHolds 15 = .ok (.aload_n 0, 1) := by decide +kernel
theorem dX7_rightHolds_16 : decode cX7_rightHolds 16 = .ok (.getfield 25, 3) := by decide +kernel
theorem dX7_rightHolds_19 : decode cX7_rightHolds 19 = .ok (.iload 4, 2) := by decide +kernel
theorem dX7_rightHolds_21 : decode cX7_rightHolds 21 = .ok (.invokevirtual 87, 3) := by decide +kernel
theorem dX7_rightHolds_24 : decode cX7_rightHolds 24 = .ok (.checkcast 145, 3) := by decide +kernel
theorem dX7_rightHolds_27 : decode cX7_rightHolds 27 = .ok (.astore 5, 2) := by decide +kernel
theorem dX7_rightHolds_29 : decode cX7_rightHolds 29 = .ok (.aload 5, 2) := by decide +kernel
theorem dX7_rightHolds_31 : decode cX7_rightHolds 31 = .ok (.getfield 291, 3) := by decide +kernel
theorem dX7_rightHolds_34 : decode cX7_rightHolds 34 = .ok (.aload_n 1, 1) := by decide +kernel
theorem dX7_rightHolds_35 : decode cX7_rightHolds 35 = .ok (.if_acmp .ne 23, 3) := by decide +kernel
theorem dX7_rightHolds_38 : decode cX7_rightHolds 38 = .ok (.aload 5, 2) := by decide +kernel
theorem dX7_rightHolds_40 : decode cX7_rightHolds 40 = .ok (.getfield 292, 3) := by decide +kernel
theorem dX7_rightHolds_43 : decode cX7_rightHolds 43 = .ok (.aload_n 2, 1) := by decide +kernel
theorem dX7_rightHolds_44 : decode cX7_rightHolds 44 = .ok (.if_acmp .ne 14, 3) := by decide +kernel
theorem dX7_rightHolds_47 : decode cX7_rightHolds 47 = .ok (.aload 5, 2) := by decide +kernel
theorem dX7_rightHolds_49 : decode cX7_rightHolds 49 = .ok (.iload_n 3, 1) := by decide +kernel
theorem dX7_rightHolds_50 : decode cX7_rightHolds 50 = .ok (.invokevirtual 293, 3) := by decide +kernel
theorem dX7_rightHolds_53 : decode cX7_rightHolds 53 = .ok (.ifCond .eq 5, 3) := by decide +kernel
theorem dX7_rightHolds_56 : decode cX7_rightHolds 56 = .ok (.iconst 1, 1) := by decide +kernel
theorem dX7_rightHolds_57 : decode cX7_rightHolds 57 = .ok (.ireturn, 1) := by decide +kernel
theorem dX7_rightHolds_58 : decode cX7_rightHolds 58 = .ok (.iinc 4 1, 3) := by decide +kernel
theorem dX7_rightHolds_61 : decode cX7_rightHolds 61 = .ok (.goto (-58), 3) := by decide +kernel
theorem dX7_rightHolds_64 : decode cX7_rightHolds 64 = .ok (.iconst 0, 1) := by decide +kernel
theorem dX7_rightHolds_65 : decode cX7_rightHolds 65 = .ok (.ireturn, 1) := by decide +kernel
theorem dX7_endRights_0 : decode cX7_endRights 0 = .ok (.iconst 0, 1) := by decide +kernel
theorem dX7_endRights_1 : decode cX7_endRights 1 = .ok (.istore_n 3, 1) := by decide +kernel
theorem dX7_endRights_2 : decode cX7_endRights 2 = .ok (.iload_n 3, 1) := by decide +kernel
theorem dX7_endRights_3 : decode cX7_endRights 3 = .ok (.aload_n 0, 1) := by decide +kernel
theorem dX7_endRights_4 : decode cX7_endRights 4 = .ok (.getfield 25, 3) := by decide +kernel
theorem dX7_endRights_7 : decode cX7_endRights 7 = .ok (.invokevirtual 52, 3) := by decide +kernel
theorem dX7_endRights_10 : decode cX7_endRights 10 = .ok (.if_icmp .ge 61, 3) := by decide +kernel
theorem dX7_endRights_13 : decode cX7_endRights 13 = .ok (.aload_n 0, 1) := by decide +kernel
theorem dX7_endRights_14 : decode cX7_endRights 14 = .ok (.getfield 25, 3) := by decide +kernel
theorem dX7_endRights_17 : decode cX7_endRights 17 = .ok (.iload_n 3, 1) := by decide +kernel
theorem dX7_endRights_18 : decode cX7_endRights 18 = .ok (.invokevirtual 87, 3) := by decide +kernel
theorem dX7_endRights_21 : decode cX7_endRights 21 = .ok (.checkcast 145, 3) := by decide +kernel
theorem dX7_endRights_24 : decode cX7_endRights 24 = .ok (.astore 4, 2) := by decide +kernel
theorem dX7_endRights_26 : decode cX7_endRights 26 = .ok (.aload 4, 2) := by decide +kernel
theorem dX7_endRights_28 : decode cX7_endRights 28 = .ok (.getfield 291, 3) := by decide +kernel
theorem dX7_endRights_31 : decode cX7_endRights 31 = .ok (.aload_n 1, 1) := by decide +kernel
theorem dX7_endRights_32 : decode cX7_endRights 32 = .ok (.if_acmp .ne 33, 3) := by decide +kernel
theorem dX7_endRights_35 : decode cX7_endRights 35 = .ok (.aload 4, 2) := by decide +kernel
theorem dX7_endRights_37 : decode cX7_endRights 37 = .ok (.getfield 292, 3) := by decide +kernel
theorem dX7_endRights_40 : decode cX7_endRights 40 = .ok (.aload_n 2, 1) := by decide +kernel
theorem dX7_endRights_41 : decode cX7_endRights 41 = .ok (.if_acmp .ne 24, 3) := by decide +kernel
theorem dX7_endRights_44 : decode cX7_endRights 44 = .ok (.aload 4, 2) := by decide +kernel
theorem dX7_endRights_46 : decode cX7_endRights 46 = .ok (.aload_n 0, 1) := by decide +kernel
theorem dX7_endRights_47 : decode cX7_endRights 47 = .ok (.getfield 42, 3) := by decide +kernel
theorem dX7_endRights_50 : decode cX7_endRights 50 = .ok (.invokevirtual 293, 3) := by decide +kernel
theorem dX7_endRights_53 : decode cX7_endRights 53 = .ok (.ifCond .eq 12, 3) := by decide +kernel
theorem dX7_endRights_56 : decode cX7_endRights 56 = .ok (.aload 4, 2) := by decide +kernel
theorem dX7_endRights_58 : decode cX7_endRights 58 = .ok (.aload_n 0, 1) := by decide +kernel
theorem dX7_endRights_59 : decode cX7_endRights 59 = .ok (.getfield 42, 3) := by decide +kernel
theorem dX7_endRights_62 : decode cX7_endRights 62 = .ok (.putfield 296, 3) := by decide +kernel
theorem dX7_endRights_65 : decode cX7_endRights 65 = .ok (.iinc 3 1, 3) := by decide +kernel
theorem dX7_endRights_68 : decode cX7_endRights 68 = .ok (.goto (-66), 3) := by decide +kernel
theorem dX7_endRights_71 : decode cX7_endRights 71 = .ok (.return_, 1) := by decide +kernel
theorem dX7_denyWaitingAsks_0 : decode cX7_denyWaitingAsks 0 = .ok (.iconst 0, 1) := by decide +kernel
theorem dX7_denyWaitingAsks_1 : decode cX7_denyWaitingAsks 1 = .ok (.istore_n 3, 1) := by decide +kernel
theorem dX7_denyWaitingAsks_2 : decode cX7_denyWaitingAsks 2 = .ok (.iload_n 3, 1) := by decide +kernel
theorem dX7_denyWaitingAsks_3 : decode cX7_denyWaitingAsks 3 = .ok (.aload_n 0, 1) := by decide +kernel
theorem dX7_denyWaitingAsks_4 : decode cX7_denyWaitingAsks 4 = .ok (.getfield 19, 3) := by decide +kernel
theorem dX7_denyWaitingAsks_7 : decode cX7_denyWaitingAsks 7 = .ok (.invokevirtual 52, 3) := by decide +kernel
theorem dX7_denyWaitingAsks_10 : decode cX7_denyWaitingAsks 10 = .ok (.if_icmp .ge 58, 3) := by decide +kernel
theorem dX7_denyWaitingAsks_13 : decode cX7_denyWaitingAsks 13 = .ok (.aload_n 0, 1) := by decide +kernel
theorem dX7_denyWaitingAsks_14 : decode cX7_denyWaitingAsks 14 = .ok (.getfield 19, 3) := by decide +kernel
theorem dX7_denyWaitingAsks_17 : decode cX7_denyWaitingAsks 17 = .ok (.iload_n 3, 1) := by decide +kernel
theorem dX7_denyWaitingAsks_18 : decode cX7_denyWaitingAsks 18 = .ok (.invokevirtual 87, 3) := by decide +kernel
theorem dX7_denyWaitingAsks_21 : decode cX7_denyWaitingAsks 21 = .ok (.checkcast 116, 3) := by decide +kernel
theorem dX7_denyWaitingAsks_24 : decode cX7_denyWaitingAsks 24 = .ok (.astore 4, 2) := by decide +kernel
theorem dX7_denyWaitingAsks_26 : decode cX7_denyWaitingAsks 26 = .ok (.aload 4, 2) := by decide +kernel
theorem dX7_denyWaitingAsks_28 : decode cX7_denyWaitingAsks 28 = .ok (.getfield 147, 3) := by decide +kernel
theorem dX7_denyWaitingAsks_31 : decode cX7_denyWaitingAsks 31 = .ok (.aload_n 1, 1) := by decide +kernel
theorem dX7_denyWaitingAsks_32 : decode cX7_denyWaitingAsks 32 = .ok (.if_acmp .ne 30, 3) := by decide +kernel
theorem dX7_denyWaitingAsks_35 : decode cX7_denyWaitingAsks 35 = .ok (.aload 4, 2) := by decide +kernel
theorem dX7_denyWaitingAsks_37 : decode cX7_denyWaitingAsks 37 = .ok (.getfield 138, 3) := by decide +kernel
theorem dX7_denyWaitingAsks_40 : decode cX7_denyWaitingAsks 40 = .ok (.aload_n 2, 1) := by decide +kernel
theorem dX7_denyWaitingAsks_41 : decode cX7_denyWaitingAsks 41 = .ok (.if_acmp .ne 21, 3) := by decide +kernel
theorem dX7_denyWaitingAsks_44 : decode cX7_denyWaitingAsks 44 = .ok (.aload 4, 2) := by decide +kernel
theorem dX7_denyWaitingAsks_46 : decode cX7_denyWaitingAsks 46 = .ok (.aload_n 0, 1) := by decide +kernel
theorem dX7_denyWaitingAsks_47 : decode cX7_denyWaitingAsks 47 = .ok (.getfield 42, 3) := by decide +kernel
theorem dX7_denyWaitingAsks_50 : decode cX7_denyWaitingAsks 50 = .ok (.invokevirtual 154, 3) := by decide +kernel
theorem dX7_denyWaitingAsks_53 : decode cX7_denyWaitingAsks 53 = .ok (.ifCond .ne 9, 3) := by decide +kernel
theorem dX7_denyWaitingAsks_56 : decode cX7_denyWaitingAsks 56 = .ok (.aload 4, 2) := by decide +kernel
theorem dX7_denyWaitingAsks_58 : decode cX7_denyWaitingAsks 58 = .ok (.iconst 2, 1) := by decide +kernel
theorem dX7_denyWaitingAsks_59 : decode cX7_denyWaitingAsks 59 = .ok (.putfield 142, 3) := by decide +kernel
theorem dX7_denyWaitingAsks_62 : decode cX7_denyWaitingAsks 62 = .ok (.iinc 3 1, 3) := by decide +kernel
theorem dX7_denyWaitingAsks_65 : decode cX7_denyWaitingAsks 65 = .ok (.goto (-63), 3) := by decide +kernel
theorem dX7_denyWaitingAsks_68 : decode cX7_denyWaitingAsks 68 = .ok (.return_, 1) := by decide +kernel
theorem dX7_closeEndedSessions_0 : decode cX7_closeEndedSessions 0 = .ok (.iconst 0, 1) := by decide +kernel
theorem dX7_closeEndedSessions_1 : decode cX7_closeEndedSessions 1 = .ok (.istore_n 1, 1) := by decide +kernel
theorem dX7_closeEndedSessions_2 : decode cX7_closeEndedSessions 2 = .ok (.iconst 0, 1) := by decide +kernel
theorem dX7_closeEndedSessions_3 : decode cX7_closeEndedSessions 3 = .ok (.istore_n 2, 1) := by decide +kernel
theorem dX7_closeEndedSessions_4 : decode cX7_closeEndedSessions 4 = .ok (.iload_n 2, 1) := by decide +kernel
theorem dX7_closeEndedSessions_5 : decode cX7_closeEndedSessions 5 = .ok (.aload_n 0, 1) := by decide +kernel
theorem dX7_closeEndedSessions_6 : decode cX7_closeEndedSessions 6 = .ok (.getfield 28, 3) := by decide +kernel
theorem dX7_closeEndedSessions_9 : decode cX7_closeEndedSessions 9 = .ok (.invokevirtual 52, 3) := by decide +kernel
theorem dX7_closeEndedSessions_12 : decode cX7_closeEndedSessions 12 = .ok (.if_icmp .ge 66, 3) := by decide +kernel
theorem dX7_closeEndedSessions_15 : decode cX7_closeEndedSessions 15 = .ok (.aload_n 0, 1) := by decide +kernel
theorem dX7_closeEndedSessions_16 : decode cX7_closeEndedSessions 16 = .ok (.getfield 28, 3) := by decide +kernel
theorem dX7_closeEndedSessions_19 : decode cX7_closeEndedSessions 19 = .ok (.iload_n 2, 1) := by decide +kernel
theorem dX7_closeEndedSessions_20 : decode cX7_closeEndedSessions 20 = .ok (.invokevirtual 87, 3) := by decide +kernel
theorem dX7_closeEndedSessions_23 : decode cX7_closeEndedSessions 23 = .ok (.checkcast 196, 3) := by decide +kernel
theorem dX7_closeEndedSessions_26 : decode cX7_closeEndedSessions 26 = .ok (.astore_n 3, 1) := by decide +kernel
theorem dX7_closeEndedSessions_27 : decode cX7_closeEndedSessions 27 = .ok (.aload_n 3, 1) := by decide +kernel
theorem dX7_closeEndedSessions_28 : decode cX7_closeEndedSessions 28 = .ok (.getfield 237, 3) := by decide +kernel
theorem dX7_closeEndedSessions_31 : decode cX7_closeEndedSessions 31 = .ok (.ifCond .ne 41, 3) := by decide +kernel
theorem dX7_closeEndedSessions_34 : decode cX7_closeEndedSessions 34 = .ok (.aload_n 3, 1) := by decide +kernel
theorem dX7_closeEndedSessions_35 : decode cX7_closeEndedSessions 35 = .ok (.aload_n 0, 1) := by decide +kernel
theorem dX7_closeEndedSessions_36 : decode cX7_closeEndedSessions 36 = .ok (.getfield 42, 3) := by decide +kernel
theorem dX7_closeEndedSessions_39 : decode cX7_closeEndedSessions 39 = .ok (.invokevirtual 299, 3) := by decide +kernel
theorem dX7_closeEndedSessions_42 : decode cX7_closeEndedSessions 42 = .ok (.ifCond .ne 22, 3) := by decide +kernel
theorem dX7_closeEndedSessions_45 : decode cX7_closeEndedSessions 45 = .ok (.aload_n 0, 1) := by decide +kernel
theorem dX7_closeEndedSessions_46 : decode cX7_closeEndedSessions 46 = .ok (.aload_n 3, 1) := by decide +kernel
theorem dX7_closeEndedSessions_47 : decode cX7_closeEndedSessions 47 = .ok (.getfield 215, 3) := by decide +kernel
theorem dX7_closeEndedSessions_50 : decode cX7_closeEndedSessions 50 = .ok (.aload_n 3, 1) := by decide +kernel
theorem dX7_closeEndedSessions_51 : decode cX7_closeEndedSessions 51 = .ok (.getfield 216, 3) := by decide +kernel
theorem dX7_closeEndedSessions_54 : decode cX7_closeEndedSessions 54 = .ok (.aload_n 0, 1) := by decide +kernel
theorem dX7_closeEndedSessions_55 : decode cX7_closeEndedSessions 55 = .ok (.getfield 42, 3) := by decide +kernel
theorem dX7_closeEndedSessions_58 : decode cX7_closeEndedSessions 58 = .ok (.invokevirtual 190, 3) := by decide +kernel
theorem dX7_closeEndedSessions_61 : decode cX7_closeEndedSessions 61 = .ok (.ifCond .ne 11, 3) := by decide +kernel
theorem dX7_closeEndedSessions_64 : decode cX7_closeEndedSessions 64 = .ok (.aload_n 0, 1) := by decide +kernel
theorem dX7_closeEndedSessions_65 : decode cX7_closeEndedSessions 65 = .ok (.aload_n 3, 1) := by decide +kernel
theorem dX7_closeEndedSessions_66 : decode cX7_closeEndedSessions 66 = .ok (.invokevirtual 234, 3) := by decide +kernel
theorem dX7_closeEndedSessions_69 : decode cX7_closeEndedSessions 69 = .ok (.iinc 1 1, 3) := by decide +kernel
theorem dX7_closeEndedSessions_72 : decode cX7_closeEndedSessions 72 = .ok (.iinc 2 1, 3) := by decide +kernel
theorem dX7_closeEndedSessions_75 : decode cX7_closeEndedSessions 75 = .ok (.goto (-71), 3) := by decide +kernel
theorem dX7_closeEndedSessions_78 : decode cX7_closeEndedSessions 78 = .ok (.iload_n 1, 1) := by decide +kernel
theorem dX7_closeEndedSessions_79 : decode cX7_closeEndedSessions 79 = .ok (.ireturn, 1) := by decide +kernel
theorem dX7_endSession_0 : decode cX7_endSession 0 = .ok (.aload_n 1, 1) := by decide +kernel
theorem dX7_endSession_1 : decode cX7_endSession 1 = .ok (.iconst 1, 1) := by decide +kernel
theorem dX7_endSession_2 : decode cX7_endSession 2 = .ok (.putfield 237, 3) := by decide +kernel
theorem dX7_endSession_5 : decode cX7_endSession 5 = .ok (.aload_n 0, 1) := by decide +kernel
theorem dX7_endSession_6 : decode cX7_endSession 6 = .ok (.dup, 1) := by decide +kernel
theorem dX7_endSession_7 : decode cX7_endSession 7 = .ok (.getfield 38, 3) := by decide +kernel
theorem dX7_endSession_10 : decode cX7_endSession 10 = .ok (.iconst 1, 1) := by decide +kernel
theorem dX7_endSession_11 : decode cX7_endSession 11 = .ok (.isub, 1) := by decide +kernel
theorem dX7_endSession_12 : decode cX7_endSession 12 = .ok (.putfield 38, 3) := by decide +kernel
theorem dX7_endSession_15 : decode cX7_endSession 15 = .ok (.aload_n 0, 1) := by decide +kernel
theorem dX7_endSession_16 : decode cX7_endSession 16 = .ok (.getfield 34, 3) := by decide +kernel
theorem dX7_endSession_19 : decode cX7_endSession 19 = .ok (.bipush 6, 2) := by decide +kernel
theorem dX7_endSession_21 : decode cX7_endSession 21 = .ok (.aload_n 1, 1) := by decide +kernel
theorem dX7_endSession_22 : decode cX7_endSession 22 = .ok (.getfield 215, 3) := by decide +kernel
theorem dX7_endSession_25 : decode cX7_endSession 25 = .ok (.aload_n 1, 1) := by decide +kernel
theorem dX7_endSession_26 : decode cX7_endSession 26 = .ok (.getfield 216, 3) := by decide +kernel
theorem dX7_endSession_29 : decode cX7_endSession 29 = .ok (.aload_n 0, 1) := by decide +kernel
theorem dX7_endSession_30 : decode cX7_endSession 30 = .ok (.getfield 42, 3) := by decide +kernel
theorem dX7_endSession_33 : decode cX7_endSession 33 = .ok (.invokevirtual 121, 3) := by decide +kernel
theorem dX7_endSession_36 : decode cX7_endSession 36 = .ok (.return_, 1) := by decide +kernel
end
section
theorem dX8_init_0 : decode cX8_init 0 = .ok (.aload_n 0, 1) := by decide +kernel
theorem dX8_init_1 : decode cX8_init 1 = .ok (.invokespecial 1, 3) := by decide +kernel
theorem dX8_init_4 : decode cX8_init 4 = .ok (.aload_n 0, 1) := by decide +kernel
theorem dX8_init_5 : decode cX8_init 5 = .ok (.bipush 12, 2) := by decide +kernel
theorem dX8_init_7 : decode cX8_init 7 = .ok (.newarray .int, 2) := by decide +kernel
theorem dX8_init_9 : decode cX8_init 9 = .ok (.putfield 7, 3) := by decide +kernel
theorem dX8_init_12 : decode cX8_init 12 = .ok (.aload_n 0, 1) := by decide +kernel
theorem dX8_init_13 : decode cX8_init 13 = .ok (.bipush 48, 2) := by decide +kernel
theorem dX8_init_15 : decode cX8_init 15 = .ok (.newarray .boolean, 2) := by decide +kernel
theorem dX8_init_17 : decode cX8_init 17 = .ok (.putfield 13, 3) := by decide +kernel
theorem dX8_init_20 : decode cX8_init 20 = .ok (.aload_n 0, 1) := by decide +kernel
theorem dX8_init_21 : decode cX8_init 21 = .ok (.bipush 8, 2) := by decide +kernel
theorem dX8_init_23 : decode cX8_init 23 = .ok (.newarray .int, 2) := by decide +kernel
theorem dX8_init_25 : decode cX8_init 25 = .ok (.putfield 17, 3) := by decide +kernel
theorem dX8_init_28 : decode cX8_init 28 = .ok (.aload_n 0, 1) := by decide +kernel
theorem dX8_init_29 : decode cX8_init 29 = .ok (.sipush 2000, 3) := by decide +kernel
theorem dX8_init_32 : decode cX8_init 32 = .ok (.newarray .int, 2) := by decide +kernel
theorem dX8_init_34 : decode cX8_init 34 = .ok (.putfield 20, 3) := by decide +kernel
theorem dX8_init_37 : decode cX8_init 37 = .ok (.aload_n 0, 1) := by decide +kernel
theorem dX8_init_38 : decode cX8_init 38 = .ok (.sipush 2000, 3) := by decide +kernel
theorem dX8_init_41 : decode cX8_init 41 = .ok (.newarray .int, 2) := by decide +kernel
theorem dX8_init_43 : decode cX8_init 43 = .ok (.putfield 23, 3) := by decide +kernel
theorem dX8_init_46 : decode cX8_init 46 = .ok (.aload_n 0, 1) := by decide +kernel
theorem dX8_init_47 : decode cX8_init 47 = .ok (.sipush 2000, 3) := by decide +kernel
theorem dX8_init_50 : decode cX8_init 50 = .ok (.newarray .int, 2) := by decide +kernel
theorem dX8_init_52 : decode cX8_init 52 = .ok (.putfield 26, 3) := by decide +kernel
theorem dX8_init_55 : decode cX8_init 55 = .ok (.aload_n 0, 1) := by decide +kernel
theorem dX8_init_56 : decode cX8_init 56 = .ok (.sipush 2000, 3) := by decide +kernel
theorem dX8_init_59 : decode cX8_init 59 = .ok (.newarray .int, 2) := by decide +kernel
theorem dX8_init_61 : decode cX8_init 61 = .ok (.putfield 29, 3) := by decide +kernel
theorem dX8_init_64 : decode cX8_init 64 = .ok (.aload_n 0, 1) := by decide +kernel
theorem dX8_init_65 : decode cX8_init 65 = .ok (.sipush 2000, 3) := by decide +kernel
theorem dX8_init_68 : decode cX8_init 68 = .ok (.newarray .int, 2) := by decide +kernel
theorem dX8_init_70 : decode cX8_init 70 = .ok (.putfield 32, 3) := by decide +kernel
theorem dX8_init_73 : decode cX8_init 73 = .ok (.aload_n 0, 1) := by decide +kernel
theorem dX8_init_74 : decode cX8_init 74 = .ok (.sipush 2000, 3) := by decide +kernel
theorem dX8_init_77 : decode cX8_init 77 = .ok (.newarray .int, 2) := by decide +kernel
theorem dX8_init_79 : decode cX8_init 79 = .ok (.putfield 35, 3) := by decide +kernel
theorem dX8_init_82 : decode cX8_init 82 = .ok (.aload_n 0, 1) := by decide +kernel
theorem dX8_init_83 : decode cX8_init 83 = .ok (.sipush 2000, 3) := by decide +kernel
theorem dX8_init_86 : decode cX8_init 86 = .ok (.newarray .int, 2) := by decide +kernel
theorem dX8_init_88 : decode cX8_init 88 = .ok (.putfield 38, 3) := by decide +kernel
theorem dX8_init_91 : decode cX8_init 91 = .ok (.aload_n 0, 1) := by decide +kernel
theorem dX8_init_92 : decode cX8_init 92 = .ok (.sipush 2000, 3) := by decide +kernel
theorem dX8_init_95 : decode cX8_init 95 = .ok (.newarray .int, 2) := by decide +kernel
theorem dX8_init_97 : decode cX8_init 97 = .ok (.putfield 41, 3) := by decide +kernel
theorem dX8_init_100 : decode cX8_init 100 = .ok (.aload_n 0, 1) := by decide +kernel
theorem dX8_init_101 : decode cX8_init 101 = .ok (.sipush 2000, 3) := by decide +kernel
theorem dX8_init_104 : decode cX8_init 104 = .ok (.newarray .int, 2) := by decide +kernel
theorem dX8_init_106 : decode cX8_init 106 = .ok (.putfield 44, 3) := by decide +kernel
theorem dX8_init_109 : decode cX8_init 109 = .ok (.aload_n 0, 1) := by decide +kernel
theorem dX8_init_110 : decode cX8_init 110 = .ok (.sipush 2000, 3) := by decide +kernel
theorem dX8_init_113 : decode cX8_init 113 = .ok (.newarray .int, 2) := by decide +kernel
theorem dX8_init_115 : decode cX8_init 115 = .ok (.putfield 47, 3) := by decide +kernel
theorem dX8_init_118 : decode cX8_init 118 = .ok (.aload_n 0, 1) := by decide +kernel
theorem dX8_init_119 : decode cX8_init 119 = .ok (.sipush 2000, 3) := by decide +kernel
theorem dX8_init_122 : decode cX8_init 122 = .ok (.newarray .int, 2) := by decide +kernel
theorem dX8_init_124 : decode cX8_init 124 = .ok (.putfield 50, 3) := by decide +kernel
theorem dX8_init_127 : decode cX8_init 127 = .ok (.aload_n 0, 1) := by decide +kernel
theorem dX8_init_128 : decode cX8_init 128 = .ok (.sipush 2000, 3) := by decide +kernel
theorem dX8_init_131 : decode cX8_init 131 = .ok (.newarray .int, 2) := by decide +kernel
theorem dX8_init_133 : decode cX8_init 133 = .ok (.putfield 53, 3) := by decide +kernel
theorem dX8_init_136 : decode cX8_init 136 = .ok (.aload_n 0, 1) := by decide +kernel
theorem dX8_init_137 : decode cX8_init 137 = .ok (.sipush 2000, 3) := by decide +kernel
theorem dX8_init_140 : decode cX8_init 140 = .ok (.newarray .int, 2) := by decide +kernel
theorem dX8_init_142 : decode cX8_init 142 = .ok (.putfield 56, 3) := by decide +kernel
theorem dX8_init_145 : decode cX8_init 145 = .ok (.aload_n 0, 1) := by decide +kernel
theorem dX8_init_146 : decode cX8_init 146 = .ok (.sipush 2000, 3) := by decide +kernel
theorem dX8_init_149 : decode cX8_init 149 = .ok (.newarray .boolean, 2) := by decide +kernel
theorem dX8_init_151 : decode cX8_init 151 = .ok (.putfield 59, 3) := by decide +kernel
theorem dX8_init_154 : decode cX8_init 154 = .ok (.aload_n 0, 1) := by decide +kernel
theorem dX8_init_155 : decode cX8_init 155 = .ok (.sipush 2000, 3) := by decide +kernel
theorem dX8_init_158 : decode cX8_init 158 = .ok (.newarray .int, 2) := by decide +kernel
theorem dX8_init_160 : decode cX8_init 160 = .ok (.putfield 62, 3) := by decide +kernel
theorem dX8_init_163 : decode cX8_init 163 = .ok (.aload_n 0, 1) := by decide +kernel
theorem dX8_init_164 : decode cX8_init 164 = .ok (.sipush 2000, 3) := by decide +kernel
theorem dX8_init_167 : decode cX8_init 167 = .ok (.newarray .int, 2) := by decide +kernel
theorem dX8_init_169 : decode cX8_init 169 = .ok (.putfield 65, 3) := by decide +kernel
theorem dX8_init_172 : decode cX8_init 172 = .ok (.aload_n 0, 1) := by decide +kernel
theorem dX8_init_173 : decode cX8_init 173 = .ok (.sipush 2000, 3) := by decide +kernel
theorem dX8_init_176 : decode cX8_init 176 = .ok (.newarray .boolean, 2) := by decide +kernel
theorem dX8_init_178 : decode cX8_init 178 = .ok (.putfield 68, 3) := by decide +kernel
theorem dX8_init_181 : decode cX8_init 181 = .ok (.aload_n 0, 1) := by decide +kernel
theorem dX8_init_182 : decode cX8_init 182 = .ok (.sipush 2000, 3) := by decide +kernel
theorem dX8_init_185 : decode cX8_init 185 = .ok (.newarray .int, 2) := by decide +kernel
theorem dX8_init_187 : decode cX8_init 187 = .ok (.putfield 71, 3) := by decide +kernel
theorem dX8_init_190 : decode cX8_init 190 = .ok (.aload_n 0, 1) := by decide +kernel
theorem dX8_init_191 : decode cX8_init 191 = .ok (.sipush 2000, 3) := by decide +kernel
theorem dX8_init_194 : decode cX8_init 194 = .ok (.newarray .int, 2) := by decide +kernel
theorem dX8_init_196 : decode cX8_init 196 = .ok (.putfield 74, 3) := by decide +kernel
theorem dX8_init_199 : decode cX8_init 199 = .ok (.aload_n 0, 1) := by decide +kernel
theorem dX8_init_200 : decode cX8_init 200 = .ok (.sipush 2000, 3) := by decide +kernel
theorem dX8_init_203 : decode cX8_init 203 = .ok (.newarray .int, 2) := by decide +kernel
theorem dX8_init_205 : decode cX8_init 205 = .ok (.putfield 77, 3) := by decide +kernel
theorem dX8_init_208 : decode cX8_init 208 = .ok (.aload_n 0, 1) := by decide +kernel
theorem dX8_init_209 : decode cX8_init 209 = .ok (.sipush 8000, 3) := by decide +kernel
theorem dX8_init_212 : decode cX8_init 212 = .ok (.newarray .int, 2) := by decide +kernel
theorem dX8_init_214 : decode cX8_init 214 = .ok (.putfield 80, 3) := by decide +kernel
theorem dX8_init_217 : decode cX8_init 217 = .ok (.aload_n 0, 1) := by decide +kernel
theorem dX8_init_218 : decode cX8_init 218 = .ok (.sipush 8000, 3) := by decide +kernel
theorem dX8_init_221 : decode cX8_init 221 = .ok (.newarray .int, 2) := by decide +kernel
theorem dX8_init_223 : decode cX8_init 223 = .ok (.putfield 83, 3) := by decide +kernel
theorem dX8_init_226 : decode cX8_init 226 = .ok (.return_, 1) := by decide +kernel
theorem dX8_thrown_0 : decode cX8_thrown 0 = .ok (.aload_n 0, 1) := by decide +kernel
theorem dX8_thrown_1 : decode cX8_thrown 1 = .ok (.getfield 86, 3) := by decide +kernel
theorem dX8_thrown_4 : decode cX8_thrown 4 = .ok (.ireturn, 1) := by decide +kernel
theorem dX8_in_0 : decode cX8_in 0 = .ok (.iload_n 0, 1) := by decide +kernel
theorem dX8_in_1 : decode cX8_in 1 = .ok (.iload_n 1, 1) := by decide +kernel
theorem dX8_in_2 : decode cX8_in 2 = .ok (.if_icmp .lt 12, 3) := by decide +kernel
theorem dX8_in_5 : decode cX8_in 5 = .ok (.iload_n 0, 1) := by decide +kernel
theorem dX8_in_6 : decode cX8_in 6 = .ok (.iload_n 2, 1) := by decide +kernel
theorem dX8_in_7 : decode cX8_in 7 = .ok (.if_icmp .gt 7, 3) := by decide +kernel
theorem dX8_in_10 : decode cX8_in 10 = .ok (.iconst 1, 1) := by decide +kernel
theorem dX8_in_11 : decode cX8_in 11 = .ok (.goto 4, 3) := by decide +kernel
theorem dX8_in_14 : decode cX8_in 14 = .ok (.iconst 0, 1) := by decide +kernel
theorem dX8_in_15 : decode cX8_in 15 = .ok (.ireturn, 1) := by decide +kernel
theorem dX8_goes_0 : decode cX8_goes 0 = .ok (.aload_n 0, 1) := by decide +kernel
theorem dX8_goes_1 : decode cX8_goes 1 = .ok (.iload_n 1, 1) := by decide +kernel
theorem dX8_goes_2 : decode cX8_goes 2 = .ok (.ifCond .ne 7, 3) := by decide +kernel
theorem dX8_goes_5 : decode cX8_goes 5 = .ok (.iconst 1, 1) := by decide +kernel
theorem dX8_goes_6 : decode cX8_goes 6 = .ok (.goto 20, 3) := by decide +kernel
theorem dX8_goes_9 : decode cX8_goes 9 = .ok (.iload_n 2, 1) := by decide +kernel
theorem dX8_goes_10 : decode cX8_goes 10 = .ok (.ifCond .ne 7, 3) := by decide +kernel
theorem dX8_goes_13 : decode cX8_goes 13 = .ok (.iconst 2, 1) := by decide +kernel
theorem dX8_goes_14 : decode cX8_goes 14 = .ok (.goto 12, 3) := by decide +kernel
theorem dX8_goes_17 : decode cX8_goes 17 = .ok (.iload_n 3, 1) := by decide +kernel
theorem dX8_goes_18 : decode cX8_goes 18 = .ok (.ifCond .eq 7, 3) := by decide +kernel
theorem dX8_goes_21 : decode cX8_goes 21 = .ok (.iconst 0, 1) := by decide +kernel
theorem dX8_goes_22 : decode cX8_goes 22 = .ok (.goto 4, 3) := by decide +kernel
theorem dX8_goes_25 : decode cX8_goes 25 = .ok (.iconst 3, 1) := by decide +kernel
theorem dX8_goes_26 : decode cX8_goes 26 = .ok (.putfield 86, 3) := by decide +kernel
theorem dX8_goes_29 : decode cX8_goes 29 = .ok (.aload_n 0, 1) := by decide +kernel
theorem dX8_goes_30 : decode cX8_goes 30 = .ok (.getfield 86, 3) := by decide +kernel
theorem dX8_goes_33 : decode cX8_goes 33 = .ok (.ifCond .ne 7, 3) := by decide +kernel
theorem dX8_goes_36 : decode cX8_goes 36 = .ok (.iconst 1, 1) := by decide +kernel
theorem dX8_goes_37 : decode cX8_goes 37 = .ok (.goto 4, 3) := by decide +kernel
theorem dX8_goes_40 : decode cX8_goes 40 = .ok (.iconst 0, 1) := by decide +kernel
theorem dX8_goes_41 : decode cX8_goes 41 = .ok (.ireturn, 1) := by decide +kernel
theorem dX8_isPerson_0 : decode cX8_isPerson 0 = .ok (.iload_n 1, 1) := by decide +kernel
theorem dX8_isPerson_1 : decode cX8_isPerson 1 = .ok (.iconst 0, 1) := by decide +kernel
theorem dX8_isPerson_2 : decode cX8_isPerson 2 = .ok (.aload_n 0, 1) := by decide +kernel
theorem dX8_isPerson_3 : decode cX8_isPerson 3 = .ok (.getfield 90, 3) := by decide +kernel
theorem dX8_isPerson_6 : decode cX8_isPerson 6 = .ok (.iconst 1, 1) := by decide +kernel
theorem dX8_isPerson_7 : decode cX8_isPerson 7 = .ok (.isub, 1) := by decide +kernel
theorem dX8_isPerson_8 : decode cX8_isPerson 8 = .ok (.invokestatic 93, 3) := by decide +kernel
theorem dX8_isPerson_11 : decode cX8_isPerson 11 = .ok (.ireturn, 1) := by decide +kernel
theorem dX8_isMachine_0 : decode cX8_isMachine 0 = .ok (.iload_n 1, 1) := by decide +kernel
theorem dX8_isMachine_1 : decode cX8_isMachine 1 = .ok (.iconst 0, 1) := by decide +kernel
theorem dX8_isMachine_2 : decode cX8_isMachine 2 = .ok (.aload_n 0, 1) := by decide +kernel
theorem dX8_isMachine_3 : decode cX8_isMachine 3 = .ok (.getfield 97, 3) := by decide +kernel
theorem dX8_isMachine_6 : decode cX8_isMachine 6 = .ok (.iconst 1, 1) := by decide +kernel
theorem dX8_isMachine_7 : decode cX8_isMachine 7 = .ok (.isub, 1) := by decide +kernel
theorem dX8_isMachine_8 : decode cX8_isMachine 8 = .ok (.invokestatic 93, 3) := by decide +kernel
theorem dX8_isMachine_11 : decode cX8_isMachine 11 = .ok (.ireturn, 1) := by decide +kernel
theorem dX8_areBoth_0 : decode cX8_areBoth 0 = .ok (.aload_n 0, 1) := by decide +kernel
theorem dX8_areBoth_1 : decode cX8_areBoth 1 = .ok (.iload_n 1, 1) := by decide +kernel
theorem dX8_areBoth_2 : decode cX8_areBoth 2 = .ok (.invokevirtual 100, 3) := by decide +kernel
theorem dX8_areBoth_5 : decode cX8_areBoth 5 = .ok (.ifCond .eq 15, 3) := by decide +kernel
theorem dX8_areBoth_8 : decode cX8_areBoth 8 = .ok (.aload_n 0, 1) := by decide +kernel
theorem dX8_areBoth_9 : decode cX8_areBoth 9 = .ok (.iload_n 2, 1) := by decide +kernel
theorem dX8_areBoth_10 : decode cX8_areBoth 10 = .ok (.invokevirtual 104, 3) := by decide +kernel
theorem dX8_areBoth_13 : decode cX8_areBoth 13 = .ok (.ifCond .eq 7, 3) := by decide +kernel
theorem dX8_areBoth_16 : decode cX8_areBoth 16 = .ok (.iconst 1, 1) := by decide +kernel
theorem dX8_areBoth_17 : decode cX8_areBoth 17 = .ok (.goto 4, 3) := by decide +kernel
theorem dX8_areBoth_20 : decode cX8_areBoth 20 = .ok (.iconst 0, 1) := by decide +kernel
theorem dX8_areBoth_21 : decode cX8_areBoth 21 = .ok (.ireturn, 1) := by decide +kernel
theorem dX8_isAsk_0 : decode cX8_isAsk 0 = .ok (.iload_n 1, 1) := by decide +kernel
theorem dX8_isAsk_1 : decode cX8_isAsk 1 = .ok (.iconst 0, 1) := by decide +kernel
theorem dX8_isAsk_2 : decode cX8_isAsk 2 = .ok (.aload_n 0, 1) := by decide +kernel
theorem dX8_isAsk_3 : decode cX8_isAsk 3 = .ok (.getfield 107, 3) := by decide +kernel
theorem dX8_isAsk_6 : decode cX8_isAsk 6 = .ok (.iconst 1, 1) := by decide +kernel
theorem dX8_isAsk_7 : decode cX8_isAsk 7 = .ok (.isub, 1) := by decide +kernel
theorem dX8_isAsk_8 : decode cX8_isAsk 8 = .ok (.invokestatic 93, 3) := by decide +kernel
theorem dX8_isAsk_11 : decode cX8_isAsk 11 = .ok (.ireturn, 1) := by decide +kernel
theorem dX8_isEntry_0 : decode cX8_isEntry 0 = .ok (.iload_n 1, 1) := by decide +kernel
theorem dX8_isEntry_1 : decode cX8_isEntry 1 = .ok (.iconst 0, 1) := by decide +kernel
theorem dX8_isEntry_2 : decode cX8_isEntry 2 = .ok (.aload_n 0, 1) := by decide +kernel
theorem dX8_isEntry_3 : decode cX8_isEntry 3 = .ok (.getfield 110, 3) := by decide +kernel
theorem dX8_isEntry_6 : decode cX8_isEntry 6 = .ok (.iconst 1, 1) := by decide +kernel
theorem dX8_isEntry_7 : decode cX8_isEntry 7 = .ok (.isub, 1) := by decide +kernel
theorem dX8_isEntry_8 : decode cX8_isEntry 8 = .ok (.invokestatic 93, 3) := by decide +kernel
theorem dX8_isEntry_11 : decode cX8_isEntry 11 = .ok (.ireturn, 1) := by decide +kernel
theorem dX8_isSession_0 : decode cX8_isSession 0 = .ok (.iload_n 1, 1) := by decide +kernel
theorem dX8_isSession_1 : decode cX8_isSession 1 = .ok (.iconst 0, 1) := by decide +kernel
theorem dX8_isSession_2 : decode cX8_isSession 2 = .ok (.aload_n 0, 1) := by decide +kernel
theorem dX8_isSession_3 : decode cX8_isSession 3 = .ok (.getfield 113, 3) := by decide +kernel
theorem dX8_isSession_6 : decode cX8_isSession 6 = .ok (.iconst 1, 1) := by decide +kernel
theorem dX8_isSession_7 : decode cX8_isSession 7 = .ok (.isub, 1) := by decide +kernel
theorem dX8_isSession_8 : decode cX8_isSession 8 = .ok (.invokestatic 93, 3) := by decide +kernel
theorem dX8_isSession_11 : decode cX8_isSession 11 = .ok (.ireturn, 1) := by decide +kernel
theorem dX8_writes_0 : decode cX8_writes 0 = .ok (.aload_n 0, 1) := by decide +kernel
theorem dX8_writes_1 : decode cX8_writes 1 = .ok (.getfield 116, 3) := by decide +kernel
theorem dX8_writes_4 : decode cX8_writes 4 = .ok (.ifCond .ne 7, 3) := by decide +kernel
theorem dX8_writes_7 : decode cX8_writes 7 = .ok (.iconst 1, 1) := by decide +kernel
theorem dX8_writes_8 : decode cX8_writes 8 = .ok (.goto 14, 3) := by decide +kernel
theorem dX8_writes_11 : decode cX8_writes 11 = .ok (.aload_n 0, 1) := by decide +kernel
theorem dX8_writes_12 : decode cX8_writes 12 = .ok (.getfield 83, 3) := by decide +kernel
theorem dX8_writes_15 : decode cX8_writes 15 = .ok (.aload_n 0, 1) := by decide +kernel
theorem dX8_writes_16 : decode cX8_writes 16 = .ok (.getfield 116, 3) := by decide +kernel
theorem dX8_writes_19 : decode cX8_writes 19 = .ok (.iconst 1, 1) := by decide +kernel
theorem dX8_writes_20 : decode cX8_writes 20 = .ok (.isub, 1) := by decide +kernel
theorem dX8_writes_21 : decode cX8_writes 21 = .ok (.iaload, 1) := by decide +kernel
theorem dX8_writes_22 : decode cX8_writes 22 = .ok (.istore 4, 2) := by decide +kernel
theorem dX8_writes_24 : decode cX8_writes 24 = .ok (.aload_n 0, 1) := by decide +kernel
theorem dX8_writes_25 : decode cX8_writes 25 = .ok (.getfield 80, 3) := by decide +kernel
theorem dX8_writes_28 : decode cX8_writes 28 = .ok (.aload_n 0, 1) := by decide +kernel
theorem dX8_writes_29 : decode cX8_writes 29 = .ok (.getfield 116, 3) := by decide +kernel
theorem dX8_writes_32 : decode cX8_writes 32 = .ok (.iload_n 1, 1) := by decide +kernel
theorem dX8_writes_33 : decode cX8_writes 33 = .ok (.iastore, 1) := by decide +kernel
theorem dX8_writes_34 : decode cX8_writes 34 = .ok (.aload_n 0, 1) := by decide +kernel
theorem dX8_writes_35 : decode cX8_writes 35 = .ok (.getfield 83, 3) := by decide +kernel
theorem dX8_writes_38 : decode cX8_writes 38 = .ok (.aload_n 0, 1) := by decide +kernel
theorem dX8_writes_39 : decode cX8_writes 39 = .ok (.getfield 116, 3) := by decide +kernel
theorem dX8_writes_42 : decode cX8_writes 42 = .ok (.bipush 31, 2) := by decide +kernel
theorem dX8_writes_44 : decode cX8_writes 44 = .ok (.iload 4, 2) := by decide +kernel
theorem dX8_writes_46 : decode cX8_writes 46 = .ok (.imul, 1) := by decide +kernel
theorem dX8_writes_47 : decode cX8_writes 47 = .ok (.iload_n 1, 1) := by decide +kernel
theorem dX8_writes_48 : decode cX8_writes 48 = .ok (.iadd, 1) := by decide +kernel
theorem dX8_writes_49 : decode cX8_writes 49 = .ok (.bipush 10, 2) := by decide +kernel
theorem dX8_writes_51 : decode cX8_writes 51 = .ok (.iload_n 2, 1) := by decide +kernel
theorem dX8_writes_52 : decode cX8_writes 52 = .ok (.imul, 1) := by decide +kernel
theorem dX8_writes_53 : decode cX8_writes 53 = .ok (.iadd, 1) := by decide +kernel
theorem dX8_writes_54 : decode cX8_writes 54 = .ok (.sipush 200, 3) := by decide +kernel
theorem dX8_writes_57 : decode cX8_writes 57 = .ok (.iload_n 3, 1) := by decide +kernel
theorem dX8_writes_58 : decode cX8_writes 58 = .ok (.imul, 1) := by decide +kernel
theorem dX8_writes_59 : decode cX8_writes 59 = .ok (.iadd, 1) := by decide +kernel
theorem dX8_writes_60 : decode cX8_writes 60 = .ok (.sipush 2000, 3) := by decide +kernel
theorem dX8_writes_63 : decode cX8_writes 63 = .ok (.aload_n 0, 1) := by decide +kernel
theorem dX8_writes_64 : decode cX8_writes 64 = .ok (.getfield 119, 3) := by decide +kernel
theorem dX8_writes_67 : decode cX8_writes 67 = .ok (.imul, 1) := by decide +kernel
theorem dX8_writes_68 : decode cX8_writes 68 = .ok (.iadd, 1) := by decide +kernel
theorem dX8_writes_69 : decode cX8_writes 69 = .ok (.ldc 122, 2) := by decide +kernel
theorem dX8_writes_71 : decode cX8_writes 71 = .ok (.irem, 1) := by decide +kernel
theorem dX8_writes_72 : decode cX8_writes 72 = .ok (.iastore, 1) := by decide +kernel
theorem dX8_writes_73 : decode cX8_writes 73 = .ok (.aload_n 0, 1) := by decide +kernel
theorem dX8_writes_74 : decode cX8_writes 74 = .ok (.dup, 1) := by decide +kernel
theorem dX8_writes_75 : decode cX8_writes 75 = .ok (.getfield 116, 3) := by decide +kernel
theorem dX8_writes_78 : decode cX8_writes 78 = .ok (.iconst 1, 1) := by decide +kernel
theorem dX8_writes_79 : decode cX8_writes 79 = .ok (.iadd, 1) := by decide +kernel
theorem dX8_writes_80 : decode cX8_writes 80 = .ok (.putfield 116, 3) := by decide +kernel
theorem dX8_writes_83 : decode cX8_writes 83 = .ok (.return_, 1) := by decide +kernel
theorem dX8_addPerson_0 : decode cX8_addPerson 0 = .ok (.aload_n 0, 1) := by decide +kernel
theorem dX8_addPerson_1 : decode cX8_addPerson 1 = .ok (.iload_n 1, 1) := by decide +kernel
theorem dX8_addPerson_2 : decode cX8_addPerson 2 = .ok (.iconst 0, 1) := by decide +kernel
theorem dX8_addPerson_3 : decode cX8_addPerson 3 = .ok (.iconst 3, 1) := by decide +kernel
theorem dX8_addPerson_4 : decode cX8_addPerson 4 = .ok (.invokestatic 93, 3) := by decide +kernel
theorem dX8_addPerson_7 : decode cX8_addPerson 7 = .ok (.aload_n 0, 1) := by decide +kernel
theorem dX8_addPerson_8 : decode cX8_addPerson 8 = .ok (.getfield 90, 3) := by decide +kernel
theorem dX8_addPerson_11 : decode cX8_addPerson 11 = .ok (.bipush 12, 2) := by decide +kernel
theorem dX8_addPerson_13 : decode cX8_addPerson 13 = .ok (.if_icmp .ge 7, 3) := by decide +kernel
theorem dX8_addPerson_16 : decode cX8_addPerson 16 = .ok (.iconst 1, 1) := by decide +kernel
theorem dX8_addPerson_17 : decode cX8_addPerson 17 = .ok (.goto 4, 3) := by decide +kernel
theorem dX8_addPerson_20 : decode cX8_addPerson 20 = .ok (.iconst 0, 1) := by decide +kernel
theorem dX8_addPerson_21 : decode cX8_addPerson 21 = .ok (.iconst 1, 1) := by decide +kernel
theorem dX8_addPerson_22 : decode cX8_addPerson 22 = .ok (.invokevirtual 123, 3) := by decide +kernel
theorem dX8_addPerson_25 : decode cX8_addPerson 25 = .ok (.ifCond .ne 5, 3) := by decide +kernel
theorem dX8_addPerson_28 : decode cX8_addPerson 28 = .ok (.iconst 0, 1) := by decide +kernel
theorem dX8_addPerson_29 : decode cX8_addPerson 29 = .ok (.ireturn, 1) := by decide +kernel
theorem dX8_addPerson_30 : decode cX8_addPerson 30 = .ok (.aload_n 0, 1) := by decide +kernel
theorem dX8_addPerson_31 : decode cX8_addPerson 31 = .ok (.getfield 7, 3) := by decide +kernel
theorem dX8_addPerson_34 : decode cX8_addPerson 34 = .ok (.aload_n 0, 1) := by decide +kernel
theorem dX8_addPerson_35 : decode cX8_addPerson 35 = .ok (.getfield 90, 3) := by decide +kernel
theorem dX8_addPerson_38 : decode cX8_addPerson 38 = .ok (.iload_n 1, 1) := by decide +kernel
theorem dX8_addPerson_39 : decode cX8_addPerson 39 = .ok (.iastore, 1) := by decide +kernel
theorem dX8_addPerson_40 : decode cX8_addPerson 40 = .ok (.aload_n 0, 1) := by decide +kernel
theorem dX8_addPerson_41 : decode cX8_addPerson 41 = .ok (.dup, 1) := by decide +kernel
theorem dX8_addPerson_42 : decode cX8_addPerson 42 = .ok (.getfield 90, 3) := by decide +kernel
theorem dX8_addPerson_45 : decode cX8_addPerson 45 = .ok (.iconst 1, 1) := by decide +kernel
theorem dX8_addPerson_46 : decode cX8_addPerson 46 = .ok (.iadd, 1) := by decide +kernel
theorem dX8_addPerson_47 : decode cX8_addPerson 47 = .ok (.putfield 90, 3) := by decide +kernel
theorem dX8_addPerson_50 : decode cX8_addPerson 50 = .ok (.aload_n 0, 1) := by decide +kernel
theorem dX8_addPerson_51 : decode cX8_addPerson 51 = .ok (.getfield 90, 3) := by decide +kernel
theorem dX8_addPerson_54 : decode cX8_addPerson 54 = .ok (.iconst 1, 1) := by decide +kernel
theorem dX8_addPerson_55 : decode cX8_addPerson 55 = .ok (.isub, 1) := by decide +kernel
theorem dX8_addPerson_56 : decode cX8_addPerson 56 = .ok (.ireturn, 1) := by decide +kernel
theorem dX8_addMachine_0 : decode cX8_addMachine 0 = .ok (.aload_n 0, 1) := by decide +kernel
theorem dX8_addMachine_1 : decode cX8_addMachine 1 = .ok (.iload_n 1, 1) := by decide +kernel
theorem dX8_addMachine_2 : decode cX8_addMachine 2 = .ok (.iconst 0, 1) := by decide +kernel
theorem dX8_addMachine_3 : decode cX8_addMachine 3 = .ok (.iconst 3, 1) := by decide +kernel
theorem dX8_addMachine_4 : decode cX8_addMachine 4 = .ok (.invokestatic 93, 3) := by decide +kernel
theorem dX8_addMachine_7 : decode cX8_addMachine 7 = .ok (.aload_n 0, 1) := by decide +kernel
theorem dX8_addMachine_8 : decode cX8_addMachine 8 = .ok (.getfield 97, 3) := by decide +kernel
theorem dX8_addMachine_11 : decode cX8_addMachine 11 = .ok (.bipush 8, 2) := by decide +kernel
theorem dX8_addMachine_13 : decode cX8_addMachine 13 = .ok (.if_icmp .ge 7, 3) := by decide +kernel
theorem dX8_addMachine_16 : decode cX8_addMachine 16 = .ok (.iconst 1, 1) := by decide +kernel
theorem dX8_addMachine_17 : decode cX8_addMachine 17 = .ok (.goto 4, 3) := by decide +kernel
theorem dX8_addMachine_20 : decode cX8_addMachine 20 = .ok (.iconst 0, 1) := by decide +kernel
theorem dX8_addMachine_21 : decode cX8_addMachine 21 = .ok (.iconst 1, 1) := by decide +kernel
theorem dX8_addMachine_22 : decode cX8_addMachine 22 = .ok (.invokevirtual 123, 3) := by decide +kernel
theorem dX8_addMachine_25 : decode cX8_addMachine 25 = .ok (.ifCond .ne 5, 3) := by decide +kernel
theorem dX8_addMachine_28 : decode cX8_addMachine 28 = .ok (.iconst 0, 1) := by decide +kernel
theorem dX8_addMachine_29 : decode cX8_addMachine 29 = .ok (.ireturn, 1) := by decide +kernel
theorem dX8_addMachine_30 : decode cX8_addMachine 30 = .ok (.aload_n 0, 1) := by decide +kernel
theorem dX8_addMachine_31 : decode cX8_addMachine 31 = .ok (.getfield 17, 3) := by decide +kernel
theorem dX8_addMachine_34 : decode cX8_addMachine 34 = .ok (.aload_n 0, 1) := by decide +kernel
theorem dX8_addMachine_35 : decode cX8_addMachine 35 = .ok (.getfield 97, 3) := by decide +kernel
theorem dX8_addMachine_38 : decode cX8_addMachine 38 = .ok (.iload_n 1, 1) := by decide +kernel
theorem dX8_addMachine_39 : decode cX8_addMachine 39 = .ok (.iastore, 1) := by decide +kernel
theorem dX8_addMachine_40 : decode cX8_addMachine 40 = .ok (.aload_n 0, 1) := by decide +kernel
theorem dX8_addMachine_41 : decode cX8_addMachine 41 = .ok (.dup, 1) := by decide +kernel
theorem dX8_addMachine_42 : decode cX8_addMachine 42 = .ok (.getfield 97, 3) := by decide +kernel
theorem dX8_addMachine_45 : decode cX8_addMachine 45 = .ok (.iconst 1, 1) := by decide +kernel
theorem dX8_addMachine_46 : decode cX8_addMachine 46 = .ok (.iadd, 1) := by decide +kernel
theorem dX8_addMachine_47 : decode cX8_addMachine 47 = .ok (.putfield 97, 3) := by decide +kernel
theorem dX8_addMachine_50 : decode cX8_addMachine 50 = .ok (.aload_n 0, 1) := by decide +kernel
theorem dX8_addMachine_51 : decode cX8_addMachine 51 = .ok (.getfield 97, 3) := by decide +kernel
theorem dX8_addMachine_54 : decode cX8_addMachine 54 = .ok (.iconst 1, 1) := by decide +kernel
theorem dX8_addMachine_55 : decode cX8_addMachine 55 = .ok (.isub, 1) := by decide +kernel
theorem dX8_addMachine_56 : decode cX8_addMachine 56 = .ok (.ireturn, 1) := by decide +kernel
theorem dX8_hasLabel_0 : decode cX8_hasLabel 0 = .ok (.aload_n 0, 1) := by decide +kernel
theorem dX8_hasLabel_1 : decode cX8_hasLabel 1 = .ok (.getfield 13, 3) := by decide +kernel
theorem dX8_hasLabel_4 : decode cX8_hasLabel 4 = .ok (.iconst 4, 1) := by decide +kernel
theorem dX8_hasLabel_5 : decode cX8_hasLabel 5 = .ok (.iload_n 1, 1) := by decide +kernel
theorem dX8_hasLabel_6 : decode cX8_hasLabel 6 = .ok (.imul, 1) := by decide +kernel
theorem dX8_hasLabel_7 : decode cX8_hasLabel 7 = .ok (.aload_n 0, 1) := by decide +kernel
theorem dX8_hasLabel_8 : decode cX8_hasLabel 8 = .ok (.getfield 17, 3) := by decide +kernel
theorem dX8_hasLabel_11 : decode cX8_hasLabel 11 = .ok (.iload_n 2, 1) := by decide +kernel
theorem dX8_hasLabel_12 : decode cX8_hasLabel 12 = .ok (.iaload, 1) := by decide +kernel
theorem dX8_hasLabel_13 : decode cX8_hasLabel 13 = .ok (.iadd, 1) := by decide +kernel
theorem dX8_hasLabel_14 : decode cX8_hasLabel 14 = .ok (.baload, 1) := by decide +kernel
theorem dX8_hasLabel_15 : decode cX8_hasLabel 15 = .ok (.ireturn, 1) := by decide +kernel
theorem dX8_holdsAt_0 : decode cX8_holdsAt 0 = .ok (.iconst 0, 1) := by decide +kernel
theorem dX8_holdsAt_1 : decode cX8_holdsAt 1 = .ok (.istore 4, 2) := by decide +kernel
theorem dX8_holdsAt_3 : decode cX8_holdsAt 3 = .ok (.iconst 0, 1) := by decide +kernel
theorem dX8_holdsAt_4 : decode cX8_holdsAt 4 = .ok (.istore 5, 2) := by decide +kernel
theorem dX8_holdsAt_6 : decode cX8_holdsAt 6 = .ok (.iload 5, 2) := by decide +kernel
theorem dX8_holdsAt_8 : decode cX8_holdsAt 8 = .ok (.aload_n 0, 1) := by decide +kernel
theorem dX8_holdsAt_9 : decode cX8_holdsAt 9 = .ok (.getfield 127, 3) := by decide +kernel
theorem dX8_holdsAt_12 : decode cX8_holdsAt 12 = .ok (.if_icmp .ge 65, 3) := by decide +kernel
theorem dX8_holdsAt_15 : decode cX8_holdsAt 15 = .ok (.iload 4, 2) := by decide +kernel
theorem dX8_holdsAt_17 : decode cX8_holdsAt 17 = .ok (.ifCond .ne 47, 3) := by decide +kernel
theorem dX8_holdsAt_20 : decode cX8_holdsAt 20 = .ok (.aload_n 0, 1) := by decide +kernel
theorem dX8_holdsAt_21 : decode cX8_holdsAt 21 = .ok (.getfield 20, 3) := by decide +kernel
theorem dX8_holdsAt_24 : decode cX8_holdsAt 24 = .ok (.iload 5, 2) := by decide +kernel
theorem dX8_holdsAt_26 : decode cX8_holdsAt 26 = .ok (.iaload, 1) := by decide +kernel
theorem dX8_holdsAt_27 : decode cX8_holdsAt 27 = .ok (.iload_n 1, 1) := by decide +kernel
theorem dX8_holdsAt_28 : decode cX8_holdsAt 28 = .ok (.if_icmp .ne 40, 3) := by decide +kernel
theorem dX8_holdsAt_31 : decode cX8_holdsAt 31 = .ok (.aload_n 0, 1) := by decide +kernel
theorem dX8_holdsAt_32 : decode cX8_holdsAt 32 = .ok (.getfield 23, 3) := by decide +kernel
theorem dX8_holdsAt_35 : decode cX8_holdsAt 35 = .ok (.iload 5, 2) := by decide +kernel
theorem dX8_holdsAt_37 : decode cX8_holdsAt 37 = .ok (.iaload, 1) := by decide +kernel
theorem dX8_holdsAt_38 : decode cX8_holdsAt 38 = .ok (.iload_n 2, 1) := by decide +kernel
theorem dX8_holdsAt_39 : decode cX8_holdsAt 39 = .ok (.if_icmp .ne 29, 3) := by decide +kernel
theorem dX8_holdsAt_42 : decode cX8_holdsAt 42 = .ok (.aload_n 0, 1) := by decide +kernel
theorem dX8_holdsAt_43 : decode cX8_holdsAt 43 = .ok (.getfield 26, 3) := by decide +kernel
theorem dX8_holdsAt_46 : decode cX8_holdsAt 46 = .ok (.iload 5, 2) := by decide +kernel
theorem dX8_holdsAt_48 : decode cX8_holdsAt 48 = .ok (.iaload, 1) := by decide +kernel
theorem dX8_holdsAt_49 : decode cX8_holdsAt 49 = .ok (.iload_n 3, 1) := by decide +kernel
theorem dX8_holdsAt_50 : decode cX8_holdsAt 50 = .ok (.if_icmp .gt 18, 3) := by decide +kernel
theorem dX8_holdsAt_53 : decode cX8_holdsAt 53 = .ok (.iload_n 3, 1) := by decide +kernel
theorem dX8_holdsAt_54 : decode cX8_holdsAt 54 = .ok (.aload_n 0, 1) := by decide +kernel
theorem dX8_holdsAt_55 : decode cX8_holdsAt 55 = .ok (.getfield 29, 3) := by decide +kernel
theorem dX8_holdsAt_58 : decode cX8_holdsAt 58 = .ok (.iload 5, 2) := by decide +kernel
theorem dX8_holdsAt_60 : decode cX8_holdsAt 60 = .ok (.iaload, 1) := by decide +kernel
theorem dX8_holdsAt_61 : decode cX8_holdsAt 61 = .ok (.if_icmp .ge 7, 3) := by decide +kernel
theorem dX8_holdsAt_64 : decode cX8_holdsAt 64 = .ok (.iconst 1, 1) := by decide +kernel
theorem dX8_holdsAt_65 : decode cX8_holdsAt 65 = .ok (.goto 4, 3) := by decide +kernel
theorem dX8_holdsAt_68 : decode cX8_holdsAt 68 = .ok (.iconst 0, 1) := by decide +kernel
theorem dX8_holdsAt_69 : decode cX8_holdsAt 69 = .ok (.istore 4, 2) := by decide +kernel
theorem dX8_holdsAt_71 : decode cX8_holdsAt 71 = .ok (.iinc 5 1, 3) := by decide +kernel
theorem dX8_holdsAt_74 : decode cX8_holdsAt 74 = .ok (.goto (-68), 3) := by decide +kernel
theorem dX8_holdsAt_77 : decode cX8_holdsAt 77 = .ok (.iload 4, 2) := by decide +kernel
theorem dX8_holdsAt_79 : decode cX8_holdsAt 79 = .ok (.ireturn, 1) := by decide +kernel
theorem dX8_grants_0 : decode cX8_grants 0 = .ok (.aload_n 0, 1) := by decide +kernel
theorem dX8_grants_1 : decode cX8_grants 1 = .ok (.getfield 20, 3) := by decide +kernel
theorem dX8_grants_4 : decode cX8_grants 4 = .ok (.aload_n 0, 1) := by decide +kernel
theorem dX8_grants_5 : decode cX8_grants 5 = .ok (.getfield 127, 3) := by decide +kernel
theorem dX8_grants_8 : decode cX8_grants 8 = .ok (.iload_n 1, 1) := by decide +kernel
theorem dX8_grants_9 : decode cX8_grants 9 = .ok (.iastore, 1) := by decide +kernel
theorem dX8_grants_10 : decode cX8_grants 10 = .ok (.aload_n 0, 1) := by decide +kernel
theorem dX8_grants_11 : decode cX8_grants 11 = .ok (.getfield 23, 3) := by decide +kernel
theorem dX8_grants_14 : decode cX8_grants 14 = .ok (.aload_n 0, 1) := by decide +kernel
theorem dX8_grants_15 : decode cX8_grants 15 = .ok (.getfield 127, 3) := by decide +kernel
theorem dX8_grants_18 : decode cX8_grants 18 = .ok (.iload_n 2, 1) := by decide +kernel
theorem dX8_grants_19 : decode cX8_grants 19 = .ok (.iastore, 1) := by decide +kernel
theorem dX8_grants_20 : decode cX8_grants 20 = .ok (.aload_n 0, 1) := by decide +kernel
theorem dX8_grants_21 : decode cX8_grants 21 = .ok (.getfield 26, 3) := by decide +kernel
theorem dX8_grants_24 : decode cX8_grants 24 = .ok (.aload_n 0, 1) := by decide +kernel
theorem dX8_grants_25 : decode cX8_grants 25 = .ok (.getfield 127, 3) := by decide +kernel
theorem dX8_grants_28 : decode cX8_grants 28 = .ok (.aload_n 0, 1) := by decide +kernel
theorem dX8_grants_29 : decode cX8_grants 29 = .ok (.getfield 119, 3) := by decide +kernel
theorem dX8_grants_32 : decode cX8_grants 32 = .ok (.iastore, 1) := by decide +kernel
theorem dX8_grants_33 : decode cX8_grants 33 = .ok (.aload_n 0, 1) := by decide +kernel
theorem dX8_grants_34 : decode cX8_grants 34 = .ok (.getfield 29, 3) := by decide +kernel
theorem dX8_grants_37 : decode cX8_grants 37 = .ok (.aload_n 0, 1) := by decide +kernel
theorem dX8_grants_38 : decode cX8_grants 38 = .ok (.getfield 127, 3) := by decide +kernel
theorem dX8_grants_41 : decode cX8_grants 41 = .ok (.aload_n 0, 1) := by decide +kernel
theorem dX8_grants_42 : decode cX8_grants 42 = .ok (.getfield 119, 3) := by decide +kernel
theorem dX8_grants_45 : decode cX8_grants 45 = .ok (.iload_n 3, 1) := by decide +kernel
theorem dX8_grants_46 : decode cX8_grants 46 = .ok (.iadd, 1) := by decide +kernel
theorem dX8_grants_47 : decode cX8_grants 47 = .ok (.iastore, 1) := by decide +kernel
theorem dX8_grants_48 : decode cX8_grants 48 = .ok (.aload_n 0, 1) := by decide +kernel
theorem dX8_grants_49 : decode cX8_grants 49 = .ok (.dup, 1) := by decide +kernel
theorem dX8_grants_50 : decode cX8_grants 50 = .ok (.getfield 127, 3) := by decide +kernel
theorem dX8_grants_53 : decode cX8_grants 53 = .ok (.iconst 1, 1) := by decide +kernel
theorem dX8_grants_54 : decode cX8_grants 54 = .ok (.iadd, 1) := by decide +kernel
theorem dX8_grants_55 : decode cX8_grants 55 = .ok (.putfield 127, 3) := by decide +kernel
theorem dX8_grants_58 : decode cX8_grants 58 = .ok (.return_, 1) := by decide +kernel
theorem dX8_endsRights_0 : decode cX8_endsRights 0 = .ok (.iconst 0, 1) := by decide +kernel
theorem dX8_endsRights_1 : decode cX8_endsRights 1 = .ok (.istore_n 3, 1) := by decide +kernel
theorem dX8_endsRights_2 : decode cX8_endsRights 2 = .ok (.iload_n 3, 1) := by decide +kernel
theorem dX8_endsRights_3 : decode cX8_endsRights 3 = .ok (.aload_n 0, 1) := by decide +kernel
theorem dX8_endsRights_4 : decode cX8_endsRights 4 = .ok (.getfield 127, 3) := by decide +kernel
theorem dX8_endsRights_7 : decode cX8_endsRights 7 = .ok (.if_icmp .ge 86, 3) := by decide +kernel
theorem dX8_endsRights_10 : decode cX8_endsRights 10 = .ok (.aload_n 0, 1) := by decide +kernel
theorem dX8_endsRights_11 : decode cX8_endsRights 11 = .ok (.getfield 20, 3) := by decide +kernel
theorem dX8_endsRights_14 : decode cX8_endsRights 14 = .ok (.iload_n 3, 1) := by decide +kernel
theorem dX8_endsRights_15 : decode cX8_endsRights 15 = .ok (.iaload, 1) := by decide +kernel
theorem dX8_endsRights_16 : decode cX8_endsRights 16 = .ok (.iload_n 1, 1) := by decide +kernel
theorem dX8_endsRights_17 : decode cX8_endsRights 17 = .ok (.if_icmp .ne 17, 3) := by decide +kernel
theorem dX8_endsRights_20 : decode cX8_endsRights 20 = .ok (.aload_n 0, 1) := by decide +kernel
theorem dX8_endsRights_21 : decode cX8_endsRights 21 = .ok (.getfield 23, 3) := by decide +kernel
theorem dX8_endsRights_24 : decode cX8_endsRights 24 = .ok (.iload_n 3, 1) := by decide +kernel
theorem dX8_endsRights_25 : decode cX8_endsRights 25 = .ok (.iaload, 1) := by decide +kernel
theorem dX8_endsRights_26 : decode cX8_endsRights 26 = .ok (.iload_n 2, 1) := by decide +kernel
theorem dX8_endsRights_27 : decode cX8_endsRights 27 = .ok (.if_icmp .ne 7, 3) := by decide +kernel
theorem dX8_endsRights_30 : decode cX8_endsRights 30 = .ok (.iconst 1, 1) := by decide +kernel
theorem dX8_endsRights_31 : decode cX8_endsRights 31 = .ok (.goto 4, 3) := by decide +kernel
theorem dX8_endsRights_34 : decode cX8_endsRights 34 = .ok (.iconst 0, 1) := by decide +kernel
theorem dX8_endsRights_35 : decode cX8_endsRights 35 = .ok (.istore 4, 2) := by decide +kernel
theorem dX8_endsRights_37 : decode cX8_endsRights 37 = .ok (.aload_n 0, 1) := by decide +kernel
theorem dX8_endsRights_38 : decode cX8_endsRights 38 = .ok (.getfield 29, 3) := by decide +kernel
theorem dX8_endsRights_41 : decode cX8_endsRights 41 = .ok (.iload_n 3, 1) := by decide +kernel
theorem dX8_endsRights_42 : decode cX8_endsRights 42 = .ok (.iload 4, 2) := by decide +kernel
theorem dX8_endsRights_44 : decode cX8_endsRights 44 = .ok (.ifCond .eq 36, 3) := by decide +kernel
theorem dX8_endsRights_47 : decode cX8_endsRights 47 = .ok (.aload_n 0, 1) := by decide +kernel
theorem dX8_endsRights_48 : decode cX8_endsRights 48 = .ok (.getfield 26, 3) := by decide +kernel
theorem dX8_endsRights_51 : decode cX8_endsRights 51 = .ok (.iload_n 3, 1) := by decide +kernel
theorem dX8_endsRights_52 : decode cX8_endsRights 52 = .ok (.iaload, 1) := by decide +kernel
theorem dX8_endsRights_53 : decode cX8_endsRights 53 = .ok (.aload_n 0, 1) := by decide +kernel
theorem dX8_endsRights_54 : decode cX8_endsRights 54 = .ok (.getfield 119, 3) := by decide +kernel
theorem dX8_endsRights_57 : decode cX8_endsRights 57 = .ok (.if_icmp .gt 23, 3) := by decide +kernel
theorem dX8_endsRights_60 : decode cX8_endsRights 60 = .ok (.aload_n 0, 1) := by decide +kernel
theorem dX8_endsRights_61 : decode cX8_endsRights 61 = .ok (.getfield 119, 3) := by decide +kernel
theorem dX8_endsRights_64 : decode cX8_endsRights 64 = .ok (.aload_n 0, 1) := by decide +kernel
theorem dX8_endsRights_65 : decode cX8_endsRights 65 = .ok (.getfield 29, 3) := by decide +kernel
theorem dX8_endsRights_68 : decode cX8_endsRights 68 = .ok (.iload_n 3, 1) := by decide +kernel
theorem dX8_endsRights_69 : decode cX8_endsRights 69 = .ok (.iaload, 1) := by decide +kernel
theorem dX8_endsRights_70 : decode cX8_endsRights 70 = .ok (.if_icmp .ge 10, 3) := by decide +kernel
theorem dX8_endsRights_73 : decode cX8_endsRights 73 = .ok (.aload_n 0, 1) := by decide +kernel
theorem dX8_endsRights_74 : decode cX8_endsRights 74 = .ok (.getfield 119, 3) := by decide +kernel
theorem dX8_endsRights_77 : decode cX8_endsRights 77 = .ok (.goto 9, 3) := by decide +kernel
theorem dX8_endsRights_80 : decode cX8_endsRights 80 = .ok (.aload_n 0, 1) := by decide +kernel
theorem dX8_endsRights_81 : decode cX8_endsRights 81 = .ok (.getfield 29, 3) := by decide +kernel
theorem dX8_endsRights_84 : decode cX8_endsRights 84 = .ok (.iload_n 3, 1) := by decide +kernel
theorem dX8_endsRights_85 : decode cX8_endsRights 85 = .ok (.iaload, 1) := by decide +kernel
theorem dX8_endsRights_86 : decode cX8_endsRights 86 = .ok (.iastore, 1) := by decide +kernel
theorem dX8_endsRights_87 : decode cX8_endsRights 87 = .ok (.iinc 3 1, 3) := by decide +kernel
theorem dX8_endsRights_90 : decode cX8_endsRights 90 = .ok (.goto (-88), 3) := by decide +kernel
theorem dX8_endsRights_93 : decode cX8_endsRights 93 = .ok (.return_, 1) := by decide +kernel
theorem dX8_deniesAsks_0 : decode cX8_deniesAsks 0 = .ok (.iconst 0, 1) := by decide +kernel
theorem dX8_deniesAsks_1 : decode cX8_deniesAsks 1 = .ok (.istore_n 3, 1) := by decide +kernel
theorem dX8_deniesAsks_2 : decode cX8_deniesAsks 2 = .ok (.iload_n 3, 1) := by decide +kernel
theorem dX8_deniesAsks_3 : decode cX8_deniesAsks 3 = .ok (.aload_n 0, 1) := by decide +kernel
theorem dX8_deniesAsks_4 : decode cX8_deniesAsks 4 = .ok (.getfield 107, 3) := by decide +kernel
theorem dX8_deniesAsks_7 : decode cX8_deniesAsks 7 = .ok (.if_icmp .ge 66, 3) := by decide +kernel
theorem dX8_deniesAsks_10 : decode cX8_deniesAsks 10 = .ok (.aload_n 0, 1) := by decide +kernel
theorem dX8_deniesAsks_11 : decode cX8_deniesAsks 11 = .ok (.getfield 32, 3) := by decide +kernel
theorem dX8_deniesAsks_14 : decode cX8_deniesAsks 14 = .ok (.iload_n 3, 1) := by decide +kernel
theorem dX8_deniesAsks_15 : decode cX8_deniesAsks 15 = .ok (.iaload, 1) := by decide +kernel
theorem dX8_deniesAsks_16 : decode cX8_deniesAsks 16 = .ok (.iload_n 1, 1) := by decide +kernel
theorem dX8_deniesAsks_17 : decode cX8_deniesAsks 17 = .ok (.if_icmp .ne 26, 3) := by decide +kernel
theorem dX8_deniesAsks_20 : decode cX8_deniesAsks 20 = .ok (.aload_n 0, 1) := by decide +kernel
theorem dX8_deniesAsks_21 : decode cX8_deniesAsks 21 = .ok (.getfield 35, 3) := by decide +kernel
theorem dX8_deniesAsks_24 : decode cX8_deniesAsks 24 = .ok (.iload_n 3, 1) := by decide +kernel
theorem dX8_deniesAsks_25 : decode cX8_deniesAsks 25 = .ok (.iaload, 1) := by decide +kernel
theorem dX8_deniesAsks_26 : decode cX8_deniesAsks 26 = .ok (.iload_n 2, 1) := by decide +kernel
theorem dX8_deniesAsks_27 : decode cX8_deniesAsks 27 = .ok (.if_icmp .ne 16, 3) := by decide +kernel
theorem dX8_deniesAsks_30 : decode cX8_deniesAsks 30 = .ok (.aload_n 0, 1) := by decide +kernel
theorem dX8_deniesAsks_31 : decode cX8_deniesAsks 31 = .ok (.getfield 44, 3) := by decide +kernel
theorem dX8_deniesAsks_34 : decode cX8_deniesAsks 34 = .ok (.iload_n 3, 1) := by decide +kernel
theorem dX8_deniesAsks_35 : decode cX8_deniesAsks 35 = .ok (.iaload, 1) := by decide +kernel
theorem dX8_deniesAsks_36 : decode cX8_deniesAsks 36 = .ok (.ifCond .ne 7, 3) := by decide +kernel
theorem dX8_deniesAsks_39 : decode cX8_deniesAsks 39 = .ok (.iconst 1, 1) := by decide +kernel
theorem dX8_deniesAsks_40 : decode cX8_deniesAsks 40 = .ok (.goto 4, 3) := by decide +kernel
theorem dX8_deniesAsks_43 : decode cX8_deniesAsks 43 = .ok (.iconst 0, 1) := by decide +kernel
theorem dX8_deniesAsks_44 : decode cX8_deniesAsks 44 = .ok (.istore 4, 2) := by decide +kernel
theorem dX8_deniesAsks_46 : decode cX8_deniesAsks 46 = .ok (.aload_n 0, 1) := by decide +kernel
theorem dX8_deniesAsks_47 : decode cX8_deniesAsks 47 = .ok (.getfield 44, 3) := by decide +kernel
theorem dX8_deniesAsks_50 : decode cX8_deniesAsks 50 = .ok (.iload_n 3, 1) := by decide +kernel
theorem dX8_deniesAsks_51 : decode cX8_deniesAsks 51 = .ok (.iload 4, 2) := by decide +kernel
theorem dX8_deniesAsks_53 : decode cX8_deniesAsks 53 = .ok (.ifCond .eq 7, 3) := by decide +kernel
theorem dX8_deniesAsks_56 : decode cX8_deniesAsks 56 = .ok (.iconst 2, 1) := by decide +kernel
theorem dX8_deniesAsks_57 : decode cX8_deniesAsks 57 = .ok (.goto 9, 3) := by decide +kernel
theorem dX8_deniesAsks_60 : decode cX8_deniesAsks 60 = .ok (.aload_n 0, 1) := by decide +kernel
theorem dX8_deniesAsks_61 : decode cX8_deniesAsks 61 = .ok (.getfield 44, 3) := by decide +kernel
theorem dX8_deniesAsks_64 : decode cX8_deniesAsks 64 = .ok (.iload_n 3, 1) := by decide +kernel
theorem dX8_deniesAsks_65 : decode cX8_deniesAsks 65 = .ok (.iaload, 1) := by decide +kernel
theorem dX8_deniesAsks_66 : decode cX8_deniesAsks 66 = .ok (.iastore, 1) := by decide +kernel
theorem dX8_deniesAsks_67 : decode cX8_deniesAsks 67 = .ok (.iinc 3 1, 3) := by decide +kernel
theorem dX8_deniesAsks_70 : decode cX8_deniesAsks 70 = .ok (.goto (-68), 3) := by decide +kernel
theorem dX8_deniesAsks_73 : decode cX8_deniesAsks 73 = .ok (.return_, 1) := by decide +kernel
theorem dX8_shuts_0 : decode cX8_shuts 0 = .ok (.aload_n 0, 1) := by decide +kernel
theorem dX8_shuts_1 : decode cX8_shuts 1 = .ok (.getfield 68, 3) := by decide +kernel
theorem dX8_shuts_4 : decode cX8_shuts 4 = .ok (.iload_n 1, 1) := by decide +kernel
theorem dX8_shuts_5 : decode cX8_shuts 5 = .ok (.iconst 0, 1) := by decide +kernel
theorem dX8_shuts_6 : decode cX8_shuts 6 = .ok (.bastore, 1) := by decide +kernel
theorem dX8_shuts_7 : decode cX8_shuts 7 = .ok (.aload_n 0, 1) := by decide +kernel
theorem dX8_shuts_8 : decode cX8_shuts 8 = .ok (.getfield 74, 3) := by decide +kernel
theorem dX8_shuts_11 : decode cX8_shuts 11 = .ok (.iload_n 1, 1) := by decide +kernel
theorem dX8_shuts_12 : decode cX8_shuts 12 = .ok (.iconst (-1), 1) := by decide +kernel
theorem dX8_shuts_13 : decode cX8_shuts 13 = .ok (.iastore, 1) := by decide +kernel
theorem dX8_shuts_14 : decode cX8_shuts 14 = .ok (.aload_n 0, 1) := by decide +kernel
theorem dX8_shuts_15 : decode cX8_shuts 15 = .ok (.bipush 6, 2) := by decide +kernel
theorem dX8_shuts_17 : decode cX8_shuts 17 = .ok (.aload_n 0, 1) := by decide +kernel
theorem dX8_shuts_18 : decode cX8_shuts 18 = .ok (.getfield 62, 3) := by decide +kernel
theorem dX8_shuts_21 : decode cX8_shuts 21 = .ok (.iload_n 1, 1) := by decide +kernel
theorem dX8_shuts_22 : decode cX8_shuts 22 = .ok (.iaload, 1) := by decide +kernel
theorem dX8_shuts_23 : decode cX8_shuts 23 = .ok (.aload_n 0, 1) := by decide +kernel
theorem dX8_shuts_24 : decode cX8_shuts 24 = .ok (.getfield 65, 3) := by decide +kernel
theorem dX8_shuts_27 : decode cX8_shuts 27 = .ok (.iload_n 1, 1) := by decide +kernel
theorem dX8_shuts_28 : decode cX8_shuts 28 = .ok (.iaload, 1) := by decide +kernel
theorem dX8_shuts_29 : decode cX8_shuts 29 = .ok (.invokevirtual 130, 3) := by decide +kernel
theorem dX8_shuts_32 : decode cX8_shuts 32 = .ok (.return_, 1) := by decide +kernel
theorem dX8_closes_0 : decode cX8_closes 0 = .ok (.iconst 0, 1) := by decide +kernel
theorem dX8_closes_1 : decode cX8_closes 1 = .ok (.istore_n 2, 1) := by decide +kernel
theorem dX8_closes_2 : decode cX8_closes 2 = .ok (.iconst 0, 1) := by decide +kernel
theorem dX8_closes_3 : decode cX8_closes 3 = .ok (.istore_n 3, 1) := by decide +kernel
theorem dX8_closes_4 : decode cX8_closes 4 = .ok (.iload_n 3, 1) := by decide +kernel
theorem dX8_closes_5 : decode cX8_closes 5 = .ok (.aload_n 0, 1) := by decide +kernel
theorem dX8_closes_6 : decode cX8_closes 6 = .ok (.getfield 113, 3) := by decide +kernel
theorem dX8_closes_9 : decode cX8_closes 9 = .ok (.if_icmp .ge 70, 3) := by decide +kernel
theorem dX8_closes_12 : decode cX8_closes 12 = .ok (.aload_n 0, 1) := by decide +kernel
theorem dX8_closes_13 : decode cX8_closes 13 = .ok (.getfield 68, 3) := by decide +kernel
theorem dX8_closes_16 : decode cX8_closes 16 = .ok (.iload_n 3, 1) := by decide +kernel
theorem dX8_closes_17 : decode cX8_closes 17 = .ok (.baload, 1) := by decide +kernel
theorem dX8_closes_18 : decode cX8_closes 18 = .ok (.ifCond .eq 55, 3) := by decide +kernel
theorem dX8_closes_21 : decode cX8_closes 21 = .ok (.iload_n 3, 1) := by decide +kernel
theorem dX8_closes_22 : decode cX8_closes 22 = .ok (.iload_n 1, 1) := by decide +kernel
theorem dX8_closes_23 : decode cX8_closes 23 = .ok (.if_icmp .eq 42, 3) := by decide +kernel
theorem dX8_closes_26 : decode cX8_closes 26 = .ok (.aload_n 0, 1) := by decide +kernel
theorem dX8_closes_27 : decode cX8_closes 27 = .ok (.getfield 119, 3) := by decide +kernel
theorem dX8_closes_30 : decode cX8_closes 30 = .ok (.aload_n 0, 1) := by decide +kernel
theorem dX8_closes_31 : decode cX8_closes 31 = .ok (.getfield 71, 3) := by decide +kernel
theorem dX8_closes_34 : decode cX8_closes 34 = .ok (.iload_n 3, 1) := by decide +kernel
theorem dX8_closes_35 : decode cX8_closes 35 = .ok (.iaload, 1) := by decide +kernel
theorem dX8_closes_36 : decode cX8_closes 36 = .ok (.isub, 1) := by decide +kernel
theorem dX8_closes_37 : decode cX8_closes 37 = .ok (.bipush 15, 2) := by decide +kernel
theorem dX8_closes_39 : decode cX8_closes 39 = .ok (.if_icmp .ge 26, 3) := by decide +kernel
theorem dX8_closes_42 : decode cX8_closes 42 = .ok (.aload_n 0, 1) := by decide +kernel
theorem dX8_closes_43 : decode cX8_closes 43 = .ok (.aload_n 0, 1) := by decide +kernel
theorem dX8_closes_44 : decode cX8_closes 44 = .ok (.getfield 62, 3) := by decide +kernel
theorem dX8_closes_47 : decode cX8_closes 47 = .ok (.iload_n 3, 1) := by decide +kernel
theorem dX8_closes_48 : decode cX8_closes 48 = .ok (.iaload, 1) := by decide +kernel
theorem dX8_closes_49 : decode cX8_closes 49 = .ok (.aload_n 0, 1) := by decide +kernel
theorem dX8_closes_50 : decode cX8_closes 50 = .ok (.getfield 65, 3) := by decide +kernel
theorem dX8_closes_53 : decode cX8_closes 53 = .ok (.iload_n 3, 1) := by decide +kernel
theorem dX8_closes_54 : decode cX8_closes 54 = .ok (.iaload, 1) := by decide +kernel
theorem dX8_closes_55 : decode cX8_closes 55 = .ok (.aload_n 0, 1) := by decide +kernel
theorem dX8_closes_56 : decode cX8_closes 56 = .ok (.getfield 119, 3) := by decide +kernel
theorem dX8_closes_59 : decode cX8_closes 59 = .ok (.invokevirtual 134, 3) := by decide +kernel
theorem dX8_closes_62 : decode cX8_closes 62 = .ok (.ifCond .ne 11, 3) := by decide +kernel
theorem dX8_closes_65 : decode cX8_closes 65 = .ok (.aload_n 0, 1) := by decide +kernel
theorem dX8_closes_66 : decode cX8_closes 66 = .ok (.iload_n 3, 1) := by decide +kernel
theorem dX8_closes_67 : decode cX8_closes 67 = .ok (.invokevirtual 137, 3) := by decide +kernel
theorem dX8_closes_70 : decode cX8_closes 70 = .ok (.iinc 2 1, 3) := by decide +kernel
theorem dX8_closes_73 : decode cX8_closes 73 = .ok (.iinc 3 1, 3) := by decide +kernel
theorem dX8_closes_76 : decode cX8_closes 76 = .ok (.goto (-72), 3) := by decide +kernel
theorem dX8_closes_79 : decode cX8_closes 79 = .ok (.iload_n 2, 1) := by decide +kernel
theorem dX8_closes_80 : decode cX8_closes 80 = .ok (.ireturn, 1) := by decide +kernel
theorem dX8_setLabel_0 : decode cX8_setLabel 0 = .ok (.aload_n 0, 1) := by decide +kernel
theorem dX8_setLabel_1 : decode cX8_setLabel 1 = .ok (.aload_n 0, 1) := by decide +kernel
theorem dX8_setLabel_2 : decode cX8_setLabel 2 = .ok (.iload_n 1, 1) := by decide +kernel
theorem dX8_setLabel_3 : decode cX8_setLabel 3 = .ok (.invokevirtual 100, 3) := by decide +kernel
theorem dX8_setLabel_6 : decode cX8_setLabel 6 = .ok (.iload_n 2, 1) := by decide +kernel
theorem dX8_setLabel_7 : decode cX8_setLabel 7 = .ok (.iconst 0, 1) := by decide +kernel
theorem dX8_setLabel_8 : decode cX8_setLabel 8 = .ok (.iconst 3, 1) := by decide +kernel
theorem dX8_setLabel_9 : decode cX8_setLabel 9 = .ok (.invokestatic 93, 3) := by decide +kernel
theorem dX8_setLabel_12 : decode cX8_setLabel 12 = .ok (.iconst 1, 1) := by decide +kernel
theorem dX8_setLabel_13 : decode cX8_setLabel 13 = .ok (.invokevirtual 123, 3) := by decide +kernel
theorem dX8_setLabel_16 : decode cX8_setLabel 16 = .ok (.ifCond .ne 5, 3) := by decide +kernel
theorem dX8_setLabel_19 : decode cX8_setLabel 19 = .ok (.iconst 0, 1) := by decide +kernel
theorem dX8_setLabel_20 : decode cX8_setLabel 20 = .ok (.ireturn, 1) := by decide +kernel
theorem dX8_setLabel_21 : decode cX8_setLabel 21 = .ok (.aload_n 0, 1) := by decide +kernel
theorem dX8_setLabel_22 : decode cX8_setLabel 22 = .ok (.getfield 13, 3) := by decide +kernel
theorem dX8_setLabel_25 : decode cX8_setLabel 25 = .ok (.iconst 4, 1) := by decide +kernel
theorem dX8_setLabel_26 : decode cX8_setLabel 26 = .ok (.iload_n 1, 1) := by decide +kernel
theorem dX8_setLabel_27 : decode cX8_setLabel 27 = .ok (.imul, 1) := by decide +kernel
theorem dX8_setLabel_28 : decode cX8_setLabel 28 = .ok (.iload_n 2, 1) := by decide +kernel
theorem dX8_setLabel_29 : decode cX8_setLabel 29 = .ok (.iadd, 1) := by decide +kernel
theorem dX8_setLabel_30 : decode cX8_setLabel 30 = .ok (.iload_n 3, 1) := by decide +kernel
theorem dX8_setLabel_31 : decode cX8_setLabel 31 = .ok (.bastore, 1) := by decide +kernel
theorem dX8_setLabel_32 : decode cX8_setLabel 32 = .ok (.iconst 0, 1) := by decide +kernel
theorem dX8_setLabel_33 : decode cX8_setLabel 33 = .ok (.istore 4, 2) := by decide +kernel
theorem dX8_setLabel_35 : decode cX8_setLabel 35 = .ok (.iload 4, 2) := by decide +kernel
theorem dX8_setLabel_37 : decode cX8_setLabel 37 = .ok (.aload_n 0, 1) := by decide +kernel
theorem dX8_setLabel_38 : decode cX8_setLabel 38 = .ok (.getfield 97, 3) := by decide +kernel
theorem dX8_setLabel_41 : decode cX8_setLabel 41 = .ok (.if_icmp .ge 38, 3) := by decide +kernel
theorem dX8_setLabel_44 : decode cX8_setLabel 44 = .ok (.iload_n 3, 1) := by decide +kernel
theorem dX8_setLabel_45 : decode cX8_setLabel 45 = .ok (.ifCond .ne 34, 3) := by decide +kernel
theorem dX8_setLabel_48 : decode cX8_setLabel 48 = .ok (.aload_n 0, 1) := by decide +kernel
theorem dX8_setLabel_49 : decode cX8_setLabel 49 = .ok (.getfield 17, 3) := by decide +kernel
theorem dX8_setLabel_52 : decode cX8_setLabel 52 = .ok (.iload 4, 2) := by decide +kernel
theorem dX8_setLabel_54 : decode cX8_setLabel 54 = .ok (.iaload, 1) := by decide +kernel
theorem dX8_setLabel_55 : decode cX8_setLabel 55 = .ok (.iload_n 2, 1) := by decide +kernel
theorem dX8_setLabel_56 : decode cX8_setLabel 56 = .ok (.if_icmp .ne 17, 3) := by decide +kernel
theorem dX8_setLabel_59 : decode cX8_setLabel 59 = .ok (.aload_n 0, 1) := by decide +kernel
theorem dX8_setLabel_60 : decode cX8_setLabel 60 = .ok (.iload_n 1, 1) := by decide +kernel
theorem dX8_setLabel_61 : decode cX8_setLabel 61 = .ok (.iload 4, 2) := by decide +kernel
theorem dX8_setLabel_63 : decode cX8_setLabel 63 = .ok (.invokevirtual 141, 3) := by decide +kernel
theorem dX8_setLabel_66 : decode cX8_setLabel 66 = .ok (.aload_n 0, 1) := by decide +kernel
theorem dX8_setLabel_67 : decode cX8_setLabel 67 = .ok (.iload_n 1, 1) := by decide +kernel
theorem dX8_setLabel_68 : decode cX8_setLabel 68 = .ok (.iload 4, 2) := by decide +kernel
theorem dX8_setLabel_70 : decode cX8_setLabel 70 = .ok (.invokevirtual 145, 3) := by decide +kernel
theorem dX8_setLabel_73 : decode cX8_setLabel 73 = .ok (.iinc 4 1, 3) := by decide +kernel
theorem dX8_setLabel_76 : decode cX8_setLabel 76 = .ok (.goto (-41), 3) := by decide +kernel
theorem dX8_setLabel_79 : decode cX8_setLabel 79 = .ok (.iload_n 3, 1) := by decide +kernel
theorem dX8_setLabel_80 : decode cX8_setLabel 80 = .ok (.ifCond .eq 7, 3) := by decide +kernel
theorem dX8_setLabel_83 : decode cX8_setLabel 83 = .ok (.iconst 0, 1) := by decide +kernel
theorem dX8_setLabel_84 : decode cX8_setLabel 84 = .ok (.goto 8, 3) := by decide +kernel
theorem dX8_setLabel_87 : decode cX8_setLabel 87 = .ok (.aload_n 0, 1) := by decide +kernel
theorem dX8_setLabel_88 : decode cX8_setLabel 88 = .ok (.iconst (-1), 1) := by decide +kernel
theorem dX8_setLabel_89 : decode cX8_setLabel 89 = .ok (.invokevirtual 148, 3) := by decide +kernel
theorem dX8_setLabel_92 : decode cX8_setLabel 92 = .ok (.ireturn, 1) := by decide +kernel
theorem dX8_takeAway_0 : decode cX8_takeAway 0 = .ok (.aload_n 0, 1) := by decide +kernel
theorem dX8_takeAway_1 : decode cX8_takeAway 1 = .ok (.aload_n 0, 1) := by decide +kernel
theorem dX8_takeAway_2 : decode cX8_takeAway 2 = .ok (.iload_n 1, 1) := by decide +kernel
theorem dX8_takeAway_3 : decode cX8_takeAway 3 = .ok (.iload_n 2, 1) := by decide +kernel
theorem dX8_takeAway_4 : decode cX8_takeAway 4 = .ok (.invokevirtual 152, 3) := by decide +kernel
theorem dX8_takeAway_7 : decode cX8_takeAway 7 = .ok (.iconst 1, 1) := by decide +kernel
theorem dX8_takeAway_8 : decode cX8_takeAway 8 = .ok (.iconst 1, 1) := by decide +kernel
theorem dX8_takeAway_9 : decode cX8_takeAway 9 = .ok (.invokevirtual 123, 3) := by decide +kernel
theorem dX8_takeAway_12 : decode cX8_takeAway 12 = .ok (.ifCond .ne 5, 3) := by decide +kernel
theorem dX8_takeAway_15 : decode cX8_takeAway 15 = .ok (.iconst 0, 1) := by decide +kernel
theorem dX8_takeAway_16 : decode cX8_takeAway 16 = .ok (.ireturn, 1) := by decide +kernel
theorem dX8_takeAway_17 : decode cX8_takeAway 17 = .ok (.aload_n 0, 1) := by decide +kernel
theorem dX8_takeAway_18 : decode cX8_takeAway 18 = .ok (.iload_n 1, 1) := by decide +kernel
theorem dX8_takeAway_19 : decode cX8_takeAway 19 = .ok (.iload_n 2, 1) := by decide +kernel
theorem dX8_takeAway_20 : decode cX8_takeAway 20 = .ok (.invokevirtual 141, 3) := by decide +kernel
theorem dX8_takeAway_23 : decode cX8_takeAway 23 = .ok (.aload_n 0, 1) := by decide +kernel
theorem dX8_takeAway_24 : decode cX8_takeAway 24 = .ok (.iload_n 1, 1) := by decide +kernel
theorem dX8_takeAway_25 : decode cX8_takeAway 25 = .ok (.iload_n 2, 1) := by decide +kernel
theorem dX8_takeAway_26 : decode cX8_takeAway 26 = .ok (.invokevirtual 145, 3) := by decide +kernel
theorem dX8_takeAway_29 : decode cX8_takeAway 29 = .ok (.aload_n 0, 1) := by decide +kernel
theorem dX8_takeAway_30 : decode cX8_takeAway 30 = .ok (.iconst (-1), 1) := by decide +kernel
theorem dX8_takeAway_31 : decode cX8_takeAway 31 = .ok (.invokevirtual 148, 3) := by decide +kernel
theorem dX8_takeAway_34 : decode cX8_takeAway 34 = .ok (.ireturn, 1) := by decide +kernel
theorem dX8_overdues_0 : decode cX8_overdues 0 = .ok (.iconst 0, 1) := by decide +kernel
theorem dX8_overdues_1 : decode cX8_overdues 1 = .ok (.istore_n 2, 1) := by decide +kernel
theorem dX8_overdues_2 : decode cX8_overdues 2 = .ok (.iconst 0, 1) := by decide +kernel
theorem dX8_overdues_3 : decode cX8_overdues 3 = .ok (.istore_n 3, 1) := by decide +kernel
theorem dX8_overdues_4 : decode cX8_overdues 4 = .ok (.iload_n 3, 1) := by decide +kernel
theorem dX8_overdues_5 : decode cX8_overdues 5 = .ok (.aload_n 0, 1) := by decide +kernel
theorem dX8_overdues_6 : decode cX8_overdues 6 = .ok (.getfield 110, 3) := by decide +kernel
theorem dX8_overdues_9 : decode cX8_overdues 9 = .ok (.if_icmp .ge 53, 3) := by decide +kernel
theorem dX8_overdues_12 : decode cX8_overdues 12 = .ok (.iload_n 2, 1) := by decide +kernel
theorem dX8_overdues_13 : decode cX8_overdues 13 = .ok (.aload_n 0, 1) := by decide +kernel
theorem dX8_overdues_14 : decode cX8_overdues 14 = .ok (.getfield 50, 3) := by decide +kernel
theorem dX8_overdues_17 : decode cX8_overdues 17 = .ok (.iload_n 3, 1) := by decide +kernel
theorem dX8_overdues_18 : decode cX8_overdues 18 = .ok (.iaload, 1) := by decide +kernel
theorem dX8_overdues_19 : decode cX8_overdues 19 = .ok (.iload_n 1, 1) := by decide +kernel
theorem dX8_overdues_20 : decode cX8_overdues 20 = .ok (.if_icmp .ne 33, 3) := by decide +kernel
theorem dX8_overdues_23 : decode cX8_overdues 23 = .ok (.aload_n 0, 1) := by decide +kernel
theorem dX8_overdues_24 : decode cX8_overdues 24 = .ok (.getfield 59, 3) := by decide +kernel
theorem dX8_overdues_27 : decode cX8_overdues 27 = .ok (.iload_n 3, 1) := by decide +kernel
theorem dX8_overdues_28 : decode cX8_overdues 28 = .ok (.baload, 1) := by decide +kernel
theorem dX8_overdues_29 : decode cX8_overdues 29 = .ok (.ifCond .ne 24, 3) := by decide +kernel
theorem dX8_overdues_32 : decode cX8_overdues 32 = .ok (.aload_n 0, 1) := by decide +kernel
theorem dX8_overdues_33 : decode cX8_overdues 33 = .ok (.getfield 119, 3) := by decide +kernel
theorem dX8_overdues_36 : decode cX8_overdues 36 = .ok (.aload_n 0, 1) := by decide +kernel
theorem dX8_overdues_37 : decode cX8_overdues 37 = .ok (.getfield 56, 3) := by decide +kernel
theorem dX8_overdues_40 : decode cX8_overdues 40 = .ok (.iload_n 3, 1) := by decide +kernel
theorem dX8_overdues_41 : decode cX8_overdues 41 = .ok (.iaload, 1) := by decide +kernel
theorem dX8_overdues_42 : decode cX8_overdues 42 = .ok (.isub, 1) := by decide +kernel
theorem dX8_overdues_43 : decode cX8_overdues 43 = .ok (.sipush 1440, 3) := by decide +kernel
theorem dX8_overdues_46 : decode cX8_overdues 46 = .ok (.if_icmp .lt 7, 3) := by decide +kernel
theorem dX8_overdues_49 : decode cX8_overdues 49 = .ok (.iconst 1, 1) := by decide +kernel
theorem dX8_overdues_50 : decode cX8_overdues 50 = .ok (.goto 4, 3) := by decide +kernel
theorem dX8_overdues_53 : decode cX8_overdues 53 = .ok (.iconst 0, 1) := by decide +kernel
theorem dX8_overdues_54 : decode cX8_overdues 54 = .ok (.iadd, 1) := by decide +kernel
theorem dX8_overdues_55 : decode cX8_overdues 55 = .ok (.istore_n 2, 1) := by decide +kernel
theorem dX8_overdues_56 : decode cX8_overdues 56 = .ok (.iinc 3 1, 3) := by decide +kernel
theorem dX8_overdues_59 : decode cX8_overdues 59 = .ok (.goto (-55), 3) := by decide +kernel
theorem dX8_overdues_62 : decode cX8_overdues 62 = .ok (.iload_n 2, 1) := by decide +kernel
theorem dX8_overdues_63 : decode cX8_overdues 63 = .ok (.ireturn, 1) := by decide +kernel
theorem dX8_canAsk_0 : decode cX8_canAsk 0 = .ok (.aload_n 0, 1) := by decide +kernel
theorem dX8_canAsk_1 : decode cX8_canAsk 1 = .ok (.iload_n 1, 1) := by decide +kernel
theorem dX8_canAsk_2 : decode cX8_canAsk 2 = .ok (.iload_n 2, 1) := by decide +kernel
theorem dX8_canAsk_3 : decode cX8_canAsk 3 = .ok (.invokevirtual 152, 3) := by decide +kernel
theorem dX8_canAsk_6 : decode cX8_canAsk 6 = .ok (.ifCond .eq 24, 3) := by decide +kernel
theorem dX8_canAsk_9 : decode cX8_canAsk 9 = .ok (.aload_n 0, 1) := by decide +kernel
theorem dX8_canAsk_10 : decode cX8_canAsk 10 = .ok (.iload_n 1, 1) := by decide +kernel
theorem dX8_canAsk_11 : decode cX8_canAsk 11 = .ok (.iload_n 2, 1) := by decide +kernel
theorem dX8_canAsk_12 : decode cX8_canAsk 12 = .ok (.invokevirtual 156, 3) := by decide +kernel
theorem dX8_canAsk_15 : decode cX8_canAsk 15 = .ok (.ifCond .eq 15, 3) := by decide +kernel
theorem dX8_canAsk_18 : decode cX8_canAsk 18 = .ok (.aload_n 0, 1) := by decide +kernel
theorem dX8_canAsk_19 : decode cX8_canAsk 19 = .ok (.iload_n 1, 1) := by decide +kernel
theorem dX8_canAsk_20 : decode cX8_canAsk 20 = .ok (.invokevirtual 159, 3) := by decide +kernel
theorem dX8_canAsk_23 : decode cX8_canAsk 23 = .ok (.ifCond .ne 7, 3) := by decide +kernel
theorem dX8_canAsk_26 : decode cX8_canAsk 26 = .ok (.iconst 1, 1) := by decide +kernel
theorem dX8_canAsk_27 : decode cX8_canAsk 27 = .ok (.goto 4, 3) := by decide +kernel
theorem dX8_canAsk_30 : decode cX8_canAsk 30 = .ok (.iconst 0, 1) := by decide +kernel
theorem dX8_canAsk_31 : decode cX8_canAsk 31 = .ok (.ireturn, 1) := by decide +kernel
theorem dX8_ask_0 : decode cX8_ask 0 = .ok (.aload_n 0, 1) := by decide +kernel
theorem dX8_ask_1 : decode cX8_ask 1 = .ok (.aload_n 0, 1) := by decide +kernel
theorem dX8_ask_2 : decode cX8_ask 2 = .ok (.iload_n 1, 1) := by decide +kernel
theorem dX8_ask_3 : decode cX8_ask 3 = .ok (.iload_n 2, 1) := by decide +kernel
theorem dX8_ask_4 : decode cX8_ask 4 = .ok (.invokevirtual 152, 3) := by decide +kernel
theorem dX8_ask_7 : decode cX8_ask 7 = .ok (.iload_n 3, 1) := by decide +kernel
theorem dX8_ask_8 : decode cX8_ask 8 = .ok (.iconst 1, 1) := by decide +kernel
theorem dX8_ask_9 : decode cX8_ask 9 = .ok (.sipush 600, 3) := by decide +kernel
theorem dX8_ask_12 : decode cX8_ask 12 = .ok (.invokestatic 93, 3) := by decide +kernel
theorem dX8_ask_15 : decode cX8_ask 15 = .ok (.aload_n 0, 1) := by decide +kernel
theorem dX8_ask_16 : decode cX8_ask 16 = .ok (.iload_n 1, 1) := by decide +kernel
theorem dX8_ask_17 : decode cX8_ask 17 = .ok (.iload_n 2, 1) := by decide +kernel
theorem dX8_ask_18 : decode cX8_ask 18 = .ok (.invokevirtual 162, 3) := by decide +kernel
theorem dX8_ask_21 : decode cX8_ask 21 = .ok (.invokevirtual 123, 3) := by decide +kernel
theorem dX8_ask_24 : decode cX8_ask 24 = .ok (.ifCond .ne 5, 3) := by decide +kernel
theorem dX8_ask_27 : decode cX8_ask 27 = .ok (.iconst 0, 1) := by decide +kernel
theorem dX8_ask_28 : decode cX8_ask 28 = .ok (.ireturn, 1) := by decide +kernel
theorem dX8_ask_29 : decode cX8_ask 29 = .ok (.aload_n 0, 1) := by decide +kernel
theorem dX8_ask_30 : decode cX8_ask 30 = .ok (.getfield 32, 3) := by decide +kernel
theorem dX8_ask_33 : decode cX8_ask 33 = .ok (.aload_n 0, 1) := by decide +kernel
theorem dX8_ask_34 : decode cX8_ask 34 = .ok (.getfield 107, 3) := by decide +kernel
theorem dX8_ask_37 : decode cX8_ask 37 = .ok (.iload_n 1, 1) := by decide +kernel
theorem dX8_ask_38 : decode cX8_ask 38 = .ok (.iastore, 1) := by decide +kernel
theorem dX8_ask_39 : decode cX8_ask 39 = .ok (.aload_n 0, 1) := by decide +kernel
theorem dX8_ask_40 : decode cX8_ask 40 = .ok (.getfield 35, 3) := by decide +kernel
theorem dX8_ask_43 : decode cX8_ask 43 = .ok (.aload_n 0, 1) := by decide +kernel
theorem dX8_ask_44 : decode cX8_ask 44 = .ok (.getfield 107, 3) := by decide +kernel
theorem dX8_ask_47 : decode cX8_ask 47 = .ok (.iload_n 2, 1) := by decide +kernel
theorem dX8_ask_48 : decode cX8_ask 48 = .ok (.iastore, 1) := by decide +kernel
theorem dX8_ask_49 : decode cX8_ask 49 = .ok (.aload_n 0, 1) := by decide +kernel
theorem dX8_ask_50 : decode cX8_ask 50 = .ok (.getfield 38, 3) := by decide +kernel
theorem dX8_ask_53 : decode cX8_ask 53 = .ok (.aload_n 0, 1) := by decide +kernel
theorem dX8_ask_54 : decode cX8_ask 54 = .ok (.getfield 107, 3) := by decide +kernel
theorem dX8_ask_57 : decode cX8_ask 57 = .ok (.iload_n 3, 1) := by decide +kernel
theorem dX8_ask_58 : decode cX8_ask 58 = .ok (.iastore, 1) := by decide +kernel
theorem dX8_ask_59 : decode cX8_ask 59 = .ok (.aload_n 0, 1) := by decide +kernel
theorem dX8_ask_60 : decode cX8_ask 60 = .ok (.getfield 41, 3) := by decide +kernel
theorem dX8_ask_63 : decode cX8_ask 63 = .ok (.aload_n 0, 1) := by decide +kernel
theorem dX8_ask_64 : decode cX8_ask 64 = .ok (.getfield 107, 3) := by decide +kernel
theorem dX8_ask_67 : decode cX8_ask 67 = .ok (.aload_n 0, 1) := by decide +kernel
theorem dX8_ask_68 : decode cX8_ask 68 = .ok (.getfield 119, 3) := by decide +kernel
theorem dX8_ask_71 : decode cX8_ask 71 = .ok (.iastore, 1) := by decide +kernel
theorem dX8_ask_72 : decode cX8_ask 72 = .ok (.aload_n 0, 1) := by decide +kernel
theorem dX8_ask_73 : decode cX8_ask 73 = .ok (.getfield 44, 3) := by decide +kernel
theorem dX8_ask_76 : decode cX8_ask 76 = .ok (.aload_n 0, 1) := by decide +kernel
theorem dX8_ask_77 : decode cX8_ask 77 = .ok (.getfield 107, 3) := by decide +kernel
theorem dX8_ask_80 : decode cX8_ask 80 = .ok (.iconst 0, 1) := by decide +kernel
theorem dX8_ask_81 : decode cX8_ask 81 = .ok (.iastore, 1) := by decide +kernel
theorem dX8_ask_82 : decode cX8_ask 82 = .ok (.aload_n 0, 1) := by decide +kernel
theorem dX8_ask_83 : decode cX8_ask 83 = .ok (.getfield 47, 3) := by decide +kernel
theorem dX8_ask_86 : decode cX8_ask 86 = .ok (.aload_n 0, 1) := by decide +kernel
theorem dX8_ask_87 : decode cX8_ask 87 = .ok (.getfield 107, 3) := by decide +kernel
theorem dX8_ask_90 : decode cX8_ask 90 = .ok (.iconst (-1), 1) := by decide +kernel
theorem dX8_ask_91 : decode cX8_ask 91 = .ok (.iastore, 1) := by decide +kernel
theorem dX8_ask_92 : decode cX8_ask 92 = .ok (.aload_n 0, 1) := by decide +kernel
theorem dX8_ask_93 : decode cX8_ask 93 = .ok (.dup, 1) := by decide +kernel
theorem dX8_ask_94 : decode cX8_ask 94 = .ok (.getfield 107, 3) := by decide +kernel
theorem dX8_ask_97 : decode cX8_ask 97 = .ok (.iconst 1, 1) := by decide +kernel
theorem dX8_ask_98 : decode cX8_ask 98 = .ok (.iadd, 1) := by decide +kernel
theorem dX8_ask_99 : decode cX8_ask 99 = .ok (.putfield 107, 3) := by decide +kernel
theorem dX8_ask_102 : decode cX8_ask 102 = .ok (.aload_n 0, 1) := by decide +kernel
theorem dX8_ask_103 : decode cX8_ask 103 = .ok (.iconst 0, 1) := by decide +kernel
theorem dX8_ask_104 : decode cX8_ask 104 = .ok (.iload_n 1, 1) := by decide +kernel
theorem dX8_ask_105 : decode cX8_ask 105 = .ok (.iload_n 2, 1) := by decide +kernel
theorem dX8_ask_106 : decode cX8_ask 106 = .ok (.invokevirtual 130, 3) := by decide +kernel
theorem dX8_ask_109 : decode cX8_ask 109 = .ok (.aload_n 0, 1) := by decide +kernel
theorem dX8_ask_110 : decode cX8_ask 110 = .ok (.getfield 107, 3) := by decide +kernel
theorem dX8_ask_113 : decode cX8_ask 113 = .ok (.iconst 1, 1) := by decide +kernel
theorem dX8_ask_114 : decode cX8_ask 114 = .ok (.isub, 1) := by decide +kernel
theorem dX8_ask_115 : decode cX8_ask 115 = .ok (.ireturn, 1) := by decide +kernel
theorem dX8_canJudge_0 : decode cX8_canJudge 0 = .ok (.aload_n 0, 1) := by decide +kernel
theorem dX8_canJudge_1 : decode cX8_canJudge 1 = .ok (.iload_n 1, 1) := by decide +kernel
theorem dX8_canJudge_2 : decode cX8_canJudge 2 = .ok (.invokevirtual 165, 3) := by decide +kernel
theorem dX8_canJudge_5 : decode cX8_canJudge 5 = .ok (.ifCond .eq 58, 3) := by decide +kernel
theorem dX8_canJudge_8 : decode cX8_canJudge 8 = .ok (.aload_n 0, 1) := by decide +kernel
theorem dX8_canJudge_9 : decode cX8_canJudge 9 = .ok (.iload_n 2, 1) := by decide +kernel
theorem dX8_canJudge_10 : decode cX8_canJudge 10 = .ok (.invokevirtual 100, 3) := by decide +kernel
theorem dX8_canJudge_13 : decode cX8_canJudge 13 = .ok (.ifCond .eq 50, 3) := by decide +kernel
theorem dX8_canJudge_16 : decode cX8_canJudge 16 = .ok (.aload_n 0, 1) := by decide +kernel
theorem dX8_canJudge_17 : decode cX8_canJudge 17 = .ok (.getfield 44, 3) := by decide +kernel
theorem dX8_canJudge_20 : decode cX8_canJudge 20 = .ok (.iload_n 1, 1) := by decide +kernel
theorem dX8_canJudge_21 : decode cX8_canJudge 21 = .ok (.iaload, 1) := by decide +kernel
theorem dX8_canJudge_22 : decode cX8_canJudge 22 = .ok (.ifCond .ne 41, 3) := by decide +kernel
theorem dX8_canJudge_25 : decode cX8_canJudge 25 = .ok (.aload_n 0, 1) := by decide +kernel
theorem dX8_canJudge_26 : decode cX8_canJudge 26 = .ok (.getfield 7, 3) := by decide +kernel
theorem dX8_canJudge_29 : decode cX8_canJudge 29 = .ok (.iload_n 2, 1) := by decide +kernel
theorem dX8_canJudge_30 : decode cX8_canJudge 30 = .ok (.iaload, 1) := by decide +kernel
theorem dX8_canJudge_31 : decode cX8_canJudge 31 = .ok (.aload_n 0, 1) := by decide +kernel
theorem dX8_canJudge_32 : decode cX8_canJudge 32 = .ok (.getfield 7, 3) := by decide +kernel
theorem dX8_canJudge_35 : decode cX8_canJudge 35 = .ok (.aload_n 0, 1) := by decide +kernel
theorem dX8_canJudge_36 : decode cX8_canJudge 36 = .ok (.getfield 32, 3) := by decide +kernel
theorem dX8_canJudge_39 : decode cX8_canJudge 39 = .ok (.iload_n 1, 1) := by decide +kernel
theorem dX8_canJudge_40 : decode cX8_canJudge 40 = .ok (.iaload, 1) := by decide +kernel
theorem dX8_canJudge_41 : decode cX8_canJudge 41 = .ok (.iaload, 1) := by decide +kernel
theorem dX8_canJudge_42 : decode cX8_canJudge 42 = .ok (.if_icmp .eq 21, 3) := by decide +kernel
theorem dX8_canJudge_45 : decode cX8_canJudge 45 = .ok (.aload_n 0, 1) := by decide +kernel
theorem dX8_canJudge_46 : decode cX8_canJudge 46 = .ok (.iload_n 2, 1) := by decide +kernel
theorem dX8_canJudge_47 : decode cX8_canJudge 47 = .ok (.aload_n 0, 1) := by decide +kernel
theorem dX8_canJudge_48 : decode cX8_canJudge 48 = .ok (.getfield 35, 3) := by decide +kernel
theorem dX8_canJudge_51 : decode cX8_canJudge 51 = .ok (.iload_n 1, 1) := by decide +kernel
theorem dX8_canJudge_52 : decode cX8_canJudge 52 = .ok (.iaload, 1) := by decide +kernel
theorem dX8_canJudge_53 : decode cX8_canJudge 53 = .ok (.invokevirtual 156, 3) := by decide +kernel
theorem dX8_canJudge_56 : decode cX8_canJudge 56 = .ok (.ifCond .eq 7, 3) := by decide +kernel
theorem dX8_canJudge_59 : decode cX8_canJudge 59 = .ok (.iconst 1, 1) := by decide +kernel
theorem dX8_canJudge_60 : decode cX8_canJudge 60 = .ok (.goto 4, 3) := by decide +kernel
theorem dX8_canJudge_63 : decode cX8_canJudge 63 = .ok (.iconst 0, 1) := by decide +kernel
theorem dX8_canJudge_64 : decode cX8_canJudge 64 = .ok (.ireturn, 1) := by decide +kernel
theorem dX8_approve_0 : decode cX8_approve 0 = .ok (.aload_n 0, 1) := by decide +kernel
theorem dX8_approve_1 : decode cX8_approve 1 = .ok (.iload_n 1, 1) := by decide +kernel
theorem dX8_approve_2 : decode cX8_approve 2 = .ok (.iload_n 2, 1) := by decide +kernel
theorem dX8_approve_3 : decode cX8_approve 3 = .ok (.invokevirtual 168, 3) := by decide +kernel
theorem dX8_approve_6 : decode cX8_approve 6 = .ok (.istore_n 3, 1) := by decide +kernel
theorem dX8_approve_7 : decode cX8_approve 7 = .ok (.aload_n 0, 1) := by decide +kernel
theorem dX8_approve_8 : decode cX8_approve 8 = .ok (.aload_n 0, 1) := by decide +kernel
theorem dX8_approve_9 : decode cX8_approve 9 = .ok (.iload_n 1, 1) := by decide +kernel
theorem dX8_approve_10 : decode cX8_approve 10 = .ok (.invokevirtual 165, 3) := by decide +kernel
theorem dX8_approve_13 : decode cX8_approve 13 = .ok (.ifCond .eq 15, 3) := by decide +kernel
theorem dX8_approve_16 : decode cX8_approve 16 = .ok (.aload_n 0, 1) := by decide +kernel
theorem dX8_approve_17 : decode cX8_approve 17 = .ok (.iload_n 2, 1) := by decide +kernel
theorem dX8_approve_18 : decode cX8_approve 18 = .ok (.invokevirtual 100, 3) := by decide +kernel
theorem dX8_approve_21 : decode cX8_approve 21 = .ok (.ifCond .eq 7, 3) := by decide +kernel
theorem dX8_approve_24 : decode cX8_approve 24 = .ok (.iconst 1, 1) := by decide +kernel
theorem dX8_approve_25 : decode cX8_approve 25 = .ok (.goto 4, 3) := by decide +kernel
theorem dX8_approve_28 : decode cX8_approve 28 = .ok (.iconst 0, 1) := by decide +kernel
theorem dX8_approve_29 : decode cX8_approve 29 = .ok (.iload_n 3, 1) := by decide +kernel
theorem dX8_approve_30 : decode cX8_approve 30 = .ok (.ifCond .eq 17, 3) := by decide +kernel
theorem dX8_approve_33 : decode cX8_approve 33 = .ok (.aload_n 0, 1) := by decide +kernel
theorem dX8_approve_34 : decode cX8_approve 34 = .ok (.getfield 47, 3) := by decide +kernel
theorem dX8_approve_37 : decode cX8_approve 37 = .ok (.iload_n 1, 1) := by decide +kernel
theorem dX8_approve_38 : decode cX8_approve 38 = .ok (.iaload, 1) := by decide +kernel
theorem dX8_approve_39 : decode cX8_approve 39 = .ok (.iload_n 2, 1) := by decide +kernel
theorem dX8_approve_40 : decode cX8_approve 40 = .ok (.if_icmp .eq 7, 3) := by decide +kernel
theorem dX8_approve_43 : decode cX8_approve 43 = .ok (.iconst 1, 1) := by decide +kernel
theorem dX8_approve_44 : decode cX8_approve 44 = .ok (.goto 4, 3) := by decide +kernel
theorem dX8_approve_47 : decode cX8_approve 47 = .ok (.iconst 0, 1) := by decide +kernel
theorem dX8_approve_48 : decode cX8_approve 48 = .ok (.iconst 1, 1) := by decide +kernel
theorem dX8_approve_49 : decode cX8_approve 49 = .ok (.invokevirtual 123, 3) := by decide +kernel
theorem dX8_approve_52 : decode cX8_approve 52 = .ok (.ifCond .ne 5, 3) := by decide +kernel
theorem dX8_approve_55 : decode cX8_approve 55 = .ok (.iconst 0, 1) := by decide +kernel
theorem dX8_approve_56 : decode cX8_approve 56 = .ok (.ireturn, 1) := by decide +kernel
theorem dX8_approve_57 : decode cX8_approve 57 = .ok (.aload_n 0, 1) := by decide +kernel
theorem dX8_approve_58 : decode cX8_approve 58 = .ok (.iconst 1, 1) := by decide +kernel
theorem dX8_approve_59 : decode cX8_approve 59 = .ok (.iload_n 2, 1) := by decide +kernel
theorem dX8_approve_60 : decode cX8_approve 60 = .ok (.aload_n 0, 1) := by decide +kernel
theorem dX8_approve_61 : decode cX8_approve 61 = .ok (.getfield 35, 3) := by decide +kernel
theorem dX8_approve_64 : decode cX8_approve 64 = .ok (.iload_n 1, 1) := by decide +kernel
theorem dX8_approve_65 : decode cX8_approve 65 = .ok (.iaload, 1) := by decide +kernel
theorem dX8_approve_66 : decode cX8_approve 66 = .ok (.invokevirtual 130, 3) := by decide +kernel
theorem dX8_approve_69 : decode cX8_approve 69 = .ok (.aload_n 0, 1) := by decide +kernel
theorem dX8_approve_70 : decode cX8_approve 70 = .ok (.getfield 47, 3) := by decide +kernel
theorem dX8_approve_73 : decode cX8_approve 73 = .ok (.iload_n 1, 1) := by decide +kernel
theorem dX8_approve_74 : decode cX8_approve 74 = .ok (.iaload, 1) := by decide +kernel
theorem dX8_approve_75 : decode cX8_approve 75 = .ok (.iconst (-1), 1) := by decide +kernel
theorem dX8_approve_76 : decode cX8_approve 76 = .ok (.if_icmp .ne 12, 3) := by decide +kernel
theorem dX8_approve_79 : decode cX8_approve 79 = .ok (.aload_n 0, 1) := by decide +kernel
theorem dX8_approve_80 : decode cX8_approve 80 = .ok (.getfield 47, 3) := by decide +kernel
theorem dX8_approve_83 : decode cX8_approve 83 = .ok (.iload_n 1, 1) := by decide +kernel
theorem dX8_approve_84 : decode cX8_approve 84 = .ok (.iload_n 2, 1) := by decide +kernel
theorem dX8_approve_85 : decode cX8_approve 85 = .ok (.iastore, 1) := by decide +kernel
theorem dX8_approve_86 : decode cX8_approve 86 = .ok (.iconst 0, 1) := by decide +kernel
theorem dX8_approve_87 : decode cX8_approve 87 = .ok (.ireturn, 1) := by decide +kernel
theorem dX8_approve_88 : decode cX8_approve 88 = .ok (.aload_n 0, 1) := by decide +kernel
theorem dX8_approve_89 : decode cX8_approve 89 = .ok (.getfield 44, 3) := by decide +kernel
theorem dX8_approve_92 : decode cX8_approve 92 = .ok (.iload_n 1, 1) := by decide +kernel
theorem dX8_approve_93 : decode cX8_approve 93 = .ok (.iconst 1, 1) := by decide +kernel
theorem dX8_approve_94 : decode cX8_approve 94 = .ok (.iastore, 1) := by decide +kernel
theorem dX8_approve_95 : decode cX8_approve 95 = .ok (.aload_n 0, 1) := by decide +kernel
theorem dX8_approve_96 : decode cX8_approve 96 = .ok (.aload_n 0, 1) := by decide +kernel
theorem dX8_approve_97 : decode cX8_approve 97 = .ok (.getfield 32, 3) := by decide +kernel
theorem dX8_approve_100 : decode cX8_approve 100 = .ok (.iload_n 1, 1) := by decide +kernel
theorem dX8_approve_101 : decode cX8_approve 101 = .ok (.iaload, 1) := by decide +kernel
theorem dX8_approve_102 : decode cX8_approve 102 = .ok (.aload_n 0, 1) := by decide +kernel
theorem dX8_approve_103 : decode cX8_approve 103 = .ok (.getfield 35, 3) := by decide +kernel
theorem dX8_approve_106 : decode cX8_approve 106 = .ok (.iload_n 1, 1) := by decide +kernel
theorem dX8_approve_107 : decode cX8_approve 107 = .ok (.iaload, 1) := by decide +kernel
theorem dX8_approve_108 : decode cX8_approve 108 = .ok (.aload_n 0, 1) := by decide +kernel
theorem dX8_approve_109 : decode cX8_approve 109 = .ok (.getfield 38, 3) := by decide +kernel
theorem dX8_approve_112 : decode cX8_approve 112 = .ok (.iload_n 1, 1) := by decide +kernel
theorem dX8_approve_113 : decode cX8_approve 113 = .ok (.iaload, 1) := by decide +kernel
theorem dX8_approve_114 : decode cX8_approve 114 = .ok (.invokevirtual 171, 3) := by decide +kernel
theorem dX8_approve_117 : decode cX8_approve 117 = .ok (.iconst 1, 1) := by decide +kernel
theorem dX8_approve_118 : decode cX8_approve 118 = .ok (.ireturn, 1) := by decide +kernel
theorem dX8_deny_0 : decode cX8_deny 0 = .ok (.aload_n 0, 1) := by decide +kernel
theorem dX8_deny_1 : decode cX8_deny 1 = .ok (.aload_n 0, 1) := by decide +kernel
theorem dX8_deny_2 : decode cX8_deny 2 = .ok (.iload_n 1, 1) := by decide +kernel
theorem dX8_deny_3 : decode cX8_deny 3 = .ok (.invokevirtual 165, 3) := by decide +kernel
theorem dX8_deny_6 : decode cX8_deny 6 = .ok (.ifCond .eq 15, 3) := by decide +kernel
theorem dX8_deny_9 : decode cX8_deny 9 = .ok (.aload_n 0, 1) := by decide +kernel
theorem dX8_deny_10 : decode cX8_deny 10 = .ok (.iload_n 2, 1) := by decide +kernel
theorem dX8_deny_11 : decode cX8_deny 11 = .ok (.invokevirtual 100, 3) := by decide +kernel
theorem dX8_deny_14 : decode cX8_deny 14 = .ok (.ifCond .eq 7, 3) := by decide +kernel
theorem dX8_deny_17 : decode cX8_deny 17 = .ok (.iconst 1, 1) := by decide +kernel
theorem dX8_deny_18 : decode cX8_deny 18 = .ok (.goto 4, 3) := by decide +kernel
theorem dX8_deny_21 : decode cX8_deny 21 = .ok (.iconst 0, 1) := by decide +kernel
theorem dX8_deny_22 : decode cX8_deny 22 = .ok (.aload_n 0, 1) := by decide +kernel
theorem dX8_deny_23 : decode cX8_deny 23 = .ok (.iload_n 1, 1) := by decide +kernel
theorem dX8_deny_24 : decode cX8_deny 24 = .ok (.iload_n 2, 1) := by decide +kernel
theorem dX8_deny_25 : decode cX8_deny 25 = .ok (.invokevirtual 168, 3) := by decide +kernel
theorem dX8_deny_28 : decode cX8_deny 28 = .ok (.iconst 1, 1) := by decide +kernel
theorem dX8_deny_29 : decode cX8_deny 29 = .ok (.invokevirtual 123, 3) := by decide +kernel
theorem dX8_deny_32 : decode cX8_deny 32 = .ok (.ifCond .eq 22, 3) := by decide +kernel
theorem dX8_deny_35 : decode cX8_deny 35 = .ok (.aload_n 0, 1) := by decide +kernel
theorem dX8_deny_36 : decode cX8_deny 36 = .ok (.getfield 44, 3) := by decide +kernel
theorem dX8_deny_39 : decode cX8_deny 39 = .ok (.iload_n 1, 1) := by decide +kernel
theorem dX8_deny_40 : decode cX8_deny 40 = .ok (.iconst 2, 1) := by decide +kernel
theorem dX8_deny_41 : decode cX8_deny 41 = .ok (.iastore, 1) := by decide +kernel
theorem dX8_deny_42 : decode cX8_deny 42 = .ok (.aload_n 0, 1) := by decide +kernel
theorem dX8_deny_43 : decode cX8_deny 43 = .ok (.iconst 2, 1) := by decide +kernel
theorem dX8_deny_44 : decode cX8_deny 44 = .ok (.iload_n 2, 1) := by decide +kernel
theorem dX8_deny_45 : decode cX8_deny 45 = .ok (.aload_n 0, 1) := by decide +kernel
theorem dX8_deny_46 : decode cX8_deny 46 = .ok (.getfield 35, 3) := by decide +kernel
theorem dX8_deny_49 : decode cX8_deny 49 = .ok (.iload_n 1, 1) := by decide +kernel
theorem dX8_deny_50 : decode cX8_deny 50 = .ok (.iaload, 1) := by decide +kernel
theorem dX8_deny_51 : decode cX8_deny 51 = .ok (.invokevirtual 130, 3) := by decide +kernel
theorem dX8_deny_54 : decode cX8_deny 54 = .ok (.return_, 1) := by decide +kernel
theorem dX8_askState_0 : decode cX8_askState 0 = .ok (.aload_n 0, 1) := by decide +kernel
theorem dX8_askState_1 : decode cX8_askState 1 = .ok (.aload_n 0, 1) := by decide +kernel
theorem dX8_askState_2 : decode cX8_askState 2 = .ok (.iload_n 1, 1) := by decide +kernel
theorem dX8_askState_3 : decode cX8_askState 3 = .ok (.invokevirtual 165, 3) := by decide +kernel
theorem dX8_askState_6 : decode cX8_askState 6 = .ok (.iconst 1, 1) := by decide +kernel
theorem dX8_askState_7 : decode cX8_askState 7 = .ok (.iconst 1, 1) := by decide +kernel
theorem dX8_askState_8 : decode cX8_askState 8 = .ok (.invokevirtual 123, 3) := by decide +kernel
theorem dX8_askState_11 : decode cX8_askState 11 = .ok (.ifCond .eq 12, 3) := by decide +kernel
theorem dX8_askState_14 : decode cX8_askState 14 = .ok (.aload_n 0, 1) := by decide +kernel
theorem dX8_askState_15 : decode cX8_askState 15 = .ok (.getfield 44, 3) := by decide +kernel
theorem dX8_askState_18 : decode cX8_askState 18 = .ok (.iload_n 1, 1) := by decide +kernel
theorem dX8_askState_19 : decode cX8_askState 19 = .ok (.iaload, 1) := by decide +kernel
theorem dX8_askState_20 : decode cX8_askState 20 = .ok (.goto 4, 3) := by decide +kernel
theorem dX8_askState_23 : decode cX8_askState 23 = .ok (.iconst 0, 1) := by decide +kernel
theorem dX8_askState_24 : decode cX8_askState 24 = .ok (.ireturn, 1) := by decide +kernel
theorem dX8_enter_0 : decode cX8_enter 0 = .ok (.aload_n 0, 1) := by decide +kernel
theorem dX8_enter_1 : decode cX8_enter 1 = .ok (.aload_n 0, 1) := by decide +kernel
theorem dX8_enter_2 : decode cX8_enter 2 = .ok (.iload_n 1, 1) := by decide +kernel
theorem dX8_enter_3 : decode cX8_enter 3 = .ok (.iload_n 2, 1) := by decide +kernel
theorem dX8_enter_4 : decode cX8_enter 4 = .ok (.invokevirtual 152, 3) := by decide +kernel
theorem dX8_enter_7 : decode cX8_enter 7 = .ok (.aload_n 0, 1) := by decide +kernel
theorem dX8_enter_8 : decode cX8_enter 8 = .ok (.iload_n 1, 1) := by decide +kernel
theorem dX8_enter_9 : decode cX8_enter 9 = .ok (.iload_n 2, 1) := by decide +kernel
theorem dX8_enter_10 : decode cX8_enter 10 = .ok (.invokevirtual 162, 3) := by decide +kernel
theorem dX8_enter_13 : decode cX8_enter 13 = .ok (.iconst 1, 1) := by decide +kernel
theorem dX8_enter_14 : decode cX8_enter 14 = .ok (.invokevirtual 123, 3) := by decide +kernel
theorem dX8_enter_17 : decode cX8_enter 17 = .ok (.ifCond .ne 5, 3) := by decide +kernel
theorem dX8_enter_20 : decode cX8_enter 20 = .ok (.iconst 0, 1) := by decide +kernel
theorem dX8_enter_21 : decode cX8_enter 21 = .ok (.ireturn, 1) := by decide +kernel
theorem dX8_enter_22 : decode cX8_enter 22 = .ok (.aload_n 0, 1) := by decide +kernel
theorem dX8_enter_23 : decode cX8_enter 23 = .ok (.getfield 50, 3) := by decide +kernel
theorem dX8_enter_26 : decode cX8_enter 26 = .ok (.aload_n 0, 1) := by decide +kernel
theorem dX8_enter_27 : decode cX8_enter 27 = .ok (.getfield 110, 3) := by decide +kernel
theorem dX8_enter_30 : decode cX8_enter 30 = .ok (.iload_n 1, 1) := by decide +kernel
theorem dX8_enter_31 : decode cX8_enter 31 = .ok (.iastore, 1) := by decide +kernel
theorem dX8_enter_32 : decode cX8_enter 32 = .ok (.aload_n 0, 1) := by decide +kernel
theorem dX8_enter_33 : decode cX8_enter 33 = .ok (.getfield 53, 3) := by decide +kernel
theorem dX8_enter_36 : decode cX8_enter 36 = .ok (.aload_n 0, 1) := by decide +kernel
theorem dX8_enter_37 : decode cX8_enter 37 = .ok (.getfield 110, 3) := by decide +kernel
theorem dX8_enter_40 : decode cX8_enter 40 = .ok (.iload_n 2, 1) := by decide +kernel
theorem dX8_enter_41 : decode cX8_enter 41 = .ok (.iastore, 1) := by decide +kernel
theorem dX8_enter_42 : decode cX8_enter 42 = .ok (.aload_n 0, 1) := by decide +kernel
theorem dX8_enter_43 : decode cX8_enter 43 = .ok (.getfield 56, 3) := by decide +kernel
theorem dX8_enter_46 : decode cX8_enter 46 = .ok (.aload_n 0, 1) := by decide +kernel
theorem dX8_enter_47 : decode cX8_enter 47 = .ok (.getfield 110, 3) := by decide +kernel
theorem dX8_enter_50 : decode cX8_enter 50 = .ok (.aload_n 0, 1) := by decide +kernel
theorem dX8_enter_51 : decode cX8_enter 51 = .ok (.getfield 119, 3) := by decide +kernel
theorem dX8_enter_54 : decode cX8_enter 54 = .ok (.iastore, 1) := by decide +kernel
theorem dX8_enter_55 : decode cX8_enter 55 = .ok (.aload_n 0, 1) := by decide +kernel
theorem dX8_enter_56 : decode cX8_enter 56 = .ok (.dup, 1) := by decide +kernel
theorem dX8_enter_57 : decode cX8_enter 57 = .ok (.getfield 110, 3) := by decide +kernel
theorem dX8_enter_60 : decode cX8_enter 60 = .ok (.iconst 1, 1) := by decide +kernel
theorem dX8_enter_61 : decode cX8_enter 61 = .ok (.iadd, 1) := by decide +kernel
theorem dX8_enter_62 : decode cX8_enter 62 = .ok (.putfield 110, 3) := by decide +kernel
theorem dX8_enter_65 : decode cX8_enter 65 = .ok (.aload_n 0, 1) := by decide +kernel
theorem dX8_enter_66 : decode cX8_enter 66 = .ok (.iload_n 1, 1) := by decide +kernel
theorem dX8_enter_67 : decode cX8_enter 67 = .ok (.iload_n 2, 1) := by decide +kernel
theorem dX8_enter_68 : decode cX8_enter 68 = .ok (.bipush 30, 2) := by decide +kernel
theorem dX8_enter_70 : decode cX8_enter 70 = .ok (.invokevirtual 171, 3) := by decide +kernel
theorem dX8_enter_73 : decode cX8_enter 73 = .ok (.aload_n 0, 1) := by decide +kernel
theorem dX8_enter_74 : decode cX8_enter 74 = .ok (.iconst 3, 1) := by decide +kernel
theorem dX8_enter_75 : decode cX8_enter 75 = .ok (.iload_n 1, 1) := by decide +kernel
theorem dX8_enter_76 : decode cX8_enter 76 = .ok (.iload_n 2, 1) := by decide +kernel
theorem dX8_enter_77 : decode cX8_enter 77 = .ok (.invokevirtual 130, 3) := by decide +kernel
theorem dX8_enter_80 : decode cX8_enter 80 = .ok (.aload_n 0, 1) := by decide +kernel
theorem dX8_enter_81 : decode cX8_enter 81 = .ok (.getfield 110, 3) := by decide +kernel
theorem dX8_enter_84 : decode cX8_enter 84 = .ok (.iconst 1, 1) := by decide +kernel
theorem dX8_enter_85 : decode cX8_enter 85 = .ok (.isub, 1) := by decide +kernel
theorem dX8_enter_86 : decode cX8_enter 86 = .ok (.ireturn, 1) := by decide +kernel
theorem dX8_lookAt_0 : decode cX8_lookAt 0 = .ok (.aload_n 0, 1) := by decide +kernel
theorem dX8_lookAt_1 : decode cX8_lookAt 1 = .ok (.iload_n 1, 1) := by decide +kernel
theorem dX8_lookAt_2 : decode cX8_lookAt 2 = .ok (.invokevirtual 174, 3) := by decide +kernel
theorem dX8_lookAt_5 : decode cX8_lookAt 5 = .ok (.ifCond .eq 15, 3) := by decide +kernel
theorem dX8_lookAt_8 : decode cX8_lookAt 8 = .ok (.aload_n 0, 1) := by decide +kernel
theorem dX8_lookAt_9 : decode cX8_lookAt 9 = .ok (.iload_n 2, 1) := by decide +kernel
theorem dX8_lookAt_10 : decode cX8_lookAt 10 = .ok (.invokevirtual 100, 3) := by decide +kernel
theorem dX8_lookAt_13 : decode cX8_lookAt 13 = .ok (.ifCond .eq 7, 3) := by decide +kernel
theorem dX8_lookAt_16 : decode cX8_lookAt 16 = .ok (.iconst 1, 1) := by decide +kernel
theorem dX8_lookAt_17 : decode cX8_lookAt 17 = .ok (.goto 4, 3) := by decide +kernel
theorem dX8_lookAt_20 : decode cX8_lookAt 20 = .ok (.iconst 0, 1) := by decide +kernel
theorem dX8_lookAt_21 : decode cX8_lookAt 21 = .ok (.istore_n 3, 1) := by decide +kernel
theorem dX8_lookAt_22 : decode cX8_lookAt 22 = .ok (.aload_n 0, 1) := by decide +kernel
theorem dX8_lookAt_23 : decode cX8_lookAt 23 = .ok (.iload_n 3, 1) := by decide +kernel
theorem dX8_lookAt_24 : decode cX8_lookAt 24 = .ok (.iload_n 3, 1) := by decide +kernel
theorem dX8_lookAt_25 : decode cX8_lookAt 25 = .ok (.ifCond .eq 36, 3) := by decide +kernel
theorem dX8_lookAt_28 : decode cX8_lookAt 28 = .ok (.aload_n 0, 1) := by decide +kernel
theorem dX8_lookAt_29 : decode cX8_lookAt 29 = .ok (.getfield 59, 3) := by decide +kernel
theorem dX8_lookAt_32 : decode cX8_lookAt 32 = .ok (.iload_n 1, 1) := by decide +kernel
theorem dX8_lookAt_33 : decode cX8_lookAt 33 = .ok (.baload, 1) := by decide +kernel
theorem dX8_lookAt_34 : decode cX8_lookAt 34 = .ok (.ifCond .ne 27, 3) := by decide +kernel
theorem dX8_lookAt_37 : decode cX8_lookAt 37 = .ok (.aload_n 0, 1) := by decide +kernel
theorem dX8_lookAt_38 : decode cX8_lookAt 38 = .ok (.getfield 7, 3) := by decide +kernel
theorem dX8_lookAt_41 : decode cX8_lookAt 41 = .ok (.iload_n 2, 1) := by decide +kernel
theorem dX8_lookAt_42 : decode cX8_lookAt 42 = .ok (.iaload, 1) := by decide +kernel
theorem dX8_lookAt_43 : decode cX8_lookAt 43 = .ok (.aload_n 0, 1) := by decide +kernel
theorem dX8_lookAt_44 : decode cX8_lookAt 44 = .ok (.getfield 7, 3) := by decide +kernel
theorem dX8_lookAt_47 : decode cX8_lookAt 47 = .ok (.aload_n 0, 1) := by decide +kernel
theorem dX8_lookAt_48 : decode cX8_lookAt 48 = .ok (.getfield 50, 3) := by decide +kernel
theorem dX8_lookAt_51 : decode cX8_lookAt 51 = .ok (.iload_n 1, 1) := by decide +kernel
theorem dX8_lookAt_52 : decode cX8_lookAt 52 = .ok (.iaload, 1) := by decide +kernel
theorem dX8_lookAt_53 : decode cX8_lookAt 53 = .ok (.iaload, 1) := by decide +kernel
theorem dX8_lookAt_54 : decode cX8_lookAt 54 = .ok (.if_icmp .eq 7, 3) := by decide +kernel
theorem dX8_lookAt_57 : decode cX8_lookAt 57 = .ok (.iconst 1, 1) := by decide +kernel
theorem dX8_lookAt_58 : decode cX8_lookAt 58 = .ok (.goto 4, 3) := by decide +kernel
theorem dX8_lookAt_61 : decode cX8_lookAt 61 = .ok (.iconst 0, 1) := by decide +kernel
theorem dX8_lookAt_62 : decode cX8_lookAt 62 = .ok (.iconst 1, 1) := by decide +kernel
theorem dX8_lookAt_63 : decode cX8_lookAt 63 = .ok (.invokevirtual 123, 3) := by decide +kernel
theorem dX8_lookAt_66 : decode cX8_lookAt 66 = .ok (.ifCond .ne 5, 3) := by decide +kernel
theorem dX8_lookAt_69 : decode cX8_lookAt 69 = .ok (.iconst 0, 1) := by decide +kernel
theorem dX8_lookAt_70 : decode cX8_lookAt 70 = .ok (.ireturn, 1) := by decide +kernel
theorem dX8_lookAt_71 : decode cX8_lookAt 71 = .ok (.aload_n 0, 1) := by decide +kernel
theorem dX8_lookAt_72 : decode cX8_lookAt 72 = .ok (.getfield 59, 3) := by decide +kernel
theorem dX8_lookAt_75 : decode cX8_lookAt 75 = .ok (.iload_n 1, 1) := by decide +kernel
theorem dX8_lookAt_76 : decode cX8_lookAt 76 = .ok (.iconst 1, 1) := by decide +kernel
theorem dX8_lookAt_77 : decode cX8_lookAt 77 = .ok (.bastore, 1) := by decide +kernel
theorem dX8_lookAt_78 : decode cX8_lookAt 78 = .ok (.aload_n 0, 1) := by decide +kernel
theorem dX8_lookAt_79 : decode cX8_lookAt 79 = .ok (.iconst 4, 1) := by decide +kernel
theorem dX8_lookAt_80 : decode cX8_lookAt 80 = .ok (.iload_n 2, 1) := by decide +kernel
theorem dX8_lookAt_81 : decode cX8_lookAt 81 = .ok (.aload_n 0, 1) := by decide +kernel
theorem dX8_lookAt_82 : decode cX8_lookAt 82 = .ok (.getfield 53, 3) := by decide +kernel
theorem dX8_lookAt_85 : decode cX8_lookAt 85 = .ok (.iload_n 1, 1) := by decide +kernel
theorem dX8_lookAt_86 : decode cX8_lookAt 86 = .ok (.iaload, 1) := by decide +kernel
theorem dX8_lookAt_87 : decode cX8_lookAt 87 = .ok (.invokevirtual 130, 3) := by decide +kernel
theorem dX8_lookAt_90 : decode cX8_lookAt 90 = .ok (.aload_n 0, 1) := by decide +kernel
theorem dX8_lookAt_91 : decode cX8_lookAt 91 = .ok (.getfield 119, 3) := by decide +kernel
theorem dX8_lookAt_94 : decode cX8_lookAt 94 = .ok (.aload_n 0, 1) := by decide +kernel
theorem dX8_lookAt_95 : decode cX8_lookAt 95 = .ok (.getfield 56, 3) := by decide +kernel
theorem dX8_lookAt_98 : decode cX8_lookAt 98 = .ok (.iload_n 1, 1) := by decide +kernel
theorem dX8_lookAt_99 : decode cX8_lookAt 99 = .ok (.iaload, 1) := by decide +kernel
theorem dX8_lookAt_100 : decode cX8_lookAt 100 = .ok (.isub, 1) := by decide +kernel
theorem dX8_lookAt_101 : decode cX8_lookAt 101 = .ok (.ireturn, 1) := by decide +kernel
theorem dX8_overdue_0 : decode cX8_overdue 0 = .ok (.aload_n 0, 1) := by decide +kernel
theorem dX8_overdue_1 : decode cX8_overdue 1 = .ok (.aload_n 0, 1) := by decide +kernel
theorem dX8_overdue_2 : decode cX8_overdue 2 = .ok (.iload_n 1, 1) := by decide +kernel
theorem dX8_overdue_3 : decode cX8_overdue 3 = .ok (.invokevirtual 100, 3) := by decide +kernel
theorem dX8_overdue_6 : decode cX8_overdue 6 = .ok (.iconst 1, 1) := by decide +kernel
theorem dX8_overdue_7 : decode cX8_overdue 7 = .ok (.iconst 1, 1) := by decide +kernel
theorem dX8_overdue_8 : decode cX8_overdue 8 = .ok (.invokevirtual 123, 3) := by decide +kernel
theorem dX8_overdue_11 : decode cX8_overdue 11 = .ok (.ifCond .eq 11, 3) := by decide +kernel
theorem dX8_overdue_14 : decode cX8_overdue 14 = .ok (.aload_n 0, 1) := by decide +kernel
theorem dX8_overdue_15 : decode cX8_overdue 15 = .ok (.iload_n 1, 1) := by decide +kernel
theorem dX8_overdue_16 : decode cX8_overdue 16 = .ok (.invokevirtual 159, 3) := by decide +kernel
theorem dX8_overdue_19 : decode cX8_overdue 19 = .ok (.goto 4, 3) := by decide +kernel
theorem dX8_overdue_22 : decode cX8_overdue 22 = .ok (.iconst 0, 1) := by decide +kernel
theorem dX8_overdue_23 : decode cX8_overdue 23 = .ok (.ireturn, 1) := by decide +kernel
theorem dX8_couldEnter_0 : decode cX8_couldEnter 0 = .ok (.aload_n 0, 1) := by decide +kernel
theorem dX8_couldEnter_1 : decode cX8_couldEnter 1 = .ok (.aload_n 0, 1) := by decide +kernel
theorem dX8_couldEnter_2 : decode cX8_couldEnter 2 = .ok (.iload_n 1, 1) := by decide +kernel
theorem dX8_couldEnter_3 : decode cX8_couldEnter 3 = .ok (.iload_n 2, 1) := by decide +kernel
theorem dX8_couldEnter_4 : decode cX8_couldEnter 4 = .ok (.invokevirtual 152, 3) := by decide +kernel
theorem dX8_couldEnter_7 : decode cX8_couldEnter 7 = .ok (.iload_n 3, 1) := by decide +kernel
theorem dX8_couldEnter_8 : decode cX8_couldEnter 8 = .ok (.iconst 0, 1) := by decide +kernel
theorem dX8_couldEnter_9 : decode cX8_couldEnter 9 = .ok (.ldc 177, 2) := by decide +kernel
theorem dX8_couldEnter_11 : decode cX8_couldEnter 11 = .ok (.invokestatic 93, 3) := by decide +kernel
theorem dX8_couldEnter_14 : decode cX8_couldEnter 14 = .ok (.iconst 1, 1) := by decide +kernel
theorem dX8_couldEnter_15 : decode cX8_couldEnter 15 = .ok (.invokevirtual 123, 3) := by decide +kernel
theorem dX8_couldEnter_18 : decode cX8_couldEnter 18 = .ok (.ifCond .eq 17, 3) := by decide +kernel
theorem dX8_couldEnter_21 : decode cX8_couldEnter 21 = .ok (.aload_n 0, 1) := by decide +kernel
theorem dX8_couldEnter_22 : decode cX8_couldEnter 22 = .ok (.iload_n 1, 1) := by decide +kernel
theorem dX8_couldEnter_23 : decode cX8_couldEnter 23 = .ok (.iload_n 2, 1) := by decide +kernel
theorem dX8_couldEnter_24 : decode cX8_couldEnter 24 = .ok (.iload_n 3, 1) := by decide +kernel
theorem dX8_couldEnter_25 : decode cX8_couldEnter 25 = .ok (.invokevirtual 134, 3) := by decide +kernel
theorem dX8_couldEnter_28 : decode cX8_couldEnter 28 = .ok (.ifCond .eq 7, 3) := by decide +kernel
theorem dX8_couldEnter_31 : decode cX8_couldEnter 31 = .ok (.iconst 1, 1) := by decide +kernel
theorem dX8_couldEnter_32 : decode cX8_couldEnter 32 = .ok (.goto 4, 3) := by decide +kernel
theorem dX8_couldEnter_35 : decode cX8_couldEnter 35 = .ok (.iconst 0, 1) := by decide +kernel
theorem dX8_couldEnter_36 : decode cX8_couldEnter 36 = .ok (.ireturn, 1) := by decide +kernel
theorem dX8_open_0 : decode cX8_open 0 = .ok (.aload_n 0, 1) := by decide +kernel
theorem dX8_open_1 : decode cX8_open 1 = .ok (.iload_n 1, 1) := by decide +kernel
theorem dX8_open_2 : decode cX8_open 2 = .ok (.iload_n 2, 1) := by decide +kernel
theorem dX8_open_3 : decode cX8_open 3 = .ok (.invokevirtual 152, 3) := by decide +kernel
theorem dX8_open_6 : decode cX8_open 6 = .ok (.istore_n 3, 1) := by decide +kernel
theorem dX8_open_7 : decode cX8_open 7 = .ok (.aload_n 0, 1) := by decide +kernel
theorem dX8_open_8 : decode cX8_open 8 = .ok (.iload_n 3, 1) := by decide +kernel
theorem dX8_open_9 : decode cX8_open 9 = .ok (.iload_n 3, 1) := by decide +kernel
theorem dX8_open_10 : decode cX8_open 10 = .ok (.ifCond .eq 20, 3) := by decide +kernel
theorem dX8_open_13 : decode cX8_open 13 = .ok (.aload_n 0, 1) := by decide +kernel
theorem dX8_open_14 : decode cX8_open 14 = .ok (.iload_n 1, 1) := by decide +kernel
theorem dX8_open_15 : decode cX8_open 15 = .ok (.iload_n 2, 1) := by decide +kernel
theorem dX8_open_16 : decode cX8_open 16 = .ok (.aload_n 0, 1) := by decide +kernel
theorem dX8_open_17 : decode cX8_open 17 = .ok (.getfield 119, 3) := by decide +kernel
theorem dX8_open_20 : decode cX8_open 20 = .ok (.invokevirtual 134, 3) := by decide +kernel
theorem dX8_open_23 : decode cX8_open 23 = .ok (.ifCond .eq 7, 3) := by decide +kernel
theorem dX8_open_26 : decode cX8_open 26 = .ok (.iconst 1, 1) := by decide +kernel
theorem dX8_open_27 : decode cX8_open 27 = .ok (.goto 4, 3) := by decide +kernel
theorem dX8_open_30 : decode cX8_open 30 = .ok (.iconst 0, 1) := by decide +kernel
theorem dX8_open_31 : decode cX8_open 31 = .ok (.iconst 1, 1) := by decide +kernel
theorem dX8_open_32 : decode cX8_open 32 = .ok (.invokevirtual 123, 3) := by decide +kernel
theorem dX8_open_35 : decode cX8_open 35 = .ok (.ifCond .ne 5, 3) := by decide +kernel
theorem dX8_open_38 : decode cX8_open 38 = .ok (.iconst 0, 1) := by decide +kernel
theorem dX8_open_39 : decode cX8_open 39 = .ok (.ireturn, 1) := by decide +kernel
theorem dX8_open_40 : decode cX8_open 40 = .ok (.aload_n 0, 1) := by decide +kernel
theorem dX8_open_41 : decode cX8_open 41 = .ok (.getfield 62, 3) := by decide +kernel
theorem dX8_open_44 : decode cX8_open 44 = .ok (.aload_n 0, 1) := by decide +kernel
theorem dX8_open_45 : decode cX8_open 45 = .ok (.getfield 113, 3) := by decide +kernel
theorem dX8_open_48 : decode cX8_open 48 = .ok (.iload_n 1, 1) := by decide +kernel
theorem dX8_open_49 : decode cX8_open 49 = .ok (.iastore, 1) := by decide +kernel
theorem dX8_open_50 : decode cX8_open 50 = .ok (.aload_n 0, 1) := by decide +kernel
theorem dX8_open_51 : decode cX8_open 51 = .ok (.getfield 65, 3) := by decide +kernel
theorem dX8_open_54 : decode cX8_open 54 = .ok (.aload_n 0, 1) := by decide +kernel
theorem dX8_open_55 : decode cX8_open 55 = .ok (.getfield 113, 3) := by decide +kernel
theorem dX8_open_58 : decode cX8_open 58 = .ok (.iload_n 2, 1) := by decide +kernel
theorem dX8_open_59 : decode cX8_open 59 = .ok (.iastore, 1) := by decide +kernel
theorem dX8_open_60 : decode cX8_open 60 = .ok (.aload_n 0, 1) := by decide +kernel
theorem dX8_open_61 : decode cX8_open 61 = .ok (.getfield 68, 3) := by decide +kernel
theorem dX8_open_64 : decode cX8_open 64 = .ok (.aload_n 0, 1) := by decide +kernel
theorem dX8_open_65 : decode cX8_open 65 = .ok (.getfield 113, 3) := by decide +kernel
theorem dX8_open_68 : decode cX8_open 68 = .ok (.iconst 1, 1) := by decide +kernel
theorem dX8_open_69 : decode cX8_open 69 = .ok (.bastore, 1) := by decide +kernel
theorem dX8_open_70 : decode cX8_open 70 = .ok (.aload_n 0, 1) := by decide +kernel
theorem dX8_open_71 : decode cX8_open 71 = .ok (.getfield 71, 3) := by decide +kernel
theorem dX8_open_74 : decode cX8_open 74 = .ok (.aload_n 0, 1) := by decide +kernel
theorem dX8_open_75 : decode cX8_open 75 = .ok (.getfield 113, 3) := by decide +kernel
theorem dX8_open_78 : decode cX8_open 78 = .ok (.aload_n 0, 1) := by decide +kernel
theorem dX8_open_79 : decode cX8_open 79 = .ok (.getfield 119, 3) := by decide +kernel
theorem dX8_open_82 : decode cX8_open 82 = .ok (.iastore, 1) := by decide +kernel
theorem dX8_open_83 : decode cX8_open 83 = .ok (.aload_n 0, 1) := by decide +kernel
theorem dX8_open_84 : decode cX8_open 84 = .ok (.getfield 74, 3) := by decide +kernel
theorem dX8_open_87 : decode cX8_open 87 = .ok (.aload_n 0, 1) := by decide +kernel
theorem dX8_open_88 : decode cX8_open 88 = .ok (.getfield 113, 3) := by decide +kernel
theorem dX8_open_91 : decode cX8_open 91 = .ok (.iconst (-1), 1) := by decide +kernel
theorem dX8_open_92 : decode cX8_open 92 = .ok (.iastore, 1) := by decide +kernel
theorem dX8_open_93 : decode cX8_open 93 = .ok (.aload_n 0, 1) := by decide +kernel
theorem dX8_open_94 : decode cX8_open 94 = .ok (.dup, 1) := by decide +kernel
theorem dX8_open_95 : decode cX8_open 95 = .ok (.getfield 113, 3) := by decide +kernel
theorem dX8_open_98 : decode cX8_open 98 = .ok (.iconst 1, 1) := by decide +kernel
theorem dX8_open_99 : decode cX8_open 99 = .ok (.iadd, 1) := by decide +kernel
theorem dX8_open_100 : decode cX8_open 100 = .ok (.putfield 113, 3) := by decide +kernel
theorem dX8_open_103 : decode cX8_open 103 = .ok (.aload_n 0, 1) := by decide +kernel
theorem dX8_open_104 : decode cX8_open 104 = .ok (.iconst 5, 1) := by decide +kernel
theorem dX8_open_105 : decode cX8_open 105 = .ok (.iload_n 1, 1) := by decide +kernel
theorem dX8_open_106 : decode cX8_open 106 = .ok (.iload_n 2, 1) := by decide +kernel
theorem dX8_open_107 : decode cX8_open 107 = .ok (.invokevirtual 130, 3) := by decide +kernel
theorem dX8_open_110 : decode cX8_open 110 = .ok (.aload_n 0, 1) := by decide +kernel
theorem dX8_open_111 : decode cX8_open 111 = .ok (.getfield 113, 3) := by decide +kernel
theorem dX8_open_114 : decode cX8_open 114 = .ok (.iconst 1, 1) := by decide +kernel
theorem dX8_open_115 : decode cX8_open 115 = .ok (.isub, 1) := by decide +kernel
theorem dX8_open_116 : decode cX8_open 116 = .ok (.ireturn, 1) := by decide +kernel
theorem dX8_type_0 : decode cX8_type 0 = .ok (.aload_n 0, 1) := by decide +kernel
theorem dX8_type_1 : decode cX8_type 1 = .ok (.iload_n 1, 1) := by decide +kernel
theorem dX8_type_2 : decode cX8_type 2 = .ok (.invokevirtual 178, 3) := by decide +kernel
theorem dX8_type_5 : decode cX8_type 5 = .ok (.istore_n 3, 1) := by decide +kernel
theorem dX8_type_6 : decode cX8_type 6 = .ok (.aload_n 0, 1) := by decide +kernel
theorem dX8_type_7 : decode cX8_type 7 = .ok (.iload_n 3, 1) := by decide +kernel
theorem dX8_type_8 : decode cX8_type 8 = .ok (.iload_n 2, 1) := by decide +kernel
theorem dX8_type_9 : decode cX8_type 9 = .ok (.iconst 0, 1) := by decide +kernel
theorem dX8_type_10 : decode cX8_type 10 = .ok (.iconst 2, 1) := by decide +kernel
theorem dX8_type_11 : decode cX8_type 11 = .ok (.invokestatic 93, 3) := by decide +kernel
theorem dX8_type_14 : decode cX8_type 14 = .ok (.iload_n 3, 1) := by decide +kernel
theorem dX8_type_15 : decode cX8_type 15 = .ok (.ifCond .eq 26, 3) := by decide +kernel
theorem dX8_type_18 : decode cX8_type 18 = .ok (.aload_n 0, 1) := by decide +kernel
theorem dX8_type_19 : decode cX8_type 19 = .ok (.getfield 68, 3) := by decide +kernel
theorem dX8_type_22 : decode cX8_type 22 = .ok (.iload_n 1, 1) := by decide +kernel
theorem dX8_type_23 : decode cX8_type 23 = .ok (.baload, 1) := by decide +kernel
theorem dX8_type_24 : decode cX8_type 24 = .ok (.ifCond .eq 17, 3) := by decide +kernel
theorem dX8_type_27 : decode cX8_type 27 = .ok (.aload_n 0, 1) := by decide +kernel
theorem dX8_type_28 : decode cX8_type 28 = .ok (.getfield 74, 3) := by decide +kernel
theorem dX8_type_31 : decode cX8_type 31 = .ok (.iload_n 1, 1) := by decide +kernel
theorem dX8_type_32 : decode cX8_type 32 = .ok (.iaload, 1) := by decide +kernel
theorem dX8_type_33 : decode cX8_type 33 = .ok (.iconst (-1), 1) := by decide +kernel
theorem dX8_type_34 : decode cX8_type 34 = .ok (.if_icmp .ne 7, 3) := by decide +kernel
theorem dX8_type_37 : decode cX8_type 37 = .ok (.iconst 1, 1) := by decide +kernel
theorem dX8_type_38 : decode cX8_type 38 = .ok (.goto 4, 3) := by decide +kernel
theorem dX8_type_41 : decode cX8_type 41 = .ok (.iconst 0, 1) := by decide +kernel
theorem dX8_type_42 : decode cX8_type 42 = .ok (.invokevirtual 123, 3) := by decide +kernel
theorem dX8_type_45 : decode cX8_type 45 = .ok (.ifCond .ne 5, 3) := by decide +kernel
theorem dX8_type_48 : decode cX8_type 48 = .ok (.iconst 0, 1) := by decide +kernel
theorem dX8_type_49 : decode cX8_type 49 = .ok (.ireturn, 1) := by decide +kernel
theorem dX8_type_50 : decode cX8_type 50 = .ok (.aload_n 0, 1) := by decide +kernel
theorem dX8_type_51 : decode cX8_type 51 = .ok (.getfield 71, 3) := by decide +kernel
theorem dX8_type_54 : decode cX8_type 54 = .ok (.iload_n 1, 1) := by decide +kernel
theorem dX8_type_55 : decode cX8_type 55 = .ok (.aload_n 0, 1) := by decide +kernel
theorem dX8_type_56 : decode cX8_type 56 = .ok (.getfield 119, 3) := by decide +kernel
theorem dX8_type_59 : decode cX8_type 59 = .ok (.iastore, 1) := by decide +kernel
theorem dX8_type_60 : decode cX8_type 60 = .ok (.aload_n 0, 1) := by decide +kernel
theorem dX8_type_61 : decode cX8_type 61 = .ok (.bipush 7, 2) := by decide +kernel
theorem dX8_type_63 : decode cX8_type 63 = .ok (.aload_n 0, 1) := by decide +kernel
theorem dX8_type_64 : decode cX8_type 64 = .ok (.getfield 62, 3) := by decide +kernel
theorem dX8_type_67 : decode cX8_type 67 = .ok (.iload_n 1, 1) := by decide +kernel
theorem dX8_type_68 : decode cX8_type 68 = .ok (.iaload, 1) := by decide +kernel
theorem dX8_type_69 : decode cX8_type 69 = .ok (.aload_n 0, 1) := by decide +kernel
theorem dX8_type_70 : decode cX8_type 70 = .ok (.getfield 65, 3) := by decide +kernel
theorem dX8_type_73 : decode cX8_type 73 = .ok (.iload_n 1, 1) := by decide +kernel
theorem dX8_type_74 : decode cX8_type 74 = .ok (.iaload, 1) := by decide +kernel
theorem dX8_type_75 : decode cX8_type 75 = .ok (.invokevirtual 130, 3) := by decide +kernel
theorem dX8_type_78 : decode cX8_type 78 = .ok (.iload_n 2, 1) := by decide +kernel
theorem dX8_type_79 : decode cX8_type 79 = .ok (.ifCond .ne 16, 3) := by decide +kernel
theorem dX8_type_82 : decode cX8_type 82 = .ok (.aload_n 0, 1) := by decide +kernel
theorem dX8_type_83 : decode cX8_type 83 = .ok (.getfield 77, 3) := by decide +kernel
theorem dX8_type_86 : decode cX8_type 86 = .ok (.iload_n 1, 1) := by decide +kernel
theorem dX8_type_87 : decode cX8_type 87 = .ok (.dup2, 1) := by decide +kernel
theorem dX8_type_88 : decode cX8_type 88 = .ok (.iaload, 1) := by decide +kernel
theorem dX8_type_89 : decode cX8_type 89 = .ok (.iconst 1, 1) := by decide +kernel
theorem dX8_type_90 : decode cX8_type 90 = .ok (.iadd, 1) := by decide +kernel
theorem dX8_type_91 : decode cX8_type 91 = .ok (.iastore, 1) := by decide +kernel
theorem dX8_type_92 : decode cX8_type 92 = .ok (.goto 43, 3) := by decide +kernel
theorem dX8_type_95 : decode cX8_type 95 = .ok (.iload_n 2, 1) := by decide +kernel
theorem dX8_type_96 : decode cX8_type 96 = .ok (.iconst 1, 1) := by decide +kernel
theorem dX8_type_97 : decode cX8_type 97 = .ok (.if_icmp .ne 16, 3) := by decide +kernel
theorem dX8_type_100 : decode cX8_type 100 = .ok (.aload_n 0, 1) := by decide +kernel
theorem dX8_type_101 : decode cX8_type 101 = .ok (.getfield 74, 3) := by decide +kernel
theorem dX8_type_104 : decode cX8_type 104 = .ok (.iload_n 1, 1) := by decide +kernel
theorem dX8_type_105 : decode cX8_type 105 = .ok (.aload_n 0, 1) := by decide +kernel
theorem dX8_type_106 : decode cX8_type 106 = .ok (.getfield 119, 3) := by decide +kernel
theorem dX8_type_109 : decode cX8_type 109 = .ok (.iastore, 1) := by decide +kernel
theorem dX8_type_110 : decode cX8_type 110 = .ok (.goto 25, 3) := by decide +kernel
theorem dX8_type_113 : decode cX8_type 113 = .ok (.aload_n 0, 1) := by decide +kernel
theorem dX8_type_114 : decode cX8_type 114 = .ok (.aload_n 0, 1) := by decide +kernel
theorem dX8_type_115 : decode cX8_type 115 = .ok (.getfield 62, 3) := by decide +kernel
theorem dX8_type_118 : decode cX8_type 118 = .ok (.iload_n 1, 1) := by decide +kernel
theorem dX8_type_119 : decode cX8_type 119 = .ok (.iaload, 1) := by decide +kernel
theorem dX8_type_120 : decode cX8_type 120 = .ok (.aload_n 0, 1) := by decide +kernel
theorem dX8_type_121 : decode cX8_type 121 = .ok (.getfield 65, 3) := by decide +kernel
theorem dX8_type_124 : decode cX8_type 124 = .ok (.iload_n 1, 1) := by decide +kernel
theorem dX8_type_125 : decode cX8_type 125 = .ok (.iaload, 1) := by decide +kernel
theorem dX8_type_126 : decode cX8_type 126 = .ok (.invokevirtual 141, 3) := by decide +kernel
theorem dX8_type_129 : decode cX8_type 129 = .ok (.aload_n 0, 1) := by decide +kernel
theorem dX8_type_130 : decode cX8_type 130 = .ok (.iload_n 1, 1) := by decide +kernel
theorem dX8_type_131 : decode cX8_type 131 = .ok (.invokevirtual 148, 3) := by decide +kernel
theorem dX8_type_134 : decode cX8_type 134 = .ok (.pop, 1) := by decide +kernel
theorem dX8_type_135 : decode cX8_type 135 = .ok (.iload_n 2, 1) := by decide +kernel
theorem dX8_type_136 : decode cX8_type 136 = .ok (.ifCond .ne 7, 3) := by decide +kernel
theorem dX8_type_139 : decode cX8_type 139 = .ok (.iconst 1, 1) := by decide +kernel
theorem dX8_type_140 : decode cX8_type 140 = .ok (.goto 4, 3) := by decide +kernel
theorem dX8_type_143 : decode cX8_type 143 = .ok (.iconst 0, 1) := by decide +kernel
theorem dX8_type_144 : decode cX8_type 144 = .ok (.ireturn, 1) := by decide +kernel
theorem dX8_letThrough_0 : decode cX8_letThrough 0 = .ok (.aload_n 0, 1) := by decide +kernel
theorem dX8_letThrough_1 : decode cX8_letThrough 1 = .ok (.iload_n 1, 1) := by decide +kernel
theorem dX8_letThrough_2 : decode cX8_letThrough 2 = .ok (.invokevirtual 178, 3) := by decide +kernel
theorem dX8_letThrough_5 : decode cX8_letThrough 5 = .ok (.ifCond .eq 15, 3) := by decide +kernel
theorem dX8_letThrough_8 : decode cX8_letThrough 8 = .ok (.aload_n 0, 1) := by decide +kernel
theorem dX8_letThrough_9 : decode cX8_letThrough 9 = .ok (.iload_n 2, 1) := by decide +kernel
theorem dX8_letThrough_10 : decode cX8_letThrough 10 = .ok (.invokevirtual 100, 3) := by decide +kernel
theorem dX8_letThrough_13 : decode cX8_letThrough 13 = .ok (.ifCond .eq 7, 3) := by decide +kernel
theorem dX8_letThrough_16 : decode cX8_letThrough 16 = .ok (.iconst 1, 1) := by decide +kernel
theorem dX8_letThrough_17 : decode cX8_letThrough 17 = .ok (.goto 4, 3) := by decide +kernel
theorem dX8_letThrough_20 : decode cX8_letThrough 20 = .ok (.iconst 0, 1) := by decide +kernel
theorem dX8_letThrough_21 : decode cX8_letThrough 21 = .ok (.istore_n 3, 1) := by decide +kernel
theorem dX8_letThrough_22 : decode cX8_letThrough 22 = .ok (.iload_n 3, 1) := by decide +kernel
theorem dX8_letThrough_23 : decode cX8_letThrough 23 = .ok (.ifCond .eq 26, 3) := by decide +kernel
theorem dX8_letThrough_26 : decode cX8_letThrough 26 = .ok (.aload_n 0, 1) := by decide +kernel
theorem dX8_letThrough_27 : decode cX8_letThrough 27 = .ok (.getfield 68, 3) := by decide +kernel
theorem dX8_letThrough_30 : decode cX8_letThrough 30 = .ok (.iload_n 1, 1) := by decide +kernel
theorem dX8_letThrough_31 : decode cX8_letThrough 31 = .ok (.baload, 1) := by decide +kernel
theorem dX8_letThrough_32 : decode cX8_letThrough 32 = .ok (.ifCond .eq 17, 3) := by decide +kernel
theorem dX8_letThrough_35 : decode cX8_letThrough 35 = .ok (.aload_n 0, 1) := by decide +kernel
theorem dX8_letThrough_36 : decode cX8_letThrough 36 = .ok (.getfield 74, 3) := by decide +kernel
theorem dX8_letThrough_39 : decode cX8_letThrough 39 = .ok (.iload_n 1, 1) := by decide +kernel
theorem dX8_letThrough_40 : decode cX8_letThrough 40 = .ok (.iaload, 1) := by decide +kernel
theorem dX8_letThrough_41 : decode cX8_letThrough 41 = .ok (.iconst (-1), 1) := by decide +kernel
theorem dX8_letThrough_42 : decode cX8_letThrough 42 = .ok (.if_icmp .eq 7, 3) := by decide +kernel
theorem dX8_letThrough_45 : decode cX8_letThrough 45 = .ok (.iconst 1, 1) := by decide +kernel
theorem dX8_letThrough_46 : decode cX8_letThrough 46 = .ok (.goto 4, 3) := by decide +kernel
theorem dX8_letThrough_49 : decode cX8_letThrough 49 = .ok (.iconst 0, 1) := by decide +kernel
theorem dX8_letThrough_50 : decode cX8_letThrough 50 = .ok (.istore 4, 2) := by decide +kernel
theorem dX8_letThrough_52 : decode cX8_letThrough 52 = .ok (.iload 4, 2) := by decide +kernel
theorem dX8_letThrough_54 : decode cX8_letThrough 54 = .ok (.ifCond .eq 41, 3) := by decide +kernel
theorem dX8_letThrough_57 : decode cX8_letThrough 57 = .ok (.aload_n 0, 1) := by decide +kernel
theorem dX8_letThrough_58 : decode cX8_letThrough 58 = .ok (.getfield 7, 3) := by decide +kernel
theorem dX8_letThrough_61 : decode cX8_letThrough 61 = .ok (.iload_n 2, 1) := by decide +kernel
theorem dX8_letThrough_62 : decode cX8_letThrough 62 = .ok (.iaload, 1) := by decide +kernel
theorem dX8_letThrough_63 : decode cX8_letThrough 63 = .ok (.aload_n 0, 1) := by decide +kernel
theorem dX8_letThrough_64 : decode cX8_letThrough 64 = .ok (.getfield 7, 3) := by decide +kernel
theorem dX8_letThrough_67 : decode cX8_letThrough 67 = .ok (.aload_n 0, 1) := by decide +kernel
theorem dX8_letThrough_68 : decode cX8_letThrough 68 = .ok (.getfield 62, 3) := by decide +kernel
theorem dX8_letThrough_71 : decode cX8_letThrough 71 = .ok (.iload_n 1, 1) := by decide +kernel
theorem dX8_letThrough_72 : decode cX8_letThrough 72 = .ok (.iaload, 1) := by decide +kernel
theorem dX8_letThrough_73 : decode cX8_letThrough 73 = .ok (.iaload, 1) := by decide +kernel
theorem dX8_letThrough_74 : decode cX8_letThrough 74 = .ok (.if_icmp .eq 21, 3) := by decide +kernel
theorem dX8_letThrough_77 : decode cX8_letThrough 77 = .ok (.aload_n 0, 1) := by decide +kernel
theorem dX8_letThrough_78 : decode cX8_letThrough 78 = .ok (.iload_n 2, 1) := by decide +kernel
theorem dX8_letThrough_79 : decode cX8_letThrough 79 = .ok (.aload_n 0, 1) := by decide +kernel
theorem dX8_letThrough_80 : decode cX8_letThrough 80 = .ok (.getfield 65, 3) := by decide +kernel
theorem dX8_letThrough_83 : decode cX8_letThrough 83 = .ok (.iload_n 1, 1) := by decide +kernel
theorem dX8_letThrough_84 : decode cX8_letThrough 84 = .ok (.iaload, 1) := by decide +kernel
theorem dX8_letThrough_85 : decode cX8_letThrough 85 = .ok (.invokevirtual 156, 3) := by decide +kernel
theorem dX8_letThrough_88 : decode cX8_letThrough 88 = .ok (.ifCond .eq 7, 3) := by decide +kernel
theorem dX8_letThrough_91 : decode cX8_letThrough 91 = .ok (.iconst 1, 1) := by decide +kernel
theorem dX8_letThrough_92 : decode cX8_letThrough 92 = .ok (.goto 4, 3) := by decide +kernel
theorem dX8_letThrough_95 : decode cX8_letThrough 95 = .ok (.iconst 0, 1) := by decide +kernel
theorem dX8_letThrough_96 : decode cX8_letThrough 96 = .ok (.istore 4, 2) := by decide +kernel
theorem dX8_letThrough_98 : decode cX8_letThrough 98 = .ok (.aload_n 0, 1) := by decide +kernel
theorem dX8_letThrough_99 : decode cX8_letThrough 99 = .ok (.iload_n 3, 1) := by decide +kernel
theorem dX8_letThrough_100 : decode cX8_letThrough 100 = .ok (.iload 4, 2) := by decide +kernel
theorem dX8_letThrough_102 : decode cX8_letThrough 102 = .ok (.iconst 1, 1) := by decide +kernel
theorem dX8_letThrough_103 : decode cX8_letThrough 103 = .ok (.invokevirtual 123, 3) := by decide +kernel
theorem dX8_letThrough_106 : decode cX8_letThrough 106 = .ok (.ifCond .ne 5, 3) := by decide +kernel
theorem dX8_letThrough_109 : decode cX8_letThrough 109 = .ok (.iconst 0, 1) := by decide +kernel
theorem dX8_letThrough_110 : decode cX8_letThrough 110 = .ok (.ireturn, 1) := by decide +kernel
theorem dX8_letThrough_111 : decode cX8_letThrough 111 = .ok (.aload_n 0, 1) := by decide +kernel
theorem dX8_letThrough_112 : decode cX8_letThrough 112 = .ok (.getfield 119, 3) := by decide +kernel
theorem dX8_letThrough_115 : decode cX8_letThrough 115 = .ok (.aload_n 0, 1) := by decide +kernel
theorem dX8_letThrough_116 : decode cX8_letThrough 116 = .ok (.getfield 74, 3) := by decide +kernel
theorem dX8_letThrough_119 : decode cX8_letThrough 119 = .ok (.iload_n 1, 1) := by decide +kernel
theorem dX8_letThrough_120 : decode cX8_letThrough 120 = .ok (.iaload, 1) := by decide +kernel
theorem dX8_letThrough_121 : decode cX8_letThrough 121 = .ok (.isub, 1) := by decide +kernel
theorem dX8_letThrough_122 : decode cX8_letThrough 122 = .ok (.istore 5, 2) := by decide +kernel
theorem dX8_letThrough_124 : decode cX8_letThrough 124 = .ok (.aload_n 0, 1) := by decide +kernel
theorem dX8_letThrough_125 : decode cX8_letThrough 125 = .ok (.getfield 74, 3) := by decide +kernel
theorem dX8_letThrough_128 : decode cX8_letThrough 128 = .ok (.iload_n 1, 1) := by decide +kernel
theorem dX8_letThrough_129 : decode cX8_letThrough 129 = .ok (.iconst (-1), 1) := by decide +kernel
theorem dX8_letThrough_130 : decode cX8_letThrough 130 = .ok (.iastore, 1) := by decide +kernel
theorem dX8_letThrough_131 : decode cX8_letThrough 131 = .ok (.aload_n 0, 1) := by decide +kernel
theorem dX8_letThrough_132 : decode cX8_letThrough 132 = .ok (.getfield 77, 3) := by decide +kernel
theorem dX8_letThrough_135 : decode cX8_letThrough 135 = .ok (.iload_n 1, 1) := by decide +kernel
theorem dX8_letThrough_136 : decode cX8_letThrough 136 = .ok (.dup2, 1) := by decide +kernel
theorem dX8_letThrough_137 : decode cX8_letThrough 137 = .ok (.iaload, 1) := by decide +kernel
theorem dX8_letThrough_138 : decode cX8_letThrough 138 = .ok (.iconst 1, 1) := by decide +kernel
theorem dX8_letThrough_139 : decode cX8_letThrough 139 = .ok (.iadd, 1) := by decide +kernel
theorem dX8_letThrough_140 : decode cX8_letThrough 140 = .ok (.iastore, 1) := by decide +kernel
theorem dX8_letThrough_141 : decode cX8_letThrough 141 = .ok (.aload_n 0, 1) := by decide +kernel
theorem dX8_letThrough_142 : decode cX8_letThrough 142 = .ok (.bipush 8, 2) := by decide +kernel
theorem dX8_letThrough_144 : decode cX8_letThrough 144 = .ok (.iload_n 2, 1) := by decide +kernel
theorem dX8_letThrough_145 : decode cX8_letThrough 145 = .ok (.aload_n 0, 1) := by decide +kernel
theorem dX8_letThrough_146 : decode cX8_letThrough 146 = .ok (.getfield 65, 3) := by decide +kernel
theorem dX8_letThrough_149 : decode cX8_letThrough 149 = .ok (.iload_n 1, 1) := by decide +kernel
theorem dX8_letThrough_150 : decode cX8_letThrough 150 = .ok (.iaload, 1) := by decide +kernel
theorem dX8_letThrough_151 : decode cX8_letThrough 151 = .ok (.invokevirtual 130, 3) := by decide +kernel
theorem dX8_letThrough_154 : decode cX8_letThrough 154 = .ok (.iload 5, 2) := by decide +kernel
theorem dX8_letThrough_156 : decode cX8_letThrough 156 = .ok (.ireturn, 1) := by decide +kernel
theorem dX8_close_0 : decode cX8_close 0 = .ok (.aload_n 0, 1) := by decide +kernel
theorem dX8_close_1 : decode cX8_close 1 = .ok (.iload_n 1, 1) := by decide +kernel
theorem dX8_close_2 : decode cX8_close 2 = .ok (.invokevirtual 178, 3) := by decide +kernel
theorem dX8_close_5 : decode cX8_close 5 = .ok (.istore_n 2, 1) := by decide +kernel
theorem dX8_close_6 : decode cX8_close 6 = .ok (.aload_n 0, 1) := by decide +kernel
theorem dX8_close_7 : decode cX8_close 7 = .ok (.iload_n 2, 1) := by decide +kernel
theorem dX8_close_8 : decode cX8_close 8 = .ok (.iload_n 2, 1) := by decide +kernel
theorem dX8_close_9 : decode cX8_close 9 = .ok (.ifCond .eq 16, 3) := by decide +kernel
theorem dX8_close_12 : decode cX8_close 12 = .ok (.aload_n 0, 1) := by decide +kernel
theorem dX8_close_13 : decode cX8_close 13 = .ok (.getfield 68, 3) := by decide +kernel
theorem dX8_close_16 : decode cX8_close 16 = .ok (.iload_n 1, 1) := by decide +kernel
theorem dX8_close_17 : decode cX8_close 17 = .ok (.baload, 1) := by decide +kernel
theorem dX8_close_18 : decode cX8_close 18 = .ok (.ifCond .eq 7, 3) := by decide +kernel
theorem dX8_close_21 : decode cX8_close 21 = .ok (.iconst 1, 1) := by decide +kernel
theorem dX8_close_22 : decode cX8_close 22 = .ok (.goto 4, 3) := by decide +kernel
theorem dX8_close_25 : decode cX8_close 25 = .ok (.iconst 0, 1) := by decide +kernel
theorem dX8_close_26 : decode cX8_close 26 = .ok (.iconst 1, 1) := by decide +kernel
theorem dX8_close_27 : decode cX8_close 27 = .ok (.invokevirtual 123, 3) := by decide +kernel
theorem dX8_close_30 : decode cX8_close 30 = .ok (.ifCond .ne 5, 3) := by decide +kernel
theorem dX8_close_33 : decode cX8_close 33 = .ok (.iconst 0, 1) := by decide +kernel
theorem dX8_close_34 : decode cX8_close 34 = .ok (.ireturn, 1) := by decide +kernel
theorem dX8_close_35 : decode cX8_close 35 = .ok (.aload_n 0, 1) := by decide +kernel
theorem dX8_close_36 : decode cX8_close 36 = .ok (.iload_n 1, 1) := by decide +kernel
theorem dX8_close_37 : decode cX8_close 37 = .ok (.invokevirtual 137, 3) := by decide +kernel
theorem dX8_close_40 : decode cX8_close 40 = .ok (.aload_n 0, 1) := by decide +kernel
theorem dX8_close_41 : decode cX8_close 41 = .ok (.getfield 77, 3) := by decide +kernel
theorem dX8_close_44 : decode cX8_close 44 = .ok (.iload_n 1, 1) := by decide +kernel
theorem dX8_close_45 : decode cX8_close 45 = .ok (.iaload, 1) := by decide +kernel
theorem dX8_close_46 : decode cX8_close 46 = .ok (.ireturn, 1) := by decide +kernel
theorem dX8_isOpen_0 : decode cX8_isOpen 0 = .ok (.aload_n 0, 1) := by decide +kernel
theorem dX8_isOpen_1 : decode cX8_isOpen 1 = .ok (.aload_n 0, 1) := by decide +kernel
theorem dX8_isOpen_2 : decode cX8_isOpen 2 = .ok (.iload_n 1, 1) := by decide +kernel
theorem dX8_isOpen_3 : decode cX8_isOpen 3 = .ok (.invokevirtual 178, 3) := by decide +kernel
theorem dX8_isOpen_6 : decode cX8_isOpen 6 = .ok (.iconst 1, 1) := by decide +kernel
theorem dX8_isOpen_7 : decode cX8_isOpen 7 = .ok (.iconst 1, 1) := by decide +kernel
theorem dX8_isOpen_8 : decode cX8_isOpen 8 = .ok (.invokevirtual 123, 3) := by decide +kernel
theorem dX8_isOpen_11 : decode cX8_isOpen 11 = .ok (.ifCond .eq 16, 3) := by decide +kernel
theorem dX8_isOpen_14 : decode cX8_isOpen 14 = .ok (.aload_n 0, 1) := by decide +kernel
theorem dX8_isOpen_15 : decode cX8_isOpen 15 = .ok (.getfield 68, 3) := by decide +kernel
theorem dX8_isOpen_18 : decode cX8_isOpen 18 = .ok (.iload_n 1, 1) := by decide +kernel
theorem dX8_isOpen_19 : decode cX8_isOpen 19 = .ok (.baload, 1) := by decide +kernel
theorem dX8_isOpen_20 : decode cX8_isOpen 20 = .ok (.ifCond .eq 7, 3) := by decide +kernel
theorem dX8_isOpen_23 : decode cX8_isOpen 23 = .ok (.iconst 1, 1) := by decide +kernel
theorem dX8_isOpen_24 : decode cX8_isOpen 24 = .ok (.goto 4, 3) := by decide +kernel
theorem dX8_isOpen_27 : decode cX8_isOpen 27 = .ok (.iconst 0, 1) := by decide +kernel
theorem dX8_isOpen_28 : decode cX8_isOpen 28 = .ok (.ireturn, 1) := by decide +kernel
theorem dX8_openSessions_0 : decode cX8_openSessions 0 = .ok (.aload_n 0, 1) := by decide +kernel
theorem dX8_openSessions_1 : decode cX8_openSessions 1 = .ok (.iconst 0, 1) := by decide +kernel
theorem dX8_openSessions_2 : decode cX8_openSessions 2 = .ok (.putfield 86, 3) := by decide +kernel
theorem dX8_openSessions_5 : decode cX8_openSessions 5 = .ok (.iconst 0, 1) := by decide +kernel
theorem dX8_openSessions_6 : decode cX8_openSessions 6 = .ok (.istore_n 1, 1) := by decide +kernel
theorem dX8_openSessions_7 : decode cX8_openSessions 7 = .ok (.iconst 0, 1) := by decide +kernel
theorem dX8_openSessions_8 : decode cX8_openSessions 8 = .ok (.istore_n 2, 1) := by decide +kernel
theorem dX8_openSessions_9 : decode cX8_openSessions 9 = .ok (.iload_n 2, 1) := by decide +kernel
theorem dX8_openSessions_10 : decode cX8_openSessions 10 = .ok (.aload_n 0, 1) := by decide +kernel
theorem dX8_openSessions_11 : decode cX8_openSessions 11 = .ok (.getfield 113, 3) := by decide +kernel
theorem dX8_openSessions_14 : decode cX8_openSessions 14 = .ok (.if_icmp .ge 26, 3) := by decide +kernel
theorem dX8_openSessions_17 : decode cX8_openSessions 17 = .ok (.iload_n 1, 1) := by decide +kernel
theorem dX8_openSessions_18 : decode cX8_openSessions 18 = .ok (.aload_n 0, 1) := by decide +kernel
theorem dX8_openSessions_19 : decode cX8_openSessions 19 = .ok (.getfield 68, 3) := by decide +kernel
theorem dX8_openSessions_22 : decode cX8_openSessions 22 = .ok (.iload_n 2, 1) := by decide +kernel
theorem dX8_openSessions_23 : decode cX8_openSessions 23 = .ok (.baload, 1) := by decide +kernel
theorem dX8_openSessions_24 : decode cX8_openSessions 24 = .ok (.ifCond .eq 7, 3) := by decide +kernel
theorem dX8_openSessions_27 : decode cX8_openSessions 27 = .ok (.iconst 1, 1) := by decide +kernel
theorem dX8_openSessions_28 : decode cX8_openSessions 28 = .ok (.goto 4, 3) := by decide +kernel
theorem dX8_openSessions_31 : decode cX8_openSessions 31 = .ok (.iconst 0, 1) := by decide +kernel
theorem dX8_openSessions_32 : decode cX8_openSessions 32 = .ok (.iadd, 1) := by decide +kernel
theorem dX8_openSessions_33 : decode cX8_openSessions 33 = .ok (.istore_n 1, 1) := by decide +kernel
theorem dX8_openSessions_34 : decode cX8_openSessions 34 = .ok (.iinc 2 1, 3) := by decide +kernel
theorem dX8_openSessions_37 : decode cX8_openSessions 37 = .ok (.goto (-28), 3) := by decide +kernel
theorem dX8_openSessions_40 : decode cX8_openSessions 40 = .ok (.iload_n 1, 1) := by decide +kernel
theorem dX8_openSessions_41 : decode cX8_openSessions 41 = .ok (.ireturn, 1) := by decide +kernel
theorem dX8_pass_0 : decode cX8_pass 0 = .ok (.iload_n 1, 1) := by decide +kernel
theorem dX8_pass_1 : decode cX8_pass 1 = .ok (.iconst 1, 1) := by decide +kernel
theorem dX8_pass_2 : decode cX8_pass 2 = .ok (.sipush 3000, 3) := by decide +kernel
theorem dX8_pass_5 : decode cX8_pass 5 = .ok (.invokestatic 93, 3) := by decide +kernel
theorem dX8_pass_8 : decode cX8_pass 8 = .ok (.istore_n 2, 1) := by decide +kernel
theorem dX8_pass_9 : decode cX8_pass 9 = .ok (.aload_n 0, 1) := by decide +kernel
theorem dX8_pass_10 : decode cX8_pass 10 = .ok (.iload_n 2, 1) := by decide +kernel
theorem dX8_pass_11 : decode cX8_pass 11 = .ok (.iload_n 2, 1) := by decide +kernel
theorem dX8_pass_12 : decode cX8_pass 12 = .ok (.ifCond .eq 18, 3) := by decide +kernel
theorem dX8_pass_15 : decode cX8_pass 15 = .ok (.aload_n 0, 1) := by decide +kernel
theorem dX8_pass_16 : decode cX8_pass 16 = .ok (.getfield 119, 3) := by decide +kernel
theorem dX8_pass_19 : decode cX8_pass 19 = .ok (.iload_n 1, 1) := by decide +kernel
theorem dX8_pass_20 : decode cX8_pass 20 = .ok (.iadd, 1) := by decide +kernel
theorem dX8_pass_21 : decode cX8_pass 21 = .ok (.ldc 177, 2) := by decide +kernel
theorem dX8_pass_23 : decode cX8_pass 23 = .ok (.if_icmp .gt 7, 3) := by decide +kernel
theorem dX8_pass_26 : decode cX8_pass 26 = .ok (.iconst 1, 1) := by decide +kernel
theorem dX8_pass_27 : decode cX8_pass 27 = .ok (.goto 4, 3) := by decide +kernel
theorem dX8_pass_30 : decode cX8_pass 30 = .ok (.iconst 0, 1) := by decide +kernel
theorem dX8_pass_31 : decode cX8_pass 31 = .ok (.iconst 1, 1) := by decide +kernel
theorem dX8_pass_32 : decode cX8_pass 32 = .ok (.invokevirtual 123, 3) := by decide +kernel
theorem dX8_pass_35 : decode cX8_pass 35 = .ok (.ifCond .ne 5, 3) := by decide +kernel
theorem dX8_pass_38 : decode cX8_pass 38 = .ok (.iconst 0, 1) := by decide +kernel
theorem dX8_pass_39 : decode cX8_pass 39 = .ok (.ireturn, 1) := by decide +kernel
theorem dX8_pass_40 : decode cX8_pass 40 = .ok (.iconst 0, 1) := by decide +kernel
theorem dX8_pass_41 : decode cX8_pass 41 = .ok (.istore_n 3, 1) := by decide +kernel
theorem dX8_pass_42 : decode cX8_pass 42 = .ok (.iconst 0, 1) := by decide +kernel
theorem dX8_pass_43 : decode cX8_pass 43 = .ok (.istore 4, 2) := by decide +kernel
theorem dX8_pass_45 : decode cX8_pass 45 = .ok (.iload 4, 2) := by decide +kernel
theorem dX8_pass_47 : decode cX8_pass 47 = .ok (.iload_n 1, 1) := by decide +kernel
theorem dX8_pass_48 : decode cX8_pass 48 = .ok (.if_icmp .ge 27, 3) := by decide +kernel
theorem dX8_pass_51 : decode cX8_pass 51 = .ok (.aload_n 0, 1) := by decide +kernel
theorem dX8_pass_52 : decode cX8_pass 52 = .ok (.dup, 1) := by decide +kernel
theorem dX8_pass_53 : decode cX8_pass 53 = .ok (.getfield 119, 3) := by decide +kernel
theorem dX8_pass_56 : decode cX8_pass 56 = .ok (.iconst 1, 1) := by decide +kernel
theorem dX8_pass_57 : decode cX8_pass 57 = .ok (.iadd, 1) := by decide +kernel
theorem dX8_pass_58 : decode cX8_pass 58 = .ok (.putfield 119, 3) := by decide +kernel
theorem dX8_pass_61 : decode cX8_pass 61 = .ok (.iload_n 3, 1) := by decide +kernel
theorem dX8_pass_62 : decode cX8_pass 62 = .ok (.aload_n 0, 1) := by decide +kernel
theorem dX8_pass_63 : decode cX8_pass 63 = .ok (.iconst (-1), 1) := by decide +kernel
theorem dX8_pass_64 : decode cX8_pass 64 = .ok (.invokevirtual 148, 3) := by decide +kernel
theorem dX8_pass_67 : decode cX8_pass 67 = .ok (.iadd, 1) := by decide +kernel
theorem dX8_pass_68 : decode cX8_pass 68 = .ok (.istore_n 3, 1) := by decide +kernel
theorem dX8_pass_69 : decode cX8_pass 69 = .ok (.iinc 4 1, 3) := by decide +kernel
theorem dX8_pass_72 : decode cX8_pass 72 = .ok (.goto (-27), 3) := by decide +kernel
theorem dX8_pass_75 : decode cX8_pass 75 = .ok (.iconst 0, 1) := by decide +kernel
theorem dX8_pass_76 : decode cX8_pass 76 = .ok (.istore 4, 2) := by decide +kernel
theorem dX8_pass_78 : decode cX8_pass 78 = .ok (.iload 4, 2) := by decide +kernel
theorem dX8_pass_80 : decode cX8_pass 80 = .ok (.aload_n 0, 1) := by decide +kernel
theorem dX8_pass_81 : decode cX8_pass 81 = .ok (.getfield 107, 3) := by decide +kernel
theorem dX8_pass_84 : decode cX8_pass 84 = .ok (.if_icmp .ge 54, 3) := by decide +kernel
theorem dX8_pass_87 : decode cX8_pass 87 = .ok (.aload_n 0, 1) := by decide +kernel
theorem dX8_pass_88 : decode cX8_pass 88 = .ok (.getfield 44, 3) := by decide +kernel
theorem dX8_pass_91 : decode cX8_pass 91 = .ok (.iload 4, 2) := by decide +kernel
theorem dX8_pass_93 : decode cX8_pass 93 = .ok (.aload_n 0, 1) := by decide +kernel
theorem dX8_pass_94 : decode cX8_pass 94 = .ok (.getfield 44, 3) := by decide +kernel
theorem dX8_pass_97 : decode cX8_pass 97 = .ok (.iload 4, 2) := by decide +kernel
theorem dX8_pass_99 : decode cX8_pass 99 = .ok (.iaload, 1) := by decide +kernel
theorem dX8_pass_100 : decode cX8_pass 100 = .ok (.ifCond .ne 24, 3) := by decide +kernel
theorem dX8_pass_103 : decode cX8_pass 103 = .ok (.aload_n 0, 1) := by decide +kernel
theorem dX8_pass_104 : decode cX8_pass 104 = .ok (.getfield 119, 3) := by decide +kernel
theorem dX8_pass_107 : decode cX8_pass 107 = .ok (.aload_n 0, 1) := by decide +kernel
theorem dX8_pass_108 : decode cX8_pass 108 = .ok (.getfield 41, 3) := by decide +kernel
theorem dX8_pass_111 : decode cX8_pass 111 = .ok (.iload 4, 2) := by decide +kernel
theorem dX8_pass_113 : decode cX8_pass 113 = .ok (.iaload, 1) := by decide +kernel
theorem dX8_pass_114 : decode cX8_pass 114 = .ok (.isub, 1) := by decide +kernel
theorem dX8_pass_115 : decode cX8_pass 115 = .ok (.bipush 60, 2) := by decide +kernel
theorem dX8_pass_117 : decode cX8_pass 117 = .ok (.if_icmp .lt 7, 3) := by decide +kernel
theorem dX8_pass_120 : decode cX8_pass 120 = .ok (.iconst 3, 1) := by decide +kernel
theorem dX8_pass_121 : decode cX8_pass 121 = .ok (.goto 10, 3) := by decide +kernel
theorem dX8_pass_124 : decode cX8_pass 124 = .ok (.aload_n 0, 1) := by decide +kernel
theorem dX8_pass_125 : decode cX8_pass 125 = .ok (.getfield 44, 3) := by decide +kernel
theorem dX8_pass_128 : decode cX8_pass 128 = .ok (.iload 4, 2) := by decide +kernel
theorem dX8_pass_130 : decode cX8_pass 130 = .ok (.iaload, 1) := by decide +kernel
theorem dX8_pass_131 : decode cX8_pass 131 = .ok (.iastore, 1) := by decide +kernel
theorem dX8_pass_132 : decode cX8_pass 132 = .ok (.iinc 4 1, 3) := by decide +kernel
theorem dX8_pass_135 : decode cX8_pass 135 = .ok (.goto (-57), 3) := by decide +kernel
theorem dX8_pass_138 : decode cX8_pass 138 = .ok (.iload_n 3, 1) := by decide +kernel
theorem dX8_pass_139 : decode cX8_pass 139 = .ok (.ireturn, 1) := by decide +kernel
theorem dX8_clock_0 : decode cX8_clock 0 = .ok (.aload_n 0, 1) := by decide +kernel
theorem dX8_clock_1 : decode cX8_clock 1 = .ok (.iconst 0, 1) := by decide +kernel
theorem dX8_clock_2 : decode cX8_clock 2 = .ok (.putfield 86, 3) := by decide +kernel
theorem dX8_clock_5 : decode cX8_clock 5 = .ok (.aload_n 0, 1) := by decide +kernel
theorem dX8_clock_6 : decode cX8_clock 6 = .ok (.getfield 119, 3) := by decide +kernel
theorem dX8_clock_9 : decode cX8_clock 9 = .ok (.ireturn, 1) := by decide +kernel
theorem dX8_steps_0 : decode cX8_steps 0 = .ok (.aload_n 0, 1) := by decide +kernel
theorem dX8_steps_1 : decode cX8_steps 1 = .ok (.iconst 0, 1) := by decide +kernel
theorem dX8_steps_2 : decode cX8_steps 2 = .ok (.putfield 86, 3) := by decide +kernel
theorem dX8_steps_5 : decode cX8_steps 5 = .ok (.aload_n 0, 1) := by decide +kernel
theorem dX8_steps_6 : decode cX8_steps 6 = .ok (.getfield 116, 3) := by decide +kernel
theorem dX8_steps_9 : decode cX8_steps 9 = .ok (.ireturn, 1) := by decide +kernel
theorem dX8_kind_0 : decode cX8_kind 0 = .ok (.aload_n 0, 1) := by decide +kernel
theorem dX8_kind_1 : decode cX8_kind 1 = .ok (.iload_n 1, 1) := by decide +kernel
theorem dX8_kind_2 : decode cX8_kind 2 = .ok (.iconst 0, 1) := by decide +kernel
theorem dX8_kind_3 : decode cX8_kind 3 = .ok (.aload_n 0, 1) := by decide +kernel
theorem dX8_kind_4 : decode cX8_kind 4 = .ok (.getfield 116, 3) := by decide +kernel
theorem dX8_kind_7 : decode cX8_kind 7 = .ok (.iconst 1, 1) := by decide +kernel
theorem dX8_kind_8 : decode cX8_kind 8 = .ok (.isub, 1) := by decide +kernel
theorem dX8_kind_9 : decode cX8_kind 9 = .ok (.invokestatic 93, 3) := by decide +kernel
theorem dX8_kind_12 : decode cX8_kind 12 = .ok (.iconst 1, 1) := by decide +kernel
theorem dX8_kind_13 : decode cX8_kind 13 = .ok (.iconst 1, 1) := by decide +kernel
theorem dX8_kind_14 : decode cX8_kind 14 = .ok (.invokevirtual 123, 3) := by decide +kernel
theorem dX8_kind_17 : decode cX8_kind 17 = .ok (.ifCond .eq 12, 3) := by decide +kernel
theorem dX8_kind_20 : decode cX8_kind 20 = .ok (.aload_n 0, 1) := by decide +kernel
theorem dX8_kind_21 : decode cX8_kind 21 = .ok (.getfield 80, 3) := by decide +kernel
theorem dX8_kind_24 : decode cX8_kind 24 = .ok (.iload_n 1, 1) := by decide +kernel
theorem dX8_kind_25 : decode cX8_kind 25 = .ok (.iaload, 1) := by decide +kernel
theorem dX8_kind_26 : decode cX8_kind 26 = .ok (.goto 4, 3) := by decide +kernel
theorem dX8_kind_29 : decode cX8_kind 29 = .ok (.iconst 0, 1) := by decide +kernel
theorem dX8_kind_30 : decode cX8_kind 30 = .ok (.ireturn, 1) := by decide +kernel
theorem dX8_seal_0 : decode cX8_seal 0 = .ok (.aload_n 0, 1) := by decide +kernel
theorem dX8_seal_1 : decode cX8_seal 1 = .ok (.iload_n 1, 1) := by decide +kernel
theorem dX8_seal_2 : decode cX8_seal 2 = .ok (.iconst 0, 1) := by decide +kernel
theorem dX8_seal_3 : decode cX8_seal 3 = .ok (.aload_n 0, 1) := by decide +kernel
theorem dX8_seal_4 : decode cX8_seal 4 = .ok (.getfield 116, 3) := by decide +kernel
theorem dX8_seal_7 : decode cX8_seal 7 = .ok (.iconst 1, 1) := by decide +kernel
theorem dX8_seal_8 : decode cX8_seal 8 = .ok (.isub, 1) := by decide +kernel
theorem dX8_seal_9 : decode cX8_seal 9 = .ok (.invokestatic 93, 3) := by decide +kernel
theorem dX8_seal_12 : decode cX8_seal 12 = .ok (.iconst 1, 1) := by decide +kernel
theorem dX8_seal_13 : decode cX8_seal 13 = .ok (.iconst 1, 1) := by decide +kernel
theorem dX8_seal_14 : decode cX8_seal 14 = .ok (.invokevirtual 123, 3) := by decide +kernel
theorem dX8_seal_17 : decode cX8_seal 17 = .ok (.ifCond .eq 12, 3) := by decide +kernel
theorem dX8_seal_20 : decode cX8_seal 20 = .ok (.aload_n 0, 1) := by decide +kernel
theorem dX8_seal_21 : decode cX8_seal 21 = .ok (.getfield 83, 3) := by decide +kernel
theorem dX8_seal_24 : decode cX8_seal 24 = .ok (.iload_n 1, 1) := by decide +kernel
theorem dX8_seal_25 : decode cX8_seal 25 = .ok (.iaload, 1) := by decide +kernel
theorem dX8_seal_26 : decode cX8_seal 26 = .ok (.goto 4, 3) := by decide +kernel
theorem dX8_seal_29 : decode cX8_seal 29 = .ok (.iconst 0, 1) := by decide +kernel
theorem dX8_seal_30 : decode cX8_seal 30 = .ok (.ireturn, 1) := by decide +kernel
end
section
theorem dJ9_max_7cf53_0 : decode cJ9_max_7cf53 0 = .ok (.iload_n 0, 1) := by decide +kernel
theorem dJ9_max_7cf53_1 : decode cJ9_max_7cf53 1 = .ok (.iload_n 1, 1) := by decide +kernel
theorem dJ9_max_7cf53_2 : decode cJ9_max_7cf53 2 = .ok (.if_icmp .lt 7, 3) := by decide +kernel
theorem dJ9_max_7cf53_5 : decode cJ9_max_7cf53 5 = .ok (.iload_n 0, 1) := by decide +kernel
theorem dJ9_max_7cf53_6 : decode cJ9_max_7cf53 6 = .ok (.goto 4, 3) := by decide +kernel
theorem dJ9_max_7cf53_9 : decode cJ9_max_7cf53 9 = .ok (.iload_n 1, 1) := by decide +kernel
theorem dJ9_max_7cf53_10 : decode cJ9_max_7cf53 10 = .ok (.ireturn, 1) := by decide +kernel
theorem dJ9_min_7cf53_0 : decode cJ9_min_7cf53 0 = .ok (.iload_n 0, 1) := by decide +kernel
theorem dJ9_min_7cf53_1 : decode cJ9_min_7cf53 1 = .ok (.iload_n 1, 1) := by decide +kernel
theorem dJ9_min_7cf53_2 : decode cJ9_min_7cf53 2 = .ok (.if_icmp .gt 7, 3) := by decide +kernel
theorem dJ9_min_7cf53_5 : decode cJ9_min_7cf53 5 = .ok (.iload_n 0, 1) := by decide +kernel
theorem dJ9_min_7cf53_6 : decode cJ9_min_7cf53 6 = .ok (.goto 4, 3) := by decide +kernel
theorem dJ9_min_7cf53_9 : decode cJ9_min_7cf53 9 = .ok (.iload_n 1, 1) := by decide +kernel
theorem dJ9_min_7cf53_10 : decode cJ9_min_7cf53 10 = .ok (.ireturn, 1) := by decide +kernel
theorem dJxa1e45_init_da8c8_0 : decode cJxa1e45_init_da8c8 0 = .ok (.aload_n 0, 1) := by decide +kernel
theorem dJxa1e45_init_da8c8_1 : decode cJxa1e45_init_da8c8 1 = .ok (.invokespecial 1, 3) := by decide +kernel
theorem dJxa1e45_init_da8c8_4 : decode cJxa1e45_init_da8c8 4 = .ok (.return_, 1) := by decide +kernel
theorem dJxc12de_init_da8c8_0 : decode cJxc12de_init_da8c8 0 = .ok (.aload_n 0, 1) := by decide +kernel
theorem dJxc12de_init_da8c8_1 : decode cJxc12de_init_da8c8 1 = .ok (.invokespecial 1, 3) := by decide +kernel
theorem dJxc12de_init_da8c8_4 : decode cJxc12de_init_da8c8 4 = .ok (.aload_n 0, 1) := by decide +kernel
theorem dJxc12de_init_da8c8_5 : decode cJxc12de_init_da8c8 5 = .ok (.iconst 0, 1) := by decide +kernel
theorem dJxc12de_init_da8c8_6 : decode cJxc12de_init_da8c8 6 = .ok (.putfield 7, 3) := by decide +kernel
theorem dJxc12de_init_da8c8_9 : decode cJxc12de_init_da8c8 9 = .ok (.return_, 1) := by decide +kernel
theorem dJx4a65c_init_da8c8_0 : decode cJx4a65c_init_da8c8 0 = .ok (.aload_n 0, 1) := by decide +kernel
theorem dJx4a65c_init_da8c8_1 : decode cJx4a65c_init_da8c8 1 = .ok (.invokespecial 1, 3) := by decide +kernel
theorem dJx4a65c_init_da8c8_4 : decode cJx4a65c_init_da8c8 4 = .ok (.aload_n 0, 1) := by decide +kernel
theorem dJx4a65c_init_da8c8_5 : decode cJx4a65c_init_da8c8 5 = .ok (.getstatic 39, 3) := by decide +kernel
theorem dJx4a65c_init_da8c8_8 : decode cJx4a65c_init_da8c8 8 = .ok (.putfield 9, 3) := by decide +kernel
theorem dJx4a65c_init_da8c8_11 : decode cJx4a65c_init_da8c8 11 = .ok (.return_, 1) := by decide +kernel
theorem dJx4a65c_grow_92f84_0 : decode cJx4a65c_grow_92f84 0 = .ok (.aload_n 0, 1) := by decide +kernel
theorem dJx4a65c_grow_92f84_1 : decode cJx4a65c_grow_92f84 1 = .ok (.getfield 9, 3) := by decide +kernel
theorem dJx4a65c_grow_92f84_4 : decode cJx4a65c_grow_92f84 4 = .ok (.arraylength, 1) := by decide +kernel
theorem dJx4a65c_grow_92f84_5 : decode cJx4a65c_grow_92f84 5 = .ok (.istore_n 2, 1) := by decide +kernel
theorem dJx4a65c_grow_92f84_6 : decode cJx4a65c_grow_92f84 6 = .ok (.iload_n 2, 1) := by decide +kernel
theorem dJx4a65c_grow_92f84_7 : decode cJx4a65c_grow_92f84 7 = .ok (.ifCond .gt 13, 3) := by decide +kernel
theorem dJx4a65c_grow_92f84_10 : decode cJx4a65c_grow_92f84 10 = .ok (.aload_n 0, 1) := by decide +kernel
theorem dJx4a65c_grow_92f84_11 : decode cJx4a65c_grow_92f84 11 = .ok (.getfield 9, 3) := by decide +kernel
theorem dJx4a65c_grow_92f84_14 : decode cJx4a65c_grow_92f84 14 = .ok (.getstatic 39, 3) := by decide +kernel
theorem dJx4a65c_grow_92f84_17 : decode cJx4a65c_grow_92f84 17 = .ok (.if_acmp .eq 28, 3) := by decide +kernel
theorem dJx4a65c_grow_92f84_20 : decode cJx4a65c_grow_92f84 20 = .ok (.iload_n 2, 1) := by decide +kernel
theorem dJx4a65c_grow_92f84_21 : decode cJx4a65c_grow_92f84 21 = .ok (.iload_n 1, 1) := by decide +kernel
theorem dJx4a65c_grow_92f84_22 : decode cJx4a65c_grow_92f84 22 = .ok (.iload_n 2, 1) := by decide +kernel
theorem dJx4a65c_grow_92f84_23 : decode cJx4a65c_grow_92f84 23 = .ok (.isub, 1) := by decide +kernel
theorem dJx4a65c_grow_92f84_24 : decode cJx4a65c_grow_92f84 24 = .ok (.iload_n 2, 1) := by decide +kernel
theorem dJx4a65c_grow_92f84_25 : decode cJx4a65c_grow_92f84 25 = .ok (.iconst 1, 1) := by decide +kernel
theorem dJx4a65c_grow_92f84_26 : decode cJx4a65c_grow_92f84 26 = .ok (.ishr, 1) := by decide +kernel
theorem dJx4a65c_grow_92f84_27 : decode cJx4a65c_grow_92f84 27 = .ok (.invokestatic 73, 3) := by decide +kernel
theorem dJx4a65c_grow_92f84_30 : decode cJx4a65c_grow_92f84 30 = .ok (.istore_n 3, 1) := by decide +kernel
theorem dJx4a65c_grow_92f84_31 : decode cJx4a65c_grow_92f84 31 = .ok (.aload_n 0, 1) := by decide +kernel
theorem dJx4a65c_grow_92f84_32 : decode cJx4a65c_grow_92f84 32 = .ok (.aload_n 0, 1) := by decide +kernel
theorem dJx4a65c_grow_92f84_33 : decode cJx4a65c_grow_92f84 33 = .ok (.getfield 9, 3) := by decide +kernel
theorem dJx4a65c_grow_92f84_36 : decode cJx4a65c_grow_92f84 36 = .ok (.iload_n 3, 1) := by decide +kernel
theorem dJx4a65c_grow_92f84_37 : decode cJx4a65c_grow_92f84 37 = .ok (.invokestatic 66, 3) := by decide +kernel
theorem dJx4a65c_grow_92f84_40 : decode cJx4a65c_grow_92f84 40 = .ok (.dup_x1, 1) := by decide +kernel
theorem dJx4a65c_grow_92f84_41 : decode cJx4a65c_grow_92f84 41 = .ok (.putfield 9, 3) := by decide +kernel
theorem dJx4a65c_grow_92f84_44 : decode cJx4a65c_grow_92f84 44 = .ok (.areturn, 1) := by decide +kernel
theorem dJx4a65c_grow_92f84_45 : decode cJx4a65c_grow_92f84 45 = .ok (.aload_n 0, 1) := by decide +kernel
theorem dJx4a65c_grow_92f84_46 : decode cJx4a65c_grow_92f84 46 = .ok (.bipush 10, 2) := by decide +kernel
theorem dJx4a65c_grow_92f84_48 : decode cJx4a65c_grow_92f84 48 = .ok (.iload_n 1, 1) := by decide +kernel
theorem dJx4a65c_grow_92f84_49 : decode cJx4a65c_grow_92f84 49 = .ok (.invokestatic 79, 3) := by decide +kernel
theorem dJx4a65c_grow_92f84_52 : decode cJx4a65c_grow_92f84 52 = .ok (.anewarray 7, 3) := by decide +kernel
theorem dJx4a65c_grow_92f84_55 : decode cJx4a65c_grow_92f84 55 = .ok (.dup_x1, 1) := by decide +kernel
theorem dJx4a65c_grow_92f84_56 : decode cJx4a65c_grow_92f84 56 = .ok (.putfield 9, 3) := by decide +kernel
theorem dJx4a65c_grow_92f84_59 : decode cJx4a65c_grow_92f84 59 = .ok (.areturn, 1) := by decide +kernel
theorem dJx4a65c_grow_d5877_0 : decode cJx4a65c_grow_d5877 0 = .ok (.aload_n 0, 1) := by decide +kernel
theorem dJx4a65c_grow_d5877_1 : decode cJx4a65c_grow_d5877 1 = .ok (.aload_n 0, 1) := by decide +kernel
theorem dJx4a65c_grow_d5877_2 : decode cJx4a65c_grow_d5877 2 = .ok (.getfield 48, 3) := by decide +kernel
theorem dJx4a65c_grow_d5877_5 : decode cJx4a65c_grow_d5877 5 = .ok (.iconst 1, 1) := by decide +kernel
theorem dJx4a65c_grow_d5877_6 : decode cJx4a65c_grow_d5877 6 = .ok (.iadd, 1) := by decide +kernel
theorem dJx4a65c_grow_d5877_7 : decode cJx4a65c_grow_d5877 7 = .ok (.invokevirtual 69, 3) := by decide +kernel
theorem dJx4a65c_grow_d5877_10 : decode cJx4a65c_grow_d5877 10 = .ok (.areturn, 1) := by decide +kernel
theorem dJx4a65c_size_8abf5_0 : decode cJx4a65c_size_8abf5 0 = .ok (.aload_n 0, 1) := by decide +kernel
theorem dJx4a65c_size_8abf5_1 : decode cJx4a65c_size_8abf5 1 = .ok (.getfield 48, 3) := by decide +kernel
theorem dJx4a65c_size_8abf5_4 : decode cJx4a65c_size_8abf5 4 = .ok (.ireturn, 1) := by decide +kernel
theorem dJx4a65c_elementData_915e3_0 : decode cJx4a65c_elementData_915e3 0 = .ok (.aload_n 0, 1) := by decide +kernel
theorem dJx4a65c_elementData_915e3_1 : decode cJx4a65c_elementData_915e3 1 = .ok (.getfield 9, 3) := by decide +kernel
theorem dJx4a65c_elementData_915e3_4 : decode cJx4a65c_elementData_915e3 4 = .ok (.iload_n 1, 1) := by decide +kernel
theorem dJx4a65c_elementData_915e3_5 : decode cJx4a65c_elementData_915e3 5 = .ok (.aaload, 1) := by decide +kernel
theorem dJx4a65c_elementData_915e3_6 : decode cJx4a65c_elementData_915e3 6 = .ok (.areturn, 1) := by decide +kernel
theorem dJx4a65c_get_915e3_0 : decode cJx4a65c_get_915e3 0 = .ok (.iload_n 1, 1) := by decide +kernel
theorem dJx4a65c_get_915e3_1 : decode cJx4a65c_get_915e3 1 = .ok (.aload_n 0, 1) := by decide +kernel
theorem dJx4a65c_get_915e3_2 : decode cJx4a65c_get_915e3 2 = .ok (.getfield 48, 3) := by decide +kernel
theorem dJx4a65c_get_915e3_5 : decode cJx4a65c_get_915e3 5 = .ok (.invokestatic 118, 3) := by decide +kernel
theorem dJx4a65c_get_915e3_8 : decode cJx4a65c_get_915e3 8 = .ok (.pop, 1) := by decide +kernel
theorem dJx4a65c_get_915e3_9 : decode cJx4a65c_get_915e3 9 = .ok (.aload_n 0, 1) := by decide +kernel
theorem dJx4a65c_get_915e3_10 : decode cJx4a65c_get_915e3 10 = .ok (.iload_n 1, 1) := by decide +kernel
theorem dJx4a65c_get_915e3_11 : decode cJx4a65c_get_915e3 11 = .ok (.invokevirtual 123, 3) := by decide +kernel
theorem dJx4a65c_get_915e3_14 : decode cJx4a65c_get_915e3 14 = .ok (.areturn, 1) := by decide +kernel
theorem dJx4a65c_add_72be8_0 : decode cJx4a65c_add_72be8 0 = .ok (.iload_n 3, 1) := by decide +kernel
theorem dJx4a65c_add_72be8_1 : decode cJx4a65c_add_72be8 1 = .ok (.aload_n 2, 1) := by decide +kernel
theorem dJx4a65c_add_72be8_2 : decode cJx4a65c_add_72be8 2 = .ok (.arraylength, 1) := by decide +kernel
theorem dJx4a65c_add_72be8_3 : decode cJx4a65c_add_72be8 3 = .ok (.if_icmp .ne 8, 3) := by decide +kernel
theorem dJx4a65c_add_72be8_6 : decode cJx4a65c_add_72be8 6 = .ok (.aload_n 0, 1) := by decide +kernel
theorem dJx4a65c_add_72be8_7 : decode cJx4a65c_add_72be8 7 = .ok (.invokevirtual 129, 3) := by decide +kernel
theorem dJx4a65c_add_72be8_10 : decode cJx4a65c_add_72be8 10 = .ok (.astore_n 2, 1) := by decide +kernel
theorem dJx4a65c_add_72be8_11 : decode cJx4a65c_add_72be8 11 = .ok (.aload_n 2, 1) := by decide +kernel
theorem dJx4a65c_add_72be8_12 : decode cJx4a65c_add_72be8 12 = .ok (.iload_n 3, 1) := by decide +kernel
theorem dJx4a65c_add_72be8_13 : decode cJx4a65c_add_72be8 13 = .ok (.aload_n 1, 1) := by decide +kernel
theorem dJx4a65c_add_72be8_14 : decode cJx4a65c_add_72be8 14 = .ok (.aastore, 1) := by decide +kernel
theorem dJx4a65c_add_72be8_15 : decode cJx4a65c_add_72be8 15 = .ok (.aload_n 0, 1) := by decide +kernel
theorem dJx4a65c_add_72be8_16 : decode cJx4a65c_add_72be8 16 = .ok (.iload_n 3, 1) := by decide +kernel
theorem dJx4a65c_add_72be8_17 : decode cJx4a65c_add_72be8 17 = .ok (.iconst 1, 1) := by decide +kernel
theorem dJx4a65c_add_72be8_18 : decode cJx4a65c_add_72be8 18 = .ok (.iadd, 1) := by decide +kernel
theorem dJx4a65c_add_72be8_19 : decode cJx4a65c_add_72be8 19 = .ok (.putfield 48, 3) := by decide +kernel
theorem dJx4a65c_add_72be8_22 : decode cJx4a65c_add_72be8 22 = .ok (.return_, 1) := by decide +kernel
theorem dJx4a65c_add_9ea2d_0 : decode cJx4a65c_add_9ea2d 0 = .ok (.aload_n 0, 1) := by decide +kernel
theorem dJx4a65c_add_9ea2d_1 : decode cJx4a65c_add_9ea2d 1 = .ok (.dup, 1) := by decide +kernel
theorem dJx4a65c_add_9ea2d_2 : decode cJx4a65c_add_9ea2d 2 = .ok (.getfield 63, 3) := by decide +kernel
theorem dJx4a65c_add_9ea2d_5 : decode cJx4a65c_add_9ea2d 5 = .ok (.iconst 1, 1) := by decide +kernel
theorem dJx4a65c_add_9ea2d_6 : decode cJx4a65c_add_9ea2d 6 = .ok (.iadd, 1) := by decide +kernel
theorem dJx4a65c_add_9ea2d_7 : decode cJx4a65c_add_9ea2d 7 = .ok (.putfield 63, 3) := by decide +kernel
theorem dJx4a65c_add_9ea2d_10 : decode cJx4a65c_add_9ea2d 10 = .ok (.aload_n 0, 1) := by decide +kernel
theorem dJx4a65c_add_9ea2d_11 : decode cJx4a65c_add_9ea2d 11 = .ok (.aload_n 1, 1) := by decide +kernel
theorem dJx4a65c_add_9ea2d_12 : decode cJx4a65c_add_9ea2d 12 = .ok (.aload_n 0, 1) := by decide +kernel
theorem dJx4a65c_add_9ea2d_13 : decode cJx4a65c_add_9ea2d 13 = .ok (.getfield 9, 3) := by decide +kernel
theorem dJx4a65c_add_9ea2d_16 : decode cJx4a65c_add_9ea2d 16 = .ok (.aload_n 0, 1) := by decide +kernel
theorem dJx4a65c_add_9ea2d_17 : decode cJx4a65c_add_9ea2d 17 = .ok (.getfield 48, 3) := by decide +kernel
theorem dJx4a65c_add_9ea2d_20 : decode cJx4a65c_add_9ea2d 20 = .ok (.invokevirtual 131, 3) := by decide +kernel
theorem dJx4a65c_add_9ea2d_23 : decode cJx4a65c_add_9ea2d 23 = .ok (.iconst 1, 1) := by decide +kernel
theorem dJx4a65c_add_9ea2d_24 : decode cJx4a65c_add_9ea2d 24 = .ok (.ireturn, 1) := by decide +kernel
theorem dJ7_copyOf_1904c_0 : decode cJ7_copyOf_1904c 0 = .ok (.aload_n 0, 1) := by decide +kernel
theorem dJ7_copyOf_1904c_1 : decode cJ7_copyOf_1904c 1 = .ok (.iload_n 1, 1) := by decide +kernel
theorem dJ7_copyOf_1904c_2 : decode cJ7_copyOf_1904c 2 = .ok (.aload_n 0, 1) := by decide +kernel
theorem dJ7_copyOf_1904c_3 : decode cJ7_copyOf_1904c 3 = .ok (.invokevirtual 86, 3) := by decide +kernel
theorem dJ7_copyOf_1904c_6 : decode cJ7_copyOf_1904c 6 = .ok (.invokestatic 300, 3) := by decide +kernel
theorem dJ7_copyOf_1904c_9 : decode cJ7_copyOf_1904c 9 = .ok (.areturn, 1) := by decide +kernel
theorem dJ7_copyOf_6403c_0 : decode cJ7_copyOf_6403c 0 = .ok (.aload_n 2, 1) := by decide +kernel
theorem dJ7_copyOf_6403c_1 : decode cJ7_copyOf_6403c 1 = .ok (.ldc 110, 2) := by decide +kernel
theorem dJ7_copyOf_6403c_3 : decode cJ7_copyOf_6403c 3 = .ok (.if_acmp .ne 10, 3) := by decide +kernel
theorem dJ7_copyOf_6403c_6 : decode cJ7_copyOf_6403c 6 = .ok (.iload_n 1, 1) := by decide +kernel
theorem dJ7_copyOf_6403c_7 : decode cJ7_copyOf_6403c 7 = .ok (.anewarray 2, 3) := by decide +kernel
theorem dJ7_copyOf_6403c_10 : decode cJ7_copyOf_6403c 10 = .ok (.goto 14, 3) := by decide +kernel
theorem dJ7_copyOf_6403c_13 : decode cJ7_copyOf_6403c 13 = .ok (.aload_n 2, 1) := by decide +kernel
theorem dJ7_copyOf_6403c_14 : decode cJ7_copyOf_6403c 14 = .ok (.invokevirtual 90, 3) := by decide +kernel
theorem dJ7_copyOf_6403c_17 : decode cJ7_copyOf_6403c 17 = .ok (.iload_n 1, 1) := by decide +kernel
theorem dJ7_copyOf_6403c_18 : decode cJ7_copyOf_6403c 18 = .ok (.invokestatic 95, 3) := by decide +kernel
theorem dJ7_copyOf_6403c_21 : decode cJ7_copyOf_6403c 21 = .ok (.checkcast 110, 3) := by decide +kernel
theorem dJ7_copyOf_6403c_24 : decode cJ7_copyOf_6403c 24 = .ok (.astore_n 3, 1) := by decide +kernel
theorem dJ7_copyOf_6403c_25 : decode cJ7_copyOf_6403c 25 = .ok (.aload_n 0, 1) := by decide +kernel
theorem dJ7_copyOf_6403c_26 : decode cJ7_copyOf_6403c 26 = .ok (.iconst 0, 1) := by decide +kernel
theorem dJ7_copyOf_6403c_27 : decode cJ7_copyOf_6403c 27 = .ok (.aload_n 3, 1) := by decide +kernel
theorem dJ7_copyOf_6403c_28 : decode cJ7_copyOf_6403c 28 = .ok (.iconst 0, 1) := by decide +kernel
theorem dJ7_copyOf_6403c_29 : decode cJ7_copyOf_6403c 29 = .ok (.aload_n 0, 1) := by decide +kernel
theorem dJ7_copyOf_6403c_30 : decode cJ7_copyOf_6403c 30 = .ok (.arraylength, 1) := by decide +kernel
theorem dJ7_copyOf_6403c_31 : decode cJ7_copyOf_6403c 31 = .ok (.iload_n 1, 1) := by decide +kernel
theorem dJ7_copyOf_6403c_32 : decode cJ7_copyOf_6403c 32 = .ok (.invokestatic 304, 3) := by decide +kernel
theorem dJ7_copyOf_6403c_35 : decode cJ7_copyOf_6403c 35 = .ok (.invokestatic 150, 3) := by decide +kernel
theorem dJ7_copyOf_6403c_38 : decode cJ7_copyOf_6403c 38 = .ok (.aload_n 3, 1) := by decide +kernel
theorem dJ7_copyOf_6403c_39 : decode cJ7_copyOf_6403c 39 = .ok (.areturn, 1) := by decide +kernel
theorem dJ15_checkIndex_7cf53_0 : decode cJ15_checkIndex_7cf53 0 = .ok (.iload_n 0, 1) := by decide +kernel
theorem dJ15_checkIndex_7cf53_1 : decode cJ15_checkIndex_7cf53 1 = .ok (.iload_n 1, 1) := by decide +kernel
theorem dJ15_checkIndex_7cf53_2 : decode cJ15_checkIndex_7cf53 2 = .ok (.aconst_null, 1) := by decide +kernel
theorem dJ15_checkIndex_7cf53_3 : decode cJ15_checkIndex_7cf53 3 = .ok (.invokestatic 105, 3) := by decide +kernel
theorem dJ15_checkIndex_7cf53_6 : decode cJ15_checkIndex_7cf53 6 = .ok (.ireturn, 1) := by decide +kernel
theorem dJ8_newLength_cabcc_0 : decode cJ8_newLength_cabcc 0 = .ok (.iload_n 0, 1) := by decide +kernel
theorem dJ8_newLength_cabcc_1 : decode cJ8_newLength_cabcc 1 = .ok (.iload_n 1, 1) := by decide +kernel
theorem dJ8_newLength_cabcc_2 : decode cJ8_newLength_cabcc 2 = .ok (.iload_n 2, 1) := by decide +kernel
theorem dJ8_newLength_cabcc_3 : decode cJ8_newLength_cabcc 3 = .ok (.invokestatic 194, 3) := by decide +kernel
theorem dJ8_newLength_cabcc_6 : decode cJ8_newLength_cabcc 6 = .ok (.iadd, 1) := by decide +kernel
theorem dJ8_newLength_cabcc_7 : decode cJ8_newLength_cabcc 7 = .ok (.istore_n 3, 1) := by decide +kernel
theorem dJ8_newLength_cabcc_8 : decode cJ8_newLength_cabcc 8 = .ok (.iconst 0, 1) := by decide +kernel
theorem dJ8_newLength_cabcc_9 : decode cJ8_newLength_cabcc 9 = .ok (.iload_n 3, 1) := by decide +kernel
theorem dJ8_newLength_cabcc_10 : decode cJ8_newLength_cabcc 10 = .ok (.if_icmp .ge 11, 3) := by decide +kernel
theorem dJ8_newLength_cabcc_13 : decode cJ8_newLength_cabcc 13 = .ok (.iload_n 3, 1) := by decide +kernel
theorem dJ8_newLength_cabcc_14 : decode cJ8_newLength_cabcc 14 = .ok (.ldc 200, 2) := by decide +kernel
theorem dJ8_newLength_cabcc_16 : decode cJ8_newLength_cabcc 16 = .ok (.if_icmp .gt 5, 3) := by decide +kernel
theorem dJ8_newLength_cabcc_19 : decode cJ8_newLength_cabcc 19 = .ok (.iload_n 3, 1) := by decide +kernel
theorem dJ8_newLength_cabcc_20 : decode cJ8_newLength_cabcc 20 = .ok (.ireturn, 1) := by decide +kernel
theorem dJ8_newLength_cabcc_21 : decode cJ8_newLength_cabcc 21 = .ok (.iload_n 0, 1) := by decide +kernel
theorem dJ8_newLength_cabcc_22 : decode cJ8_newLength_cabcc 22 = .ok (.iload_n 1, 1) := by decide +kernel
theorem dJ8_newLength_cabcc_23 : decode cJ8_newLength_cabcc 23 = .ok (.invokestatic 201, 3) := by decide +kernel
theorem dJ8_newLength_cabcc_26 : decode cJ8_newLength_cabcc 26 = .ok (.ireturn, 1) := by decide +kernel
theorem dJ8_hugeLength_7cf53_0 : decode cJ8_hugeLength_7cf53 0 = .ok (.iload_n 0, 1) := by decide +kernel
theorem dJ8_hugeLength_7cf53_1 : decode cJ8_hugeLength_7cf53 1 = .ok (.iload_n 1, 1) := by decide +kernel
theorem dJ8_hugeLength_7cf53_2 : decode cJ8_hugeLength_7cf53 2 = .ok (.iadd, 1) := by decide +kernel
theorem dJ8_hugeLength_7cf53_3 : decode cJ8_hugeLength_7cf53 3 = .ok (.istore_n 2, 1) := by decide +kernel
theorem dJ8_hugeLength_7cf53_4 : decode cJ8_hugeLength_7cf53 4 = .ok (.iload_n 2, 1) := by decide +kernel
theorem dJ8_hugeLength_7cf53_5 : decode cJ8_hugeLength_7cf53 5 = .ok (.ifCond .ge 44, 3) := by decide +kernel
theorem dJ8_hugeLength_7cf53_8 : decode cJ8_hugeLength_7cf53 8 = .ok (.new 204, 3) := by decide +kernel
theorem dJ8_hugeLength_7cf53_11 : decode cJ8_hugeLength_7cf53 11 = .ok (.dup, 1) := by decide +kernel
theorem dJ8_hugeLength_7cf53_12 : decode cJ8_hugeLength_7cf53 12 = .ok (.new 89, 3) := by decide +kernel
theorem dJ8_hugeLength_7cf53_15 : decode cJ8_hugeLength_7cf53 15 = .ok (.dup, 1) := by decide +kernel
theorem dJ8_hugeLength_7cf53_16 : decode cJ8_hugeLength_7cf53 16 = .ok (.invokespecial 91, 3) := by decide +kernel
theorem dJ8_hugeLength_7cf53_19 : decode cJ8_hugeLength_7cf53 19 = .ok (.ldc 206, 2) := by decide +kernel
theorem dJ8_hugeLength_7cf53_21 : decode cJ8_hugeLength_7cf53 21 = .ok (.invokevirtual 94, 3) := by decide +kernel
theorem dJ8_hugeLength_7cf53_24 : decode cJ8_hugeLength_7cf53 24 = .ok (.iload_n 0, 1) := by decide +kernel
theorem dJ8_hugeLength_7cf53_25 : decode cJ8_hugeLength_7cf53 25 = .ok (.invokevirtual 98, 3) := by decide +kernel
theorem dJ8_hugeLength_7cf53_28 : decode cJ8_hugeLength_7cf53 28 = .ok (.ldc 208, 2) := by decide +kernel
theorem dJ8_hugeLength_7cf53_30 : decode cJ8_hugeLength_7cf53 30 = .ok (.invokevirtual 94, 3) := by decide +kernel
theorem dJ8_hugeLength_7cf53_33 : decode cJ8_hugeLength_7cf53 33 = .ok (.iload_n 1, 1) := by decide +kernel
theorem dJ8_hugeLength_7cf53_34 : decode cJ8_hugeLength_7cf53 34 = .ok (.invokevirtual 98, 3) := by decide +kernel
theorem dJ8_hugeLength_7cf53_37 : decode cJ8_hugeLength_7cf53 37 = .ok (.ldc 210, 2) := by decide +kernel
theorem dJ8_hugeLength_7cf53_39 : decode cJ8_hugeLength_7cf53 39 = .ok (.invokevirtual 94, 3) := by decide +kernel
theorem dJ8_hugeLength_7cf53_42 : decode cJ8_hugeLength_7cf53 42 = .ok (.invokevirtual 101, 3) := by decide +kernel
theorem dJ8_hugeLength_7cf53_45 : decode cJ8_hugeLength_7cf53 45 = .ok (.invokespecial 212, 3) := by decide +kernel
theorem dJ8_hugeLength_7cf53_48 : decode cJ8_hugeLength_7cf53 48 = .ok (.athrow, 1) := by decide +kernel
theorem dJ8_hugeLength_7cf53_49 : decode cJ8_hugeLength_7cf53 49 = .ok (.iload_n 2, 1) := by decide +kernel
theorem dJ8_hugeLength_7cf53_50 : decode cJ8_hugeLength_7cf53 50 = .ok (.ldc 200, 2) := by decide +kernel
theorem dJ8_hugeLength_7cf53_52 : decode cJ8_hugeLength_7cf53 52 = .ok (.if_icmp .gt 6, 3) := by decide +kernel
theorem dJ8_hugeLength_7cf53_55 : decode cJ8_hugeLength_7cf53 55 = .ok (.ldc 200, 2) := by decide +kernel
theorem dJ8_hugeLength_7cf53_57 : decode cJ8_hugeLength_7cf53 57 = .ok (.ireturn, 1) := by decide +kernel
theorem dJ8_hugeLength_7cf53_58 : decode cJ8_hugeLength_7cf53 58 = .ok (.iload_n 2, 1) := by decide +kernel
theorem dJ8_hugeLength_7cf53_59 : decode cJ8_hugeLength_7cf53 59 = .ok (.ireturn, 1) := by decide +kernel
theorem dJ3_checkIndex_8e157_0 : decode cJ3_checkIndex_8e157 0 = .ok (.iload_n 0, 1) := by decide +kernel
theorem dJ3_checkIndex_8e157_1 : decode cJ3_checkIndex_8e157 1 = .ok (.ifCond .lt 8, 3) := by decide +kernel
theorem dJ3_checkIndex_8e157_4 : decode cJ3_checkIndex_8e157 4 = .ok (.iload_n 0, 1) := by decide +kernel
theorem dJ3_checkIndex_8e157_5 : decode cJ3_checkIndex_8e157 5 = .ok (.iload_n 1, 1) := by decide +kernel
theorem dJ3_checkIndex_8e157_6 : decode cJ3_checkIndex_8e157 6 = .ok (.if_icmp .lt 10, 3) := by decide +kernel
theorem dJ3_checkIndex_8e157_9 : decode cJ3_checkIndex_8e157 9 = .ok (.aload_n 2, 1) := by decide +kernel
theorem dJ3_checkIndex_8e157_10 : decode cJ3_checkIndex_8e157 10 = .ok (.iload_n 0, 1) := by decide +kernel
theorem dJ3_checkIndex_8e157_11 : decode cJ3_checkIndex_8e157 11 = .ok (.iload_n 1, 1) := by decide +kernel
theorem dJ3_checkIndex_8e157_12 : decode cJ3_checkIndex_8e157 12 = .ok (.invokestatic 95, 3) := by decide +kernel
theorem dJ3_checkIndex_8e157_15 : decode cJ3_checkIndex_8e157 15 = .ok (.athrow, 1) := by decide +kernel
theorem dJ3_checkIndex_8e157_16 : decode cJ3_checkIndex_8e157 16 = .ok (.iload_n 0, 1) := by decide +kernel
theorem dJ3_checkIndex_8e157_17 : decode cJ3_checkIndex_8e157 17 = .ok (.ireturn, 1) := by decide +kernel
end
section
theorem dL_addPerson_0 : decode cL_addPerson 0 = .ok (.aload_n 2, 1) := by decide +kernel
theorem dL_addPerson_1 : decode cL_addPerson 1 = .ok (.iconst 0, 1) := by decide +kernel
theorem dL_addPerson_2 : decode cL_addPerson 2 = .ok (.aload_n 0, 1) := by decide +kernel
theorem dL_addPerson_3 : decode cL_addPerson 3 = .ok (.iload_n 1, 1) := by decide +kernel
theorem dL_addPerson_4 : decode cL_addPerson 4 = .ok (.invokevirtual 7, 3) := by decide +kernel
theorem dL_addPerson_7 : decode cL_addPerson 7 = .ok (.i2l, 1) := by decide +kernel
theorem dL_addPerson_8 : decode cL_addPerson 8 = .ok (.lastore, 1) := by decide +kernel
theorem dL_addPerson_9 : decode cL_addPerson 9 = .ok (.goto 9, 3) := by decide +kernel
theorem dL_addPerson_12 : decode cL_addPerson 12 = .ok (.astore_n 3, 1) := by decide +kernel
theorem dL_addPerson_13 : decode cL_addPerson 13 = .ok (.iconst 1, 1) := by decide +kernel
theorem dL_addPerson_14 : decode cL_addPerson 14 = .ok (.ireturn, 1) := by decide +kernel
theorem dL_addPerson_15 : decode cL_addPerson 15 = .ok (.astore_n 3, 1) := by decide +kernel
theorem dL_addPerson_16 : decode cL_addPerson 16 = .ok (.iconst 2, 1) := by decide +kernel
theorem dL_addPerson_17 : decode cL_addPerson 17 = .ok (.ireturn, 1) := by decide +kernel
theorem dL_addPerson_18 : decode cL_addPerson 18 = .ok (.iconst 0, 1) := by decide +kernel
theorem dL_addPerson_19 : decode cL_addPerson 19 = .ok (.ireturn, 1) := by decide +kernel
theorem dL_addMachine_0 : decode cL_addMachine 0 = .ok (.aload_n 2, 1) := by decide +kernel
theorem dL_addMachine_1 : decode cL_addMachine 1 = .ok (.iconst 0, 1) := by decide +kernel
theorem dL_addMachine_2 : decode cL_addMachine 2 = .ok (.aload_n 0, 1) := by decide +kernel
theorem dL_addMachine_3 : decode cL_addMachine 3 = .ok (.iload_n 1, 1) := by decide +kernel
theorem dL_addMachine_4 : decode cL_addMachine 4 = .ok (.invokevirtual 17, 3) := by decide +kernel
theorem dL_addMachine_7 : decode cL_addMachine 7 = .ok (.i2l, 1) := by decide +kernel
theorem dL_addMachine_8 : decode cL_addMachine 8 = .ok (.lastore, 1) := by decide +kernel
theorem dL_addMachine_9 : decode cL_addMachine 9 = .ok (.goto 9, 3) := by decide +kernel
theorem dL_addMachine_12 : decode cL_addMachine 12 = .ok (.astore_n 3, 1) := by decide +kernel
theorem dL_addMachine_13 : decode cL_addMachine 13 = .ok (.iconst 1, 1) := by decide +kernel
theorem dL_addMachine_14 : decode cL_addMachine 14 = .ok (.ireturn, 1) := by decide +kernel
theorem dL_addMachine_15 : decode cL_addMachine 15 = .ok (.astore_n 3, 1) := by decide +kernel
theorem dL_addMachine_16 : decode cL_addMachine 16 = .ok (.iconst 2, 1) := by decide +kernel
theorem dL_addMachine_17 : decode cL_addMachine 17 = .ok (.ireturn, 1) := by decide +kernel
theorem dL_addMachine_18 : decode cL_addMachine 18 = .ok (.iconst 0, 1) := by decide +kernel
theorem dL_addMachine_19 : decode cL_addMachine 19 = .ok (.ireturn, 1) := by decide +kernel
theorem dL_setLabel_0 : decode cL_setLabel 0 = .ok (.aload 4, 2) := by decide +kernel
theorem dL_setLabel_2 : decode cL_setLabel 2 = .ok (.iconst 0, 1) := by decide +kernel
theorem dL_setLabel_3 : decode cL_setLabel 3 = .ok (.aload_n 0, 1) := by decide +kernel
theorem dL_setLabel_4 : decode cL_setLabel 4 = .ok (.iload_n 1, 1) := by decide +kernel
theorem dL_setLabel_5 : decode cL_setLabel 5 = .ok (.iload_n 2, 1) := by decide +kernel
theorem dL_setLabel_6 : decode cL_setLabel 6 = .ok (.iload_n 3, 1) := by decide +kernel
theorem dL_setLabel_7 : decode cL_setLabel 7 = .ok (.invokevirtual 20, 3) := by decide +kernel
theorem dL_setLabel_10 : decode cL_setLabel 10 = .ok (.i2l, 1) := by decide +kernel
theorem dL_setLabel_11 : decode cL_setLabel 11 = .ok (.lastore, 1) := by decide +kernel
theorem dL_setLabel_12 : decode cL_setLabel 12 = .ok (.goto 11, 3) := by decide +kernel
theorem dL_setLabel_15 : decode cL_setLabel 15 = .ok (.astore 5, 2) := by decide +kernel
theorem dL_setLabel_17 : decode cL_setLabel 17 = .ok (.iconst 1, 1) := by decide +kernel
theorem dL_setLabel_18 : decode cL_setLabel 18 = .ok (.ireturn, 1) := by decide +kernel
theorem dL_setLabel_19 : decode cL_setLabel 19 = .ok (.astore 5, 2) := by decide +kernel
theorem dL_setLabel_21 : decode cL_setLabel 21 = .ok (.iconst 2, 1) := by decide +kernel
theorem dL_setLabel_22 : decode cL_setLabel 22 = .ok (.ireturn, 1) := by decide +kernel
theorem dL_setLabel_23 : decode cL_setLabel 23 = .ok (.iconst 0, 1) := by decide +kernel
theorem dL_setLabel_24 : decode cL_setLabel 24 = .ok (.ireturn, 1) := by decide +kernel
theorem dL_takeAway_0 : decode cL_takeAway 0 = .ok (.aload_n 3, 1) := by decide +kernel
theorem dL_takeAway_1 : decode cL_takeAway 1 = .ok (.iconst 0, 1) := by decide +kernel
theorem dL_takeAway_2 : decode cL_takeAway 2 = .ok (.aload_n 0, 1) := by decide +kernel
theorem dL_takeAway_3 : decode cL_takeAway 3 = .ok (.iload_n 1, 1) := by decide +kernel
theorem dL_takeAway_4 : decode cL_takeAway 4 = .ok (.iload_n 2, 1) := by decide +kernel
theorem dL_takeAway_5 : decode cL_takeAway 5 = .ok (.invokevirtual 26, 3) := by decide +kernel
theorem dL_takeAway_8 : decode cL_takeAway 8 = .ok (.i2l, 1) := by decide +kernel
theorem dL_takeAway_9 : decode cL_takeAway 9 = .ok (.lastore, 1) := by decide +kernel
theorem dL_takeAway_10 : decode cL_takeAway 10 = .ok (.goto 7, 3) := by decide +kernel
theorem dL_takeAway_13 : decode cL_takeAway 13 = .ok (.astore 4, 2) := by decide +kernel
theorem dL_takeAway_15 : decode cL_takeAway 15 = .ok (.iconst 1, 1) := by decide +kernel
theorem dL_takeAway_16 : decode cL_takeAway 16 = .ok (.ireturn, 1) := by decide +kernel
theorem dL_takeAway_17 : decode cL_takeAway 17 = .ok (.iconst 0, 1) := by decide +kernel
theorem dL_takeAway_18 : decode cL_takeAway 18 = .ok (.ireturn, 1) := by decide +kernel
theorem dL_ask_0 : decode cL_ask 0 = .ok (.aload 4, 2) := by decide +kernel
theorem dL_ask_2 : decode cL_ask 2 = .ok (.iconst 0, 1) := by decide +kernel
theorem dL_ask_3 : decode cL_ask 3 = .ok (.aload_n 0, 1) := by decide +kernel
theorem dL_ask_4 : decode cL_ask 4 = .ok (.iload_n 1, 1) := by decide +kernel
theorem dL_ask_5 : decode cL_ask 5 = .ok (.iload_n 2, 1) := by decide +kernel
theorem dL_ask_6 : decode cL_ask 6 = .ok (.iload_n 3, 1) := by decide +kernel
theorem dL_ask_7 : decode cL_ask 7 = .ok (.invokevirtual 30, 3) := by decide +kernel
theorem dL_ask_10 : decode cL_ask 10 = .ok (.i2l, 1) := by decide +kernel
theorem dL_ask_11 : decode cL_ask 11 = .ok (.lastore, 1) := by decide +kernel
theorem dL_ask_12 : decode cL_ask 12 = .ok (.goto 15, 3) := by decide +kernel
theorem dL_ask_15 : decode cL_ask 15 = .ok (.astore 5, 2) := by decide +kernel
theorem dL_ask_17 : decode cL_ask 17 = .ok (.iconst 1, 1) := by decide +kernel
theorem dL_ask_18 : decode cL_ask 18 = .ok (.ireturn, 1) := by decide +kernel
theorem dL_ask_19 : decode cL_ask 19 = .ok (.astore 5, 2) := by decide +kernel
theorem dL_ask_21 : decode cL_ask 21 = .ok (.iconst 2, 1) := by decide +kernel
theorem dL_ask_22 : decode cL_ask 22 = .ok (.ireturn, 1) := by decide +kernel
theorem dL_ask_23 : decode cL_ask 23 = .ok (.astore 5, 2) := by decide +kernel
theorem dL_ask_25 : decode cL_ask 25 = .ok (.iconst 3, 1) := by decide +kernel
theorem dL_ask_26 : decode cL_ask 26 = .ok (.ireturn, 1) := by decide +kernel
theorem dL_ask_27 : decode cL_ask 27 = .ok (.iconst 0, 1) := by decide +kernel
theorem dL_ask_28 : decode cL_ask 28 = .ok (.ireturn, 1) := by decide +kernel
theorem dL_approve_0 : decode cL_approve 0 = .ok (.aload_n 3, 1) := by decide +kernel
theorem dL_approve_1 : decode cL_approve 1 = .ok (.iconst 0, 1) := by decide +kernel
theorem dL_approve_2 : decode cL_approve 2 = .ok (.aload_n 0, 1) := by decide +kernel
theorem dL_approve_3 : decode cL_approve 3 = .ok (.iload_n 1, 1) := by decide +kernel
theorem dL_approve_4 : decode cL_approve 4 = .ok (.iload_n 2, 1) := by decide +kernel
theorem dL_approve_5 : decode cL_approve 5 = .ok (.invokevirtual 34, 3) := by decide +kernel
theorem dL_approve_8 : decode cL_approve 8 = .ok (.ifCond .eq 7, 3) := by decide +kernel
theorem dL_approve_11 : decode cL_approve 11 = .ok (.lconst 1, 1) := by decide +kernel
theorem dL_approve_12 : decode cL_approve 12 = .ok (.goto 4, 3) := by decide +kernel
theorem dL_approve_15 : decode cL_approve 15 = .ok (.lconst 0, 1) := by decide +kernel
theorem dL_approve_16 : decode cL_approve 16 = .ok (.lastore, 1) := by decide +kernel
theorem dL_approve_17 : decode cL_approve 17 = .ok (.goto 11, 3) := by decide +kernel
theorem dL_approve_20 : decode cL_approve 20 = .ok (.astore 4, 2) := by decide +kernel
theorem dL_approve_22 : decode cL_approve 22 = .ok (.iconst 1, 1) := by decide +kernel
theorem dL_approve_23 : decode cL_approve 23 = .ok (.ireturn, 1) := by decide +kernel
theorem dL_approve_24 : decode cL_approve 24 = .ok (.astore 4, 2) := by decide +kernel
theorem dL_approve_26 : decode cL_approve 26 = .ok (.iconst 2, 1) := by decide +kernel
theorem dL_approve_27 : decode cL_approve 27 = .ok (.ireturn, 1) := by decide +kernel
theorem dL_approve_28 : decode cL_approve 28 = .ok (.iconst 0, 1) := by decide +kernel
theorem dL_approve_29 : decode cL_approve 29 = .ok (.ireturn, 1) := by decide +kernel
theorem dL_deny_0 : decode cL_deny 0 = .ok (.aload_n 0, 1) := by decide +kernel
theorem dL_deny_1 : decode cL_deny 1 = .ok (.iload_n 1, 1) := by decide +kernel
theorem dL_deny_2 : decode cL_deny 2 = .ok (.iload_n 2, 1) := by decide +kernel
theorem dL_deny_3 : decode cL_deny 3 = .ok (.invokevirtual 38, 3) := by decide +kernel
theorem dL_deny_6 : decode cL_deny 6 = .ok (.goto 9, 3) := by decide +kernel
theorem dL_deny_9 : decode cL_deny 9 = .ok (.astore_n 3, 1) := by decide +kernel
theorem dL_deny_10 : decode cL_deny 10 = .ok (.iconst 1, 1) := by decide +kernel
theorem dL_deny_11 : decode cL_deny 11 = .ok (.ireturn, 1) := by decide +kernel
theorem dL_deny_12 : decode cL_deny 12 = .ok (.astore_n 3, 1) := by decide +kernel
theorem dL_deny_13 : decode cL_deny 13 = .ok (.iconst 2, 1) := by decide +kernel
theorem dL_deny_14 : decode cL_deny 14 = .ok (.ireturn, 1) := by decide +kernel
theorem dL_deny_15 : decode cL_deny 15 = .ok (.iconst 0, 1) := by decide +kernel
theorem dL_deny_16 : decode cL_deny 16 = .ok (.ireturn, 1) := by decide +kernel
theorem dL_askState_0 : decode cL_askState 0 = .ok (.aload_n 2, 1) := by decide +kernel
theorem dL_askState_1 : decode cL_askState 1 = .ok (.iconst 0, 1) := by decide +kernel
theorem dL_askState_2 : decode cL_askState 2 = .ok (.aload_n 0, 1) := by decide +kernel
theorem dL_askState_3 : decode cL_askState 3 = .ok (.iload_n 1, 1) := by decide +kernel
theorem dL_askState_4 : decode cL_askState 4 = .ok (.invokevirtual 42, 3) := by decide +kernel
theorem dL_askState_7 : decode cL_askState 7 = .ok (.i2l, 1) := by decide +kernel
theorem dL_askState_8 : decode cL_askState 8 = .ok (.lastore, 1) := by decide +kernel
theorem dL_askState_9 : decode cL_askState 9 = .ok (.goto 6, 3) := by decide +kernel
theorem dL_askState_12 : decode cL_askState 12 = .ok (.astore_n 3, 1) := by decide +kernel
theorem dL_askState_13 : decode cL_askState 13 = .ok (.iconst 1, 1) := by decide +kernel
theorem dL_askState_14 : decode cL_askState 14 = .ok (.ireturn, 1) := by decide +kernel
theorem dL_askState_15 : decode cL_askState 15 = .ok (.iconst 0, 1) := by decide +kernel
theorem dL_askState_16 : decode cL_askState 16 = .ok (.ireturn, 1) := by decide +kernel
theorem dL_enter_0 : decode cL_enter 0 = .ok (.aload_n 3, 1) := by decide +kernel
theorem dL_enter_1 : decode cL_enter 1 = .ok (.iconst 0, 1) := by decide +kernel
theorem dL_enter_2 : decode cL_enter 2 = .ok (.aload_n 0, 1) := by decide +kernel
theorem dL_enter_3 : decode cL_enter 3 = .ok (.iload_n 1, 1) := by decide +kernel
theorem dL_enter_4 : decode cL_enter 4 = .ok (.iload_n 2, 1) := by decide +kernel
theorem dL_enter_5 : decode cL_enter 5 = .ok (.invokevirtual 45, 3) := by decide +kernel
theorem dL_enter_8 : decode cL_enter 8 = .ok (.i2l, 1) := by decide +kernel
theorem dL_enter_9 : decode cL_enter 9 = .ok (.lastore, 1) := by decide +kernel
theorem dL_enter_10 : decode cL_enter 10 = .ok (.goto 11, 3) := by decide +kernel
theorem dL_enter_13 : decode cL_enter 13 = .ok (.astore 4, 2) := by decide +kernel
theorem dL_enter_15 : decode cL_enter 15 = .ok (.iconst 1, 1) := by decide +kernel
theorem dL_enter_16 : decode cL_enter 16 = .ok (.ireturn, 1) := by decide +kernel
theorem dL_enter_17 : decode cL_enter 17 = .ok (.astore 4, 2) := by decide +kernel
theorem dL_enter_19 : decode cL_enter 19 = .ok (.iconst 2, 1) := by decide +kernel
theorem dL_enter_20 : decode cL_enter 20 = .ok (.ireturn, 1) := by decide +kernel
theorem dL_enter_21 : decode cL_enter 21 = .ok (.iconst 0, 1) := by decide +kernel
theorem dL_enter_22 : decode cL_enter 22 = .ok (.ireturn, 1) := by decide +kernel
theorem dL_lookAt_0 : decode cL_lookAt 0 = .ok (.aload_n 3, 1) := by decide +kernel
theorem dL_lookAt_1 : decode cL_lookAt 1 = .ok (.iconst 0, 1) := by decide +kernel
theorem dL_lookAt_2 : decode cL_lookAt 2 = .ok (.aload_n 0, 1) := by decide +kernel
theorem dL_lookAt_3 : decode cL_lookAt 3 = .ok (.iload_n 1, 1) := by decide +kernel
theorem dL_lookAt_4 : decode cL_lookAt 4 = .ok (.iload_n 2, 1) := by decide +kernel
theorem dL_lookAt_5 : decode cL_lookAt 5 = .ok (.invokevirtual 48, 3) := by decide +kernel
theorem dL_lookAt_8 : decode cL_lookAt 8 = .ok (.i2l, 1) := by decide +kernel
theorem dL_lookAt_9 : decode cL_lookAt 9 = .ok (.lastore, 1) := by decide +kernel
theorem dL_lookAt_10 : decode cL_lookAt 10 = .ok (.goto 11, 3) := by decide +kernel
theorem dL_lookAt_13 : decode cL_lookAt 13 = .ok (.astore 4, 2) := by decide +kernel
theorem dL_lookAt_15 : decode cL_lookAt 15 = .ok (.iconst 1, 1) := by decide +kernel
theorem dL_lookAt_16 : decode cL_lookAt 16 = .ok (.ireturn, 1) := by decide +kernel
theorem dL_lookAt_17 : decode cL_lookAt 17 = .ok (.astore 4, 2) := by decide +kernel
theorem dL_lookAt_19 : decode cL_lookAt 19 = .ok (.iconst 2, 1) := by decide +kernel
theorem dL_lookAt_20 : decode cL_lookAt 20 = .ok (.ireturn, 1) := by decide +kernel
theorem dL_lookAt_21 : decode cL_lookAt 21 = .ok (.iconst 0, 1) := by decide +kernel
theorem dL_lookAt_22 : decode cL_lookAt 22 = .ok (.ireturn, 1) := by decide +kernel
theorem dL_overdue_0 : decode cL_overdue 0 = .ok (.aload_n 2, 1) := by decide +kernel
theorem dL_overdue_1 : decode cL_overdue 1 = .ok (.iconst 0, 1) := by decide +kernel
theorem dL_overdue_2 : decode cL_overdue 2 = .ok (.aload_n 0, 1) := by decide +kernel
theorem dL_overdue_3 : decode cL_overdue 3 = .ok (.iload_n 1, 1) := by decide +kernel
theorem dL_overdue_4 : decode cL_overdue 4 = .ok (.invokevirtual 51, 3) := by decide +kernel
theorem dL_overdue_7 : decode cL_overdue 7 = .ok (.i2l, 1) := by decide +kernel
theorem dL_overdue_8 : decode cL_overdue 8 = .ok (.lastore, 1) := by decide +kernel
theorem dL_overdue_9 : decode cL_overdue 9 = .ok (.goto 6, 3) := by decide +kernel
theorem dL_overdue_12 : decode cL_overdue 12 = .ok (.astore_n 3, 1) := by decide +kernel
theorem dL_overdue_13 : decode cL_overdue 13 = .ok (.iconst 1, 1) := by decide +kernel
theorem dL_overdue_14 : decode cL_overdue 14 = .ok (.ireturn, 1) := by decide +kernel
theorem dL_overdue_15 : decode cL_overdue 15 = .ok (.iconst 0, 1) := by decide +kernel
theorem dL_overdue_16 : decode cL_overdue 16 = .ok (.ireturn, 1) := by decide +kernel
theorem dL_couldEnter_0 : decode cL_couldEnter 0 = .ok (.aload 4, 2) := by decide +kernel
theorem dL_couldEnter_2 : decode cL_couldEnter 2 = .ok (.iconst 0, 1) := by decide +kernel
theorem dL_couldEnter_3 : decode cL_couldEnter 3 = .ok (.aload_n 0, 1) := by decide +kernel
theorem dL_couldEnter_4 : decode cL_couldEnter 4 = .ok (.iload_n 1, 1) := by decide +kernel
theorem dL_couldEnter_5 : decode cL_couldEnter 5 = .ok (.iload_n 2, 1) := by decide +kernel
theorem dL_couldEnter_6 : decode cL_couldEnter 6 = .ok (.iload_n 3, 1) := by decide +kernel
theorem dL_couldEnter_7 : decode cL_couldEnter 7 = .ok (.invokevirtual 54, 3) := by decide +kernel
theorem dL_couldEnter_10 : decode cL_couldEnter 10 = .ok (.ifCond .eq 7, 3) := by decide +kernel
theorem dL_couldEnter_13 : decode cL_couldEnter 13 = .ok (.lconst 1, 1) := by decide +kernel
theorem dL_couldEnter_14 : decode cL_couldEnter 14 = .ok (.goto 4, 3) := by decide +kernel
theorem dL_couldEnter_17 : decode cL_couldEnter 17 = .ok (.lconst 0, 1) := by decide +kernel
theorem dL_couldEnter_18 : decode cL_couldEnter 18 = .ok (.lastore, 1) := by decide +kernel
theorem dL_couldEnter_19 : decode cL_couldEnter 19 = .ok (.goto 11, 3) := by decide +kernel
theorem dL_couldEnter_22 : decode cL_couldEnter 22 = .ok (.astore 5, 2) := by decide +kernel
theorem dL_couldEnter_24 : decode cL_couldEnter 24 = .ok (.iconst 1, 1) := by decide +kernel
theorem dL_couldEnter_25 : decode cL_couldEnter 25 = .ok (.ireturn, 1) := by decide +kernel
theorem dL_couldEnter_26 : decode cL_couldEnter 26 = .ok (.astore 5, 2) := by decide +kernel
theorem dL_couldEnter_28 : decode cL_couldEnter 28 = .ok (.iconst 2, 1) := by decide +kernel
theorem dL_couldEnter_29 : decode cL_couldEnter 29 = .ok (.ireturn, 1) := by decide +kernel
theorem dL_couldEnter_30 : decode cL_couldEnter 30 = .ok (.iconst 0, 1) := by decide +kernel
theorem dL_couldEnter_31 : decode cL_couldEnter 31 = .ok (.ireturn, 1) := by decide +kernel
theorem dL_open_0 : decode cL_open 0 = .ok (.aload_n 3, 1) := by decide +kernel
theorem dL_open_1 : decode cL_open 1 = .ok (.iconst 0, 1) := by decide +kernel
theorem dL_open_2 : decode cL_open 2 = .ok (.aload_n 0, 1) := by decide +kernel
theorem dL_open_3 : decode cL_open 3 = .ok (.iload_n 1, 1) := by decide +kernel
theorem dL_open_4 : decode cL_open 4 = .ok (.iload_n 2, 1) := by decide +kernel
theorem dL_open_5 : decode cL_open 5 = .ok (.invokevirtual 58, 3) := by decide +kernel
theorem dL_open_8 : decode cL_open 8 = .ok (.i2l, 1) := by decide +kernel
theorem dL_open_9 : decode cL_open 9 = .ok (.lastore, 1) := by decide +kernel
theorem dL_open_10 : decode cL_open 10 = .ok (.goto 11, 3) := by decide +kernel
theorem dL_open_13 : decode cL_open 13 = .ok (.astore 4, 2) := by decide +kernel
theorem dL_open_15 : decode cL_open 15 = .ok (.iconst 1, 1) := by decide +kernel
theorem dL_open_16 : decode cL_open 16 = .ok (.ireturn, 1) := by decide +kernel
theorem dL_open_17 : decode cL_open 17 = .ok (.astore 4, 2) := by decide +kernel
theorem dL_open_19 : decode cL_open 19 = .ok (.iconst 2, 1) := by decide +kernel
theorem dL_open_20 : decode cL_open 20 = .ok (.ireturn, 1) := by decide +kernel
theorem dL_open_21 : decode cL_open 21 = .ok (.iconst 0, 1) := by decide +kernel
theorem dL_open_22 : decode cL_open 22 = .ok (.ireturn, 1) := by decide +kernel
theorem dL_type_0 : decode cL_type 0 = .ok (.aload_n 3, 1) := by decide +kernel
theorem dL_type_1 : decode cL_type 1 = .ok (.iconst 0, 1) := by decide +kernel
theorem dL_type_2 : decode cL_type 2 = .ok (.aload_n 0, 1) := by decide +kernel
theorem dL_type_3 : decode cL_type 3 = .ok (.iload_n 1, 1) := by decide +kernel
theorem dL_type_4 : decode cL_type 4 = .ok (.iload_n 2, 1) := by decide +kernel
theorem dL_type_5 : decode cL_type 5 = .ok (.invokevirtual 61, 3) := by decide +kernel
theorem dL_type_8 : decode cL_type 8 = .ok (.ifCond .eq 7, 3) := by decide +kernel
theorem dL_type_11 : decode cL_type 11 = .ok (.lconst 1, 1) := by decide +kernel
theorem dL_type_12 : decode cL_type 12 = .ok (.goto 4, 3) := by decide +kernel
theorem dL_type_15 : decode cL_type 15 = .ok (.lconst 0, 1) := by decide +kernel
theorem dL_type_16 : decode cL_type 16 = .ok (.lastore, 1) := by decide +kernel
theorem dL_type_17 : decode cL_type 17 = .ok (.goto 15, 3) := by decide +kernel
theorem dL_type_20 : decode cL_type 20 = .ok (.astore 4, 2) := by decide +kernel
theorem dL_type_22 : decode cL_type 22 = .ok (.iconst 1, 1) := by decide +kernel
theorem dL_type_23 : decode cL_type 23 = .ok (.ireturn, 1) := by decide +kernel
theorem dL_type_24 : decode cL_type 24 = .ok (.astore 4, 2) := by decide +kernel
theorem dL_type_26 : decode cL_type 26 = .ok (.iconst 2, 1) := by decide +kernel
theorem dL_type_27 : decode cL_type 27 = .ok (.ireturn, 1) := by decide +kernel
theorem dL_type_28 : decode cL_type 28 = .ok (.astore 4, 2) := by decide +kernel
theorem dL_type_30 : decode cL_type 30 = .ok (.iconst 3, 1) := by decide +kernel
theorem dL_type_31 : decode cL_type 31 = .ok (.ireturn, 1) := by decide +kernel
theorem dL_type_32 : decode cL_type 32 = .ok (.iconst 0, 1) := by decide +kernel
theorem dL_type_33 : decode cL_type 33 = .ok (.ireturn, 1) := by decide +kernel
theorem dL_letThrough_0 : decode cL_letThrough 0 = .ok (.aload_n 3, 1) := by decide +kernel
theorem dL_letThrough_1 : decode cL_letThrough 1 = .ok (.iconst 0, 1) := by decide +kernel
theorem dL_letThrough_2 : decode cL_letThrough 2 = .ok (.aload_n 0, 1) := by decide +kernel
theorem dL_letThrough_3 : decode cL_letThrough 3 = .ok (.iload_n 1, 1) := by decide +kernel
theorem dL_letThrough_4 : decode cL_letThrough 4 = .ok (.iload_n 2, 1) := by decide +kernel
theorem dL_letThrough_5 : decode cL_letThrough 5 = .ok (.invokevirtual 64, 3) := by decide +kernel
theorem dL_letThrough_8 : decode cL_letThrough 8 = .ok (.i2l, 1) := by decide +kernel
theorem dL_letThrough_9 : decode cL_letThrough 9 = .ok (.lastore, 1) := by decide +kernel
theorem dL_letThrough_10 : decode cL_letThrough 10 = .ok (.goto 11, 3) := by decide +kernel
theorem dL_letThrough_13 : decode cL_letThrough 13 = .ok (.astore 4, 2) := by decide +kernel
theorem dL_letThrough_15 : decode cL_letThrough 15 = .ok (.iconst 1, 1) := by decide +kernel
theorem dL_letThrough_16 : decode cL_letThrough 16 = .ok (.ireturn, 1) := by decide +kernel
theorem dL_letThrough_17 : decode cL_letThrough 17 = .ok (.astore 4, 2) := by decide +kernel
theorem dL_letThrough_19 : decode cL_letThrough 19 = .ok (.iconst 2, 1) := by decide +kernel
theorem dL_letThrough_20 : decode cL_letThrough 20 = .ok (.ireturn, 1) := by decide +kernel
theorem dL_letThrough_21 : decode cL_letThrough 21 = .ok (.iconst 0, 1) := by decide +kernel
theorem dL_letThrough_22 : decode cL_letThrough 22 = .ok (.ireturn, 1) := by decide +kernel
theorem dL_close_0 : decode cL_close 0 = .ok (.aload_n 2, 1) := by decide +kernel
theorem dL_close_1 : decode cL_close 1 = .ok (.iconst 0, 1) := by decide +kernel
theorem dL_close_2 : decode cL_close 2 = .ok (.aload_n 0, 1) := by decide +kernel
theorem dL_close_3 : decode cL_close 3 = .ok (.iload_n 1, 1) := by decide +kernel
theorem dL_close_4 : decode cL_close 4 = .ok (.invokevirtual 67, 3) := by decide +kernel
theorem dL_close_7 : decode cL_close 7 = .ok (.i2l, 1) := by decide +kernel
theorem dL_close_8 : decode cL_close 8 = .ok (.lastore, 1) := by decide +kernel
theorem dL_close_9 : decode cL_close 9 = .ok (.goto 9, 3) := by decide +kernel
theorem dL_close_12 : decode cL_close 12 = .ok (.astore_n 3, 1) := by decide +kernel
theorem dL_close_13 : decode cL_close 13 = .ok (.iconst 1, 1) := by decide +kernel
theorem dL_close_14 : decode cL_close 14 = .ok (.ireturn, 1) := by decide +kernel
theorem dL_close_15 : decode cL_close 15 = .ok (.astore_n 3, 1) := by decide +kernel
theorem dL_close_16 : decode cL_close 16 = .ok (.iconst 2, 1) := by decide +kernel
theorem dL_close_17 : decode cL_close 17 = .ok (.ireturn, 1) := by decide +kernel
theorem dL_close_18 : decode cL_close 18 = .ok (.iconst 0, 1) := by decide +kernel
theorem dL_close_19 : decode cL_close 19 = .ok (.ireturn, 1) := by decide +kernel
theorem dL_isOpen_0 : decode cL_isOpen 0 = .ok (.aload_n 2, 1) := by decide +kernel
theorem dL_isOpen_1 : decode cL_isOpen 1 = .ok (.iconst 0, 1) := by decide +kernel
theorem dL_isOpen_2 : decode cL_isOpen 2 = .ok (.aload_n 0, 1) := by decide +kernel
theorem dL_isOpen_3 : decode cL_isOpen 3 = .ok (.iload_n 1, 1) := by decide +kernel
theorem dL_isOpen_4 : decode cL_isOpen 4 = .ok (.invokevirtual 70, 3) := by decide +kernel
theorem dL_isOpen_7 : decode cL_isOpen 7 = .ok (.ifCond .eq 7, 3) := by decide +kernel
theorem dL_isOpen_10 : decode cL_isOpen 10 = .ok (.lconst 1, 1) := by decide +kernel
theorem dL_isOpen_11 : decode cL_isOpen 11 = .ok (.goto 4, 3) := by decide +kernel
theorem dL_isOpen_14 : decode cL_isOpen 14 = .ok (.lconst 0, 1) := by decide +kernel
theorem dL_isOpen_15 : decode cL_isOpen 15 = .ok (.lastore, 1) := by decide +kernel
theorem dL_isOpen_16 : decode cL_isOpen 16 = .ok (.goto 6, 3) := by decide +kernel
theorem dL_isOpen_19 : decode cL_isOpen 19 = .ok (.astore_n 3, 1) := by decide +kernel
theorem dL_isOpen_20 : decode cL_isOpen 20 = .ok (.iconst 1, 1) := by decide +kernel
theorem dL_isOpen_21 : decode cL_isOpen 21 = .ok (.ireturn, 1) := by decide +kernel
theorem dL_isOpen_22 : decode cL_isOpen 22 = .ok (.iconst 0, 1) := by decide +kernel
theorem dL_isOpen_23 : decode cL_isOpen 23 = .ok (.ireturn, 1) := by decide +kernel
theorem dL_pass_0 : decode cL_pass 0 = .ok (.aload_n 2, 1) := by decide +kernel
theorem dL_pass_1 : decode cL_pass 1 = .ok (.iconst 0, 1) := by decide +kernel
theorem dL_pass_2 : decode cL_pass 2 = .ok (.aload_n 0, 1) := by decide +kernel
theorem dL_pass_3 : decode cL_pass 3 = .ok (.iload_n 1, 1) := by decide +kernel
theorem dL_pass_4 : decode cL_pass 4 = .ok (.invokevirtual 74, 3) := by decide +kernel
theorem dL_pass_7 : decode cL_pass 7 = .ok (.i2l, 1) := by decide +kernel
theorem dL_pass_8 : decode cL_pass 8 = .ok (.lastore, 1) := by decide +kernel
theorem dL_pass_9 : decode cL_pass 9 = .ok (.goto 9, 3) := by decide +kernel
theorem dL_pass_12 : decode cL_pass 12 = .ok (.astore_n 3, 1) := by decide +kernel
theorem dL_pass_13 : decode cL_pass 13 = .ok (.iconst 1, 1) := by decide +kernel
theorem dL_pass_14 : decode cL_pass 14 = .ok (.ireturn, 1) := by decide +kernel
theorem dL_pass_15 : decode cL_pass 15 = .ok (.astore_n 3, 1) := by decide +kernel
theorem dL_pass_16 : decode cL_pass 16 = .ok (.iconst 2, 1) := by decide +kernel
theorem dL_pass_17 : decode cL_pass 17 = .ok (.ireturn, 1) := by decide +kernel
theorem dL_pass_18 : decode cL_pass 18 = .ok (.iconst 0, 1) := by decide +kernel
theorem dL_pass_19 : decode cL_pass 19 = .ok (.ireturn, 1) := by decide +kernel
theorem dL_kind_0 : decode cL_kind 0 = .ok (.aload_n 2, 1) := by decide +kernel
theorem dL_kind_1 : decode cL_kind 1 = .ok (.iconst 0, 1) := by decide +kernel
theorem dL_kind_2 : decode cL_kind 2 = .ok (.aload_n 0, 1) := by decide +kernel
theorem dL_kind_3 : decode cL_kind 3 = .ok (.iload_n 1, 1) := by decide +kernel
theorem dL_kind_4 : decode cL_kind 4 = .ok (.invokevirtual 77, 3) := by decide +kernel
theorem dL_kind_7 : decode cL_kind 7 = .ok (.i2l, 1) := by decide +kernel
theorem dL_kind_8 : decode cL_kind 8 = .ok (.lastore, 1) := by decide +kernel
theorem dL_kind_9 : decode cL_kind 9 = .ok (.goto 6, 3) := by decide +kernel
theorem dL_kind_12 : decode cL_kind 12 = .ok (.astore_n 3, 1) := by decide +kernel
theorem dL_kind_13 : decode cL_kind 13 = .ok (.iconst 1, 1) := by decide +kernel
theorem dL_kind_14 : decode cL_kind 14 = .ok (.ireturn, 1) := by decide +kernel
theorem dL_kind_15 : decode cL_kind 15 = .ok (.iconst 0, 1) := by decide +kernel
theorem dL_kind_16 : decode cL_kind 16 = .ok (.ireturn, 1) := by decide +kernel
theorem dL_seal_0 : decode cL_seal 0 = .ok (.aload_n 2, 1) := by decide +kernel
theorem dL_seal_1 : decode cL_seal 1 = .ok (.iconst 0, 1) := by decide +kernel
theorem dL_seal_2 : decode cL_seal 2 = .ok (.aload_n 0, 1) := by decide +kernel
theorem dL_seal_3 : decode cL_seal 3 = .ok (.iload_n 1, 1) := by decide +kernel
theorem dL_seal_4 : decode cL_seal 4 = .ok (.invokevirtual 80, 3) := by decide +kernel
theorem dL_seal_7 : decode cL_seal 7 = .ok (.i2l, 1) := by decide +kernel
theorem dL_seal_8 : decode cL_seal 8 = .ok (.lastore, 1) := by decide +kernel
theorem dL_seal_9 : decode cL_seal 9 = .ok (.goto 6, 3) := by decide +kernel
theorem dL_seal_12 : decode cL_seal 12 = .ok (.astore_n 3, 1) := by decide +kernel
theorem dL_seal_13 : decode cL_seal 13 = .ok (.iconst 1, 1) := by decide +kernel
theorem dL_seal_14 : decode cL_seal 14 = .ok (.ireturn, 1) := by decide +kernel
theorem dL_seal_15 : decode cL_seal 15 = .ok (.iconst 0, 1) := by decide +kernel
theorem dL_seal_16 : decode cL_seal 16 = .ok (.ireturn, 1) := by decide +kernel
theorem dL_law_0 : decode cL_law 0 = .ok (.new 8, 3) := by decide +kernel
theorem dL_law_3 : decode cL_law 3 = .ok (.dup, 1) := by decide +kernel
theorem dL_law_4 : decode cL_law 4 = .ok (.invokespecial 83, 3) := by decide +kernel
theorem dL_law_7 : decode cL_law 7 = .ok (.astore_n 1, 1) := by decide +kernel
theorem dL_law_8 : decode cL_law 8 = .ok (.new 84, 3) := by decide +kernel
theorem dL_law_11 : decode cL_law 11 = .ok (.dup, 1) := by decide +kernel
theorem dL_law_12 : decode cL_law 12 = .ok (.invokespecial 86, 3) := by decide +kernel
theorem dL_law_15 : decode cL_law 15 = .ok (.astore_n 2, 1) := by decide +kernel
theorem dL_law_16 : decode cL_law 16 = .ok (.iconst 1, 1) := by decide +kernel
theorem dL_law_17 : decode cL_law 17 = .ok (.newarray .long, 2) := by decide +kernel
theorem dL_law_19 : decode cL_law 19 = .ok (.astore_n 3, 1) := by decide +kernel
theorem dL_law_20 : decode cL_law 20 = .ok (.iconst 0, 1) := by decide +kernel
theorem dL_law_21 : decode cL_law 21 = .ok (.istore 4, 2) := by decide +kernel
theorem dL_law_23 : decode cL_law 23 = .ok (.iload 4, 2) := by decide +kernel
theorem dL_law_25 : decode cL_law 25 = .ok (.aload_n 0, 1) := by decide +kernel
theorem dL_law_26 : decode cL_law 26 = .ok (.arraylength, 1) := by decide +kernel
theorem dL_law_27 : decode cL_law 27 = .ok (.iconst 4, 1) := by decide +kernel
theorem dL_law_28 : decode cL_law 28 = .ok (.isub, 1) := by decide +kernel
theorem dL_law_29 : decode cL_law 29 = .ok (.if_icmp .gt 1472, 3) := by decide +kernel
theorem dL_law_32 : decode cL_law 32 = .ok (.aload_n 0, 1) := by decide +kernel
theorem dL_law_33 : decode cL_law 33 = .ok (.iload 4, 2) := by decide +kernel
theorem dL_law_35 : decode cL_law 35 = .ok (.iaload, 1) := by decide +kernel
theorem dL_law_36 : decode cL_law 36 = .ok (.bipush 31, 2) := by decide +kernel
theorem dL_law_38 : decode cL_law 38 = .ok (.iand, 1) := by decide +kernel
theorem dL_law_39 : decode cL_law 39 = .ok (.tableswitch 1456 0 22 #[105, 161, 217, 313, 381, 461, 536, 584, 640, 708, 776, 832, 919, 987, 1062, 1130, 1186, 1249, 1262, 1318, 1331, 1344, 1400], 105) := by decide +kernel
theorem dL_law_144 : decode cL_law 144 = .ok (.aload_n 1, 1) := by decide +kernel
theorem dL_law_145 : decode cL_law 145 = .ok (.aload_n 0, 1) := by decide +kernel
theorem dL_law_146 : decode cL_law 146 = .ok (.iload 4, 2) := by decide +kernel
theorem dL_law_148 : decode cL_law 148 = .ok (.iconst 1, 1) := by decide +kernel
theorem dL_law_149 : decode cL_law 149 = .ok (.iadd, 1) := by decide +kernel
theorem dL_law_150 : decode cL_law 150 = .ok (.iaload, 1) := by decide +kernel
theorem dL_law_151 : decode cL_law 151 = .ok (.aload_n 3, 1) := by decide +kernel
theorem dL_law_152 : decode cL_law 152 = .ok (.invokestatic 87, 3) := by decide +kernel
theorem dL_law_155 : decode cL_law 155 = .ok (.istore 5, 2) := by decide +kernel
theorem dL_law_157 : decode cL_law 157 = .ok (.aload_n 2, 1) := by decide +kernel
theorem dL_law_158 : decode cL_law 158 = .ok (.aload_n 0, 1) := by decide +kernel
theorem dL_law_159 : decode cL_law 159 = .ok (.iload 4, 2) := by decide +kernel
theorem dL_law_161 : decode cL_law 161 = .ok (.iconst 1, 1) := by decide +kernel
theorem dL_law_162 : decode cL_law 162 = .ok (.iadd, 1) := by decide +kernel
theorem dL_law_163 : decode cL_law 163 = .ok (.iaload, 1) := by decide +kernel
theorem dL_law_164 : decode cL_law 164 = .ok (.invokevirtual 92, 3) := by decide +kernel
theorem dL_law_167 : decode cL_law 167 = .ok (.istore 6, 2) := by decide +kernel
theorem dL_law_169 : decode cL_law 169 = .ok (.aload_n 2, 1) := by decide +kernel
theorem dL_law_170 : decode cL_law 170 = .ok (.invokevirtual 93, 3) := by decide +kernel
theorem dL_law_173 : decode cL_law 173 = .ok (.iload 5, 2) := by decide +kernel
theorem dL_law_175 : decode cL_law 175 = .ok (.if_icmp .eq 5, 3) := by decide +kernel
theorem dL_law_178 : decode cL_law 178 = .ok (.iconst 0, 1) := by decide +kernel
theorem dL_law_179 : decode cL_law 179 = .ok (.ireturn, 1) := by decide +kernel
theorem dL_law_180 : decode cL_law 180 = .ok (.iload 5, 2) := by decide +kernel
theorem dL_law_182 : decode cL_law 182 = .ok (.ifCond .ne 15, 3) := by decide +kernel
theorem dL_law_185 : decode cL_law 185 = .ok (.aload_n 3, 1) := by decide +kernel
theorem dL_law_186 : decode cL_law 186 = .ok (.iconst 0, 1) := by decide +kernel
theorem dL_law_187 : decode cL_law 187 = .ok (.laload, 1) := by decide +kernel
theorem dL_law_188 : decode cL_law 188 = .ok (.iload 6, 2) := by decide +kernel
theorem dL_law_190 : decode cL_law 190 = .ok (.i2l, 1) := by decide +kernel
theorem dL_law_191 : decode cL_law 191 = .ok (.lcmp, 1) := by decide +kernel
theorem dL_law_192 : decode cL_law 192 = .ok (.ifCond .eq 5, 3) := by decide +kernel
theorem dL_law_195 : decode cL_law 195 = .ok (.iconst 0, 1) := by decide +kernel
theorem dL_law_196 : decode cL_law 196 = .ok (.ireturn, 1) := by decide +kernel
theorem dL_law_197 : decode cL_law 197 = .ok (.goto 1298, 3) := by decide +kernel
theorem dL_law_200 : decode cL_law 200 = .ok (.aload_n 1, 1) := by decide +kernel
theorem dL_law_201 : decode cL_law 201 = .ok (.aload_n 0, 1) := by decide +kernel
theorem dL_law_202 : decode cL_law 202 = .ok (.iload 4, 2) := by decide +kernel
theorem dL_law_204 : decode cL_law 204 = .ok (.iconst 1, 1) := by decide +kernel
theorem dL_law_205 : decode cL_law 205 = .ok (.iadd, 1) := by decide +kernel
theorem dL_law_206 : decode cL_law 206 = .ok (.iaload, 1) := by decide +kernel
theorem dL_law_207 : decode cL_law 207 = .ok (.aload_n 3, 1) := by decide +kernel
theorem dL_law_208 : decode cL_law 208 = .ok (.invokestatic 97, 3) := by decide +kernel
theorem dL_law_211 : decode cL_law 211 = .ok (.istore 5, 2) := by decide +kernel
theorem dL_law_213 : decode cL_law 213 = .ok (.aload_n 2, 1) := by decide +kernel
theorem dL_law_214 : decode cL_law 214 = .ok (.aload_n 0, 1) := by decide +kernel
theorem dL_law_215 : decode cL_law 215 = .ok (.iload 4, 2) := by decide +kernel
theorem dL_law_217 : decode cL_law 217 = .ok (.iconst 1, 1) := by decide +kernel
theorem dL_law_218 : decode cL_law 218 = .ok (.iadd, 1) := by decide +kernel
theorem dL_law_219 : decode cL_law 219 = .ok (.iaload, 1) := by decide +kernel
theorem dL_law_220 : decode cL_law 220 = .ok (.invokevirtual 99, 3) := by decide +kernel
theorem dL_law_223 : decode cL_law 223 = .ok (.istore 6, 2) := by decide +kernel
theorem dL_law_225 : decode cL_law 225 = .ok (.aload_n 2, 1) := by decide +kernel
theorem dL_law_226 : decode cL_law 226 = .ok (.invokevirtual 93, 3) := by decide +kernel
theorem dL_law_229 : decode cL_law 229 = .ok (.iload 5, 2) := by decide +kernel
theorem dL_law_231 : decode cL_law 231 = .ok (.if_icmp .eq 5, 3) := by decide +kernel
theorem dL_law_234 : decode cL_law 234 = .ok (.iconst 0, 1) := by decide +kernel
theorem dL_law_235 : decode cL_law 235 = .ok (.ireturn, 1) := by decide +kernel
theorem dL_law_236 : decode cL_law 236 = .ok (.iload 5, 2) := by decide +kernel
theorem dL_law_238 : decode cL_law 238 = .ok (.ifCond .ne 15, 3) := by decide +kernel
theorem dL_law_241 : decode cL_law 241 = .ok (.aload_n 3, 1) := by decide +kernel
theorem dL_law_242 : decode cL_law 242 = .ok (.iconst 0, 1) := by decide +kernel
theorem dL_law_243 : decode cL_law 243 = .ok (.laload, 1) := by decide +kernel
theorem dL_law_244 : decode cL_law 244 = .ok (.iload 6, 2) := by decide +kernel
theorem dL_law_246 : decode cL_law 246 = .ok (.i2l, 1) := by decide +kernel
theorem dL_law_247 : decode cL_law 247 = .ok (.lcmp, 1) := by decide +kernel
theorem dL_law_248 : decode cL_law 248 = .ok (.ifCond .eq 5, 3) := by decide +kernel
theorem dL_law_251 : decode cL_law 251 = .ok (.iconst 0, 1) := by decide +kernel
theorem dL_law_252 : decode cL_law 252 = .ok (.ireturn, 1) := by decide +kernel
theorem dL_law_253 : decode cL_law 253 = .ok (.goto 1242, 3) := by decide +kernel
theorem dL_law_256 : decode cL_law 256 = .ok (.aload_n 1, 1) := by decide +kernel
theorem dL_law_257 : decode cL_law 257 = .ok (.aload_n 0, 1) := by decide +kernel
theorem dL_law_258 : decode cL_law 258 = .ok (.iload 4, 2) := by decide +kernel
theorem dL_law_260 : decode cL_law 260 = .ok (.iconst 1, 1) := by decide +kernel
theorem dL_law_261 : decode cL_law 261 = .ok (.iadd, 1) := by decide +kernel
theorem dL_law_262 : decode cL_law 262 = .ok (.iaload, 1) := by decide +kernel
theorem dL_law_263 : decode cL_law 263 = .ok (.aload_n 0, 1) := by decide +kernel
theorem dL_law_264 : decode cL_law 264 = .ok (.iload 4, 2) := by decide +kernel
theorem dL_law_266 : decode cL_law 266 = .ok (.iconst 2, 1) := by decide +kernel
theorem dL_law_267 : decode cL_law 267 = .ok (.iadd, 1) := by decide +kernel
theorem dL_law_268 : decode cL_law 268 = .ok (.iaload, 1) := by decide +kernel
theorem dL_law_269 : decode cL_law 269 = .ok (.aload_n 0, 1) := by decide +kernel
theorem dL_law_270 : decode cL_law 270 = .ok (.iload 4, 2) := by decide +kernel
theorem dL_law_272 : decode cL_law 272 = .ok (.iconst 3, 1) := by decide +kernel
theorem dL_law_273 : decode cL_law 273 = .ok (.iadd, 1) := by decide +kernel
theorem dL_law_274 : decode cL_law 274 = .ok (.iaload, 1) := by decide +kernel
theorem dL_law_275 : decode cL_law 275 = .ok (.ifCond .eq 7, 3) := by decide +kernel
theorem dL_law_278 : decode cL_law 278 = .ok (.iconst 1, 1) := by decide +kernel
theorem dL_law_279 : decode cL_law 279 = .ok (.goto 4, 3) := by decide +kernel
theorem dL_law_282 : decode cL_law 282 = .ok (.iconst 0, 1) := by decide +kernel
theorem dL_law_283 : decode cL_law 283 = .ok (.aload_n 3, 1) := by decide +kernel
theorem dL_law_284 : decode cL_law 284 = .ok (.invokestatic 100, 3) := by decide +kernel
theorem dL_law_287 : decode cL_law 287 = .ok (.istore 5, 2) := by decide +kernel
theorem dL_law_289 : decode cL_law 289 = .ok (.aload_n 2, 1) := by decide +kernel
theorem dL_law_290 : decode cL_law 290 = .ok (.aload_n 0, 1) := by decide +kernel
theorem dL_law_291 : decode cL_law 291 = .ok (.iload 4, 2) := by decide +kernel
theorem dL_law_293 : decode cL_law 293 = .ok (.iconst 1, 1) := by decide +kernel
theorem dL_law_294 : decode cL_law 294 = .ok (.iadd, 1) := by decide +kernel
theorem dL_law_295 : decode cL_law 295 = .ok (.iaload, 1) := by decide +kernel
theorem dL_law_296 : decode cL_law 296 = .ok (.aload_n 0, 1) := by decide +kernel
theorem dL_law_297 : decode cL_law 297 = .ok (.iload 4, 2) := by decide +kernel
theorem dL_law_299 : decode cL_law 299 = .ok (.iconst 2, 1) := by decide +kernel
theorem dL_law_300 : decode cL_law 300 = .ok (.iadd, 1) := by decide +kernel
theorem dL_law_301 : decode cL_law 301 = .ok (.iaload, 1) := by decide +kernel
theorem dL_law_302 : decode cL_law 302 = .ok (.aload_n 0, 1) := by decide +kernel
theorem dL_law_303 : decode cL_law 303 = .ok (.iload 4, 2) := by decide +kernel
theorem dL_law_305 : decode cL_law 305 = .ok (.iconst 3, 1) := by decide +kernel
theorem dL_law_306 : decode cL_law 306 = .ok (.iadd, 1) := by decide +kernel
theorem dL_law_307 : decode cL_law 307 = .ok (.iaload, 1) := by decide +kernel
theorem dL_law_308 : decode cL_law 308 = .ok (.ifCond .eq 7, 3) := by decide +kernel
theorem dL_law_311 : decode cL_law 311 = .ok (.iconst 1, 1) := by decide +kernel
theorem dL_law_312 : decode cL_law 312 = .ok (.goto 4, 3) := by decide +kernel
theorem dL_law_315 : decode cL_law 315 = .ok (.iconst 0, 1) := by decide +kernel
theorem dL_law_316 : decode cL_law 316 = .ok (.invokevirtual 103, 3) := by decide +kernel
theorem dL_law_319 : decode cL_law 319 = .ok (.istore 6, 2) := by decide +kernel
theorem dL_law_321 : decode cL_law 321 = .ok (.aload_n 2, 1) := by decide +kernel
theorem dL_law_322 : decode cL_law 322 = .ok (.invokevirtual 93, 3) := by decide +kernel
theorem dL_law_325 : decode cL_law 325 = .ok (.iload 5, 2) := by decide +kernel
theorem dL_law_327 : decode cL_law 327 = .ok (.if_icmp .eq 5, 3) := by decide +kernel
theorem dL_law_330 : decode cL_law 330 = .ok (.iconst 0, 1) := by decide +kernel
theorem dL_law_331 : decode cL_law 331 = .ok (.ireturn, 1) := by decide +kernel
theorem dL_law_332 : decode cL_law 332 = .ok (.iload 5, 2) := by decide +kernel
theorem dL_law_334 : decode cL_law 334 = .ok (.ifCond .ne 15, 3) := by decide +kernel
theorem dL_law_337 : decode cL_law 337 = .ok (.aload_n 3, 1) := by decide +kernel
theorem dL_law_338 : decode cL_law 338 = .ok (.iconst 0, 1) := by decide +kernel
theorem dL_law_339 : decode cL_law 339 = .ok (.laload, 1) := by decide +kernel
theorem dL_law_340 : decode cL_law 340 = .ok (.iload 6, 2) := by decide +kernel
theorem dL_law_342 : decode cL_law 342 = .ok (.i2l, 1) := by decide +kernel
theorem dL_law_343 : decode cL_law 343 = .ok (.lcmp, 1) := by decide +kernel
theorem dL_law_344 : decode cL_law 344 = .ok (.ifCond .eq 5, 3) := by decide +kernel
theorem dL_law_347 : decode cL_law 347 = .ok (.iconst 0, 1) := by decide +kernel
theorem dL_law_348 : decode cL_law 348 = .ok (.ireturn, 1) := by decide +kernel
theorem dL_law_349 : decode cL_law 349 = .ok (.goto 1146, 3) := by decide +kernel
theorem dL_law_352 : decode cL_law 352 = .ok (.aload_n 1, 1) := by decide +kernel
theorem dL_law_353 : decode cL_law 353 = .ok (.aload_n 0, 1) := by decide +kernel
theorem dL_law_354 : decode cL_law 354 = .ok (.iload 4, 2) := by decide +kernel
theorem dL_law_356 : decode cL_law 356 = .ok (.iconst 1, 1) := by decide +kernel
theorem dL_law_357 : decode cL_law 357 = .ok (.iadd, 1) := by decide +kernel
theorem dL_law_358 : decode cL_law 358 = .ok (.iaload, 1) := by decide +kernel
theorem dL_law_359 : decode cL_law 359 = .ok (.aload_n 0, 1) := by decide +kernel
theorem dL_law_360 : decode cL_law 360 = .ok (.iload 4, 2) := by decide +kernel
theorem dL_law_362 : decode cL_law 362 = .ok (.iconst 2, 1) := by decide +kernel
theorem dL_law_363 : decode cL_law 363 = .ok (.iadd, 1) := by decide +kernel
theorem dL_law_364 : decode cL_law 364 = .ok (.iaload, 1) := by decide +kernel
theorem dL_law_365 : decode cL_law 365 = .ok (.aload_n 3, 1) := by decide +kernel
theorem dL_law_366 : decode cL_law 366 = .ok (.invokestatic 104, 3) := by decide +kernel
theorem dL_law_369 : decode cL_law 369 = .ok (.istore 5, 2) := by decide +kernel
theorem dL_law_371 : decode cL_law 371 = .ok (.aload_n 2, 1) := by decide +kernel
theorem dL_law_372 : decode cL_law 372 = .ok (.aload_n 0, 1) := by decide +kernel
theorem dL_law_373 : decode cL_law 373 = .ok (.iload 4, 2) := by decide +kernel
theorem dL_law_375 : decode cL_law 375 = .ok (.iconst 1, 1) := by decide +kernel
theorem dL_law_376 : decode cL_law 376 = .ok (.iadd, 1) := by decide +kernel
theorem dL_law_377 : decode cL_law 377 = .ok (.iaload, 1) := by decide +kernel
theorem dL_law_378 : decode cL_law 378 = .ok (.aload_n 0, 1) := by decide +kernel
theorem dL_law_379 : decode cL_law 379 = .ok (.iload 4, 2) := by decide +kernel
theorem dL_law_381 : decode cL_law 381 = .ok (.iconst 2, 1) := by decide +kernel
theorem dL_law_382 : decode cL_law 382 = .ok (.iadd, 1) := by decide +kernel
theorem dL_law_383 : decode cL_law 383 = .ok (.iaload, 1) := by decide +kernel
theorem dL_law_384 : decode cL_law 384 = .ok (.invokevirtual 107, 3) := by decide +kernel
theorem dL_law_387 : decode cL_law 387 = .ok (.istore 6, 2) := by decide +kernel
theorem dL_law_389 : decode cL_law 389 = .ok (.aload_n 2, 1) := by decide +kernel
theorem dL_law_390 : decode cL_law 390 = .ok (.invokevirtual 93, 3) := by decide +kernel
theorem dL_law_393 : decode cL_law 393 = .ok (.iload 5, 2) := by decide +kernel
theorem dL_law_395 : decode cL_law 395 = .ok (.if_icmp .eq 5, 3) := by decide +kernel
theorem dL_law_398 : decode cL_law 398 = .ok (.iconst 0, 1) := by decide +kernel
theorem dL_law_399 : decode cL_law 399 = .ok (.ireturn, 1) := by decide +kernel
theorem dL_law_400 : decode cL_law 400 = .ok (.iload 5, 2) := by decide +kernel
theorem dL_law_402 : decode cL_law 402 = .ok (.ifCond .ne 15, 3) := by decide +kernel
theorem dL_law_405 : decode cL_law 405 = .ok (.aload_n 3, 1) := by decide +kernel
theorem dL_law_406 : decode cL_law 406 = .ok (.iconst 0, 1) := by decide +kernel
theorem dL_law_407 : decode cL_law 407 = .ok (.laload, 1) := by decide +kernel
theorem dL_law_408 : decode cL_law 408 = .ok (.iload 6, 2) := by decide +kernel
theorem dL_law_410 : decode cL_law 410 = .ok (.i2l, 1) := by decide +kernel
theorem dL_law_411 : decode cL_law 411 = .ok (.lcmp, 1) := by decide +kernel
theorem dL_law_412 : decode cL_law 412 = .ok (.ifCond .eq 5, 3) := by decide +kernel
theorem dL_law_415 : decode cL_law 415 = .ok (.iconst 0, 1) := by decide +kernel
theorem dL_law_416 : decode cL_law 416 = .ok (.ireturn, 1) := by decide +kernel
theorem dL_law_417 : decode cL_law 417 = .ok (.goto 1078, 3) := by decide +kernel
theorem dL_law_420 : decode cL_law 420 = .ok (.aload_n 1, 1) := by decide +kernel
theorem dL_law_421 : decode cL_law 421 = .ok (.aload_n 0, 1) := by decide +kernel
theorem dL_law_422 : decode cL_law 422 = .ok (.iload 4, 2) := by decide +kernel
theorem dL_law_424 : decode cL_law 424 = .ok (.iconst 1, 1) := by decide +kernel
theorem dL_law_425 : decode cL_law 425 = .ok (.iadd, 1) := by decide +kernel
theorem dL_law_426 : decode cL_law 426 = .ok (.iaload, 1) := by decide +kernel
theorem dL_law_427 : decode cL_law 427 = .ok (.aload_n 0, 1) := by decide +kernel
theorem dL_law_428 : decode cL_law 428 = .ok (.iload 4, 2) := by decide +kernel
theorem dL_law_430 : decode cL_law 430 = .ok (.iconst 2, 1) := by decide +kernel
theorem dL_law_431 : decode cL_law 431 = .ok (.iadd, 1) := by decide +kernel
theorem dL_law_432 : decode cL_law 432 = .ok (.iaload, 1) := by decide +kernel
theorem dL_law_433 : decode cL_law 433 = .ok (.aload_n 0, 1) := by decide +kernel
theorem dL_law_434 : decode cL_law 434 = .ok (.iload 4, 2) := by decide +kernel
theorem dL_law_436 : decode cL_law 436 = .ok (.iconst 3, 1) := by decide +kernel
theorem dL_law_437 : decode cL_law 437 = .ok (.iadd, 1) := by decide +kernel
theorem dL_law_438 : decode cL_law 438 = .ok (.iaload, 1) := by decide +kernel
theorem dL_law_439 : decode cL_law 439 = .ok (.aload_n 3, 1) := by decide +kernel
theorem dL_law_440 : decode cL_law 440 = .ok (.invokestatic 108, 3) := by decide +kernel
theorem dL_law_443 : decode cL_law 443 = .ok (.istore 5, 2) := by decide +kernel
theorem dL_law_445 : decode cL_law 445 = .ok (.aload_n 2, 1) := by decide +kernel
theorem dL_law_446 : decode cL_law 446 = .ok (.aload_n 0, 1) := by decide +kernel
theorem dL_law_447 : decode cL_law 447 = .ok (.iload 4, 2) := by decide +kernel
theorem dL_law_449 : decode cL_law 449 = .ok (.iconst 1, 1) := by decide +kernel
theorem dL_law_450 : decode cL_law 450 = .ok (.iadd, 1) := by decide +kernel
theorem dL_law_451 : decode cL_law 451 = .ok (.iaload, 1) := by decide +kernel
theorem dL_law_452 : decode cL_law 452 = .ok (.aload_n 0, 1) := by decide +kernel
theorem dL_law_453 : decode cL_law 453 = .ok (.iload 4, 2) := by decide +kernel
theorem dL_law_455 : decode cL_law 455 = .ok (.iconst 2, 1) := by decide +kernel
theorem dL_law_456 : decode cL_law 456 = .ok (.iadd, 1) := by decide +kernel
theorem dL_law_457 : decode cL_law 457 = .ok (.iaload, 1) := by decide +kernel
theorem dL_law_458 : decode cL_law 458 = .ok (.aload_n 0, 1) := by decide +kernel
theorem dL_law_459 : decode cL_law 459 = .ok (.iload 4, 2) := by decide +kernel
theorem dL_law_461 : decode cL_law 461 = .ok (.iconst 3, 1) := by decide +kernel
theorem dL_law_462 : decode cL_law 462 = .ok (.iadd, 1) := by decide +kernel
theorem dL_law_463 : decode cL_law 463 = .ok (.iaload, 1) := by decide +kernel
theorem dL_law_464 : decode cL_law 464 = .ok (.invokevirtual 111, 3) := by decide +kernel
theorem dL_law_467 : decode cL_law 467 = .ok (.istore 6, 2) := by decide +kernel
theorem dL_law_469 : decode cL_law 469 = .ok (.aload_n 2, 1) := by decide +kernel
theorem dL_law_470 : decode cL_law 470 = .ok (.invokevirtual 93, 3) := by decide +kernel
theorem dL_law_473 : decode cL_law 473 = .ok (.iload 5, 2) := by decide +kernel
theorem dL_law_475 : decode cL_law 475 = .ok (.if_icmp .eq 5, 3) := by decide +kernel
theorem dL_law_478 : decode cL_law 478 = .ok (.iconst 0, 1) := by decide +kernel
theorem dL_law_479 : decode cL_law 479 = .ok (.ireturn, 1) := by decide +kernel
theorem dL_law_480 : decode cL_law 480 = .ok (.iload 5, 2) := by decide +kernel
theorem dL_law_482 : decode cL_law 482 = .ok (.ifCond .ne 15, 3) := by decide +kernel
theorem dL_law_485 : decode cL_law 485 = .ok (.aload_n 3, 1) := by decide +kernel
theorem dL_law_486 : decode cL_law 486 = .ok (.iconst 0, 1) := by decide +kernel
theorem dL_law_487 : decode cL_law 487 = .ok (.laload, 1) := by decide +kernel
theorem dL_law_488 : decode cL_law 488 = .ok (.iload 6, 2) := by decide +kernel
theorem dL_law_490 : decode cL_law 490 = .ok (.i2l, 1) := by decide +kernel
theorem dL_law_491 : decode cL_law 491 = .ok (.lcmp, 1) := by decide +kernel
theorem dL_law_492 : decode cL_law 492 = .ok (.ifCond .eq 5, 3) := by decide +kernel
theorem dL_law_495 : decode cL_law 495 = .ok (.iconst 0, 1) := by decide +kernel
theorem dL_law_496 : decode cL_law 496 = .ok (.ireturn, 1) := by decide +kernel
theorem dL_law_497 : decode cL_law 497 = .ok (.goto 998, 3) := by decide +kernel
theorem dL_law_500 : decode cL_law 500 = .ok (.aload_n 1, 1) := by decide +kernel
theorem dL_law_501 : decode cL_law 501 = .ok (.aload_n 0, 1) := by decide +kernel
theorem dL_law_502 : decode cL_law 502 = .ok (.iload 4, 2) := by decide +kernel
theorem dL_law_504 : decode cL_law 504 = .ok (.iconst 1, 1) := by decide +kernel
theorem dL_law_505 : decode cL_law 505 = .ok (.iadd, 1) := by decide +kernel
theorem dL_law_506 : decode cL_law 506 = .ok (.iaload, 1) := by decide +kernel
theorem dL_law_507 : decode cL_law 507 = .ok (.aload_n 0, 1) := by decide +kernel
theorem dL_law_508 : decode cL_law 508 = .ok (.iload 4, 2) := by decide +kernel
theorem dL_law_510 : decode cL_law 510 = .ok (.iconst 2, 1) := by decide +kernel
theorem dL_law_511 : decode cL_law 511 = .ok (.iadd, 1) := by decide +kernel
theorem dL_law_512 : decode cL_law 512 = .ok (.iaload, 1) := by decide +kernel
theorem dL_law_513 : decode cL_law 513 = .ok (.aload_n 3, 1) := by decide +kernel
theorem dL_law_514 : decode cL_law 514 = .ok (.invokestatic 112, 3) := by decide +kernel
theorem dL_law_517 : decode cL_law 517 = .ok (.istore 5, 2) := by decide +kernel
theorem dL_law_519 : decode cL_law 519 = .ok (.aload_n 2, 1) := by decide +kernel
theorem dL_law_520 : decode cL_law 520 = .ok (.aload_n 0, 1) := by decide +kernel
theorem dL_law_521 : decode cL_law 521 = .ok (.iload 4, 2) := by decide +kernel
theorem dL_law_523 : decode cL_law 523 = .ok (.iconst 1, 1) := by decide +kernel
theorem dL_law_524 : decode cL_law 524 = .ok (.iadd, 1) := by decide +kernel
theorem dL_law_525 : decode cL_law 525 = .ok (.iaload, 1) := by decide +kernel
theorem dL_law_526 : decode cL_law 526 = .ok (.aload_n 0, 1) := by decide +kernel
theorem dL_law_527 : decode cL_law 527 = .ok (.iload 4, 2) := by decide +kernel
theorem dL_law_529 : decode cL_law 529 = .ok (.iconst 2, 1) := by decide +kernel
theorem dL_law_530 : decode cL_law 530 = .ok (.iadd, 1) := by decide +kernel
theorem dL_law_531 : decode cL_law 531 = .ok (.iaload, 1) := by decide +kernel
theorem dL_law_532 : decode cL_law 532 = .ok (.invokevirtual 114, 3) := by decide +kernel
theorem dL_law_535 : decode cL_law 535 = .ok (.istore 6, 2) := by decide +kernel
theorem dL_law_537 : decode cL_law 537 = .ok (.aload_n 2, 1) := by decide +kernel
theorem dL_law_538 : decode cL_law 538 = .ok (.invokevirtual 93, 3) := by decide +kernel
theorem dL_law_541 : decode cL_law 541 = .ok (.iload 5, 2) := by decide +kernel
theorem dL_law_543 : decode cL_law 543 = .ok (.if_icmp .eq 5, 3) := by decide +kernel
theorem dL_law_546 : decode cL_law 546 = .ok (.iconst 0, 1) := by decide +kernel
theorem dL_law_547 : decode cL_law 547 = .ok (.ireturn, 1) := by decide +kernel
theorem dL_law_548 : decode cL_law 548 = .ok (.iload 5, 2) := by decide +kernel
theorem dL_law_550 : decode cL_law 550 = .ok (.ifCond .ne 22, 3) := by decide +kernel
theorem dL_law_553 : decode cL_law 553 = .ok (.aload_n 3, 1) := by decide +kernel
theorem dL_law_554 : decode cL_law 554 = .ok (.iconst 0, 1) := by decide +kernel
theorem dL_law_555 : decode cL_law 555 = .ok (.laload, 1) := by decide +kernel
theorem dL_law_556 : decode cL_law 556 = .ok (.iload 6, 2) := by decide +kernel
theorem dL_law_558 : decode cL_law 558 = .ok (.ifCond .eq 7, 3) := by decide +kernel
theorem dL_law_561 : decode cL_law 561 = .ok (.lconst 1, 1) := by decide +kernel
theorem dL_law_562 : decode cL_law 562 = .ok (.goto 4, 3) := by decide +kernel
theorem dL_law_565 : decode cL_law 565 = .ok (.lconst 0, 1) := by decide +kernel
theorem dL_law_566 : decode cL_law 566 = .ok (.lcmp, 1) := by decide +kernel
theorem dL_law_567 : decode cL_law 567 = .ok (.ifCond .eq 5, 3) := by decide +kernel
theorem dL_law_570 : decode cL_law 570 = .ok (.iconst 0, 1) := by decide +kernel
theorem dL_law_571 : decode cL_law 571 = .ok (.ireturn, 1) := by decide +kernel
theorem dL_law_572 : decode cL_law 572 = .ok (.goto 923, 3) := by decide +kernel
theorem dL_law_575 : decode cL_law 575 = .ok (.aload_n 1, 1) := by decide +kernel
theorem dL_law_576 : decode cL_law 576 = .ok (.aload_n 0, 1) := by decide +kernel
theorem dL_law_577 : decode cL_law 577 = .ok (.iload 4, 2) := by decide +kernel
theorem dL_law_579 : decode cL_law 579 = .ok (.iconst 1, 1) := by decide +kernel
theorem dL_law_580 : decode cL_law 580 = .ok (.iadd, 1) := by decide +kernel
theorem dL_law_581 : decode cL_law 581 = .ok (.iaload, 1) := by decide +kernel
theorem dL_law_582 : decode cL_law 582 = .ok (.aload_n 0, 1) := by decide +kernel
theorem dL_law_583 : decode cL_law 583 = .ok (.iload 4, 2) := by decide +kernel
theorem dL_law_585 : decode cL_law 585 = .ok (.iconst 2, 1) := by decide +kernel
theorem dL_law_586 : decode cL_law 586 = .ok (.iadd, 1) := by decide +kernel
theorem dL_law_587 : decode cL_law 587 = .ok (.iaload, 1) := by decide +kernel
theorem dL_law_588 : decode cL_law 588 = .ok (.invokestatic 115, 3) := by decide +kernel
theorem dL_law_591 : decode cL_law 591 = .ok (.istore 5, 2) := by decide +kernel
theorem dL_law_593 : decode cL_law 593 = .ok (.aload_n 2, 1) := by decide +kernel
theorem dL_law_594 : decode cL_law 594 = .ok (.aload_n 0, 1) := by decide +kernel
theorem dL_law_595 : decode cL_law 595 = .ok (.iload 4, 2) := by decide +kernel
theorem dL_law_597 : decode cL_law 597 = .ok (.iconst 1, 1) := by decide +kernel
theorem dL_law_598 : decode cL_law 598 = .ok (.iadd, 1) := by decide +kernel
theorem dL_law_599 : decode cL_law 599 = .ok (.iaload, 1) := by decide +kernel
theorem dL_law_600 : decode cL_law 600 = .ok (.aload_n 0, 1) := by decide +kernel
theorem dL_law_601 : decode cL_law 601 = .ok (.iload 4, 2) := by decide +kernel
theorem dL_law_603 : decode cL_law 603 = .ok (.iconst 2, 1) := by decide +kernel
theorem dL_law_604 : decode cL_law 604 = .ok (.iadd, 1) := by decide +kernel
theorem dL_law_605 : decode cL_law 605 = .ok (.iaload, 1) := by decide +kernel
theorem dL_law_606 : decode cL_law 606 = .ok (.invokevirtual 118, 3) := by decide +kernel
theorem dL_law_609 : decode cL_law 609 = .ok (.aload_n 2, 1) := by decide +kernel
theorem dL_law_610 : decode cL_law 610 = .ok (.invokevirtual 93, 3) := by decide +kernel
theorem dL_law_613 : decode cL_law 613 = .ok (.iload 5, 2) := by decide +kernel
theorem dL_law_615 : decode cL_law 615 = .ok (.if_icmp .eq 5, 3) := by decide +kernel
theorem dL_law_618 : decode cL_law 618 = .ok (.iconst 0, 1) := by decide +kernel
theorem dL_law_619 : decode cL_law 619 = .ok (.ireturn, 1) := by decide +kernel
theorem dL_law_620 : decode cL_law 620 = .ok (.goto 875, 3) := by decide +kernel
theorem dL_law_623 : decode cL_law 623 = .ok (.aload_n 1, 1) := by decide +kernel
theorem dL_law_624 : decode cL_law 624 = .ok (.aload_n 0, 1) := by decide +kernel
theorem dL_law_625 : decode cL_law 625 = .ok (.iload 4, 2) := by decide +kernel
theorem dL_law_627 : decode cL_law 627 = .ok (.iconst 1, 1) := by decide +kernel
theorem dL_law_628 : decode cL_law 628 = .ok (.iadd, 1) := by decide +kernel
theorem dL_law_629 : decode cL_law 629 = .ok (.iaload, 1) := by decide +kernel
theorem dL_law_630 : decode cL_law 630 = .ok (.aload_n 3, 1) := by decide +kernel
theorem dL_law_631 : decode cL_law 631 = .ok (.invokestatic 119, 3) := by decide +kernel
theorem dL_law_634 : decode cL_law 634 = .ok (.istore 5, 2) := by decide +kernel
theorem dL_law_636 : decode cL_law 636 = .ok (.aload_n 2, 1) := by decide +kernel
theorem dL_law_637 : decode cL_law 637 = .ok (.aload_n 0, 1) := by decide +kernel
theorem dL_law_638 : decode cL_law 638 = .ok (.iload 4, 2) := by decide +kernel
theorem dL_law_640 : decode cL_law 640 = .ok (.iconst 1, 1) := by decide +kernel
theorem dL_law_641 : decode cL_law 641 = .ok (.iadd, 1) := by decide +kernel
theorem dL_law_642 : decode cL_law 642 = .ok (.iaload, 1) := by decide +kernel
theorem dL_law_643 : decode cL_law 643 = .ok (.invokevirtual 121, 3) := by decide +kernel
theorem dL_law_646 : decode cL_law 646 = .ok (.istore 6, 2) := by decide +kernel
theorem dL_law_648 : decode cL_law 648 = .ok (.aload_n 2, 1) := by decide +kernel
theorem dL_law_649 : decode cL_law 649 = .ok (.invokevirtual 93, 3) := by decide +kernel
theorem dL_law_652 : decode cL_law 652 = .ok (.iload 5, 2) := by decide +kernel
theorem dL_law_654 : decode cL_law 654 = .ok (.if_icmp .eq 5, 3) := by decide +kernel
theorem dL_law_657 : decode cL_law 657 = .ok (.iconst 0, 1) := by decide +kernel
theorem dL_law_658 : decode cL_law 658 = .ok (.ireturn, 1) := by decide +kernel
theorem dL_law_659 : decode cL_law 659 = .ok (.iload 5, 2) := by decide +kernel
theorem dL_law_661 : decode cL_law 661 = .ok (.ifCond .ne 15, 3) := by decide +kernel
theorem dL_law_664 : decode cL_law 664 = .ok (.aload_n 3, 1) := by decide +kernel
theorem dL_law_665 : decode cL_law 665 = .ok (.iconst 0, 1) := by decide +kernel
theorem dL_law_666 : decode cL_law 666 = .ok (.laload, 1) := by decide +kernel
theorem dL_law_667 : decode cL_law 667 = .ok (.iload 6, 2) := by decide +kernel
theorem dL_law_669 : decode cL_law 669 = .ok (.i2l, 1) := by decide +kernel
theorem dL_law_670 : decode cL_law 670 = .ok (.lcmp, 1) := by decide +kernel
theorem dL_law_671 : decode cL_law 671 = .ok (.ifCond .eq 5, 3) := by decide +kernel
theorem dL_law_674 : decode cL_law 674 = .ok (.iconst 0, 1) := by decide +kernel
theorem dL_law_675 : decode cL_law 675 = .ok (.ireturn, 1) := by decide +kernel
theorem dL_law_676 : decode cL_law 676 = .ok (.goto 819, 3) := by decide +kernel
theorem dL_law_679 : decode cL_law 679 = .ok (.aload_n 1, 1) := by decide +kernel
theorem dL_law_680 : decode cL_law 680 = .ok (.aload_n 0, 1) := by decide +kernel
theorem dL_law_681 : decode cL_law 681 = .ok (.iload 4, 2) := by decide +kernel
theorem dL_law_683 : decode cL_law 683 = .ok (.iconst 1, 1) := by decide +kernel
theorem dL_law_684 : decode cL_law 684 = .ok (.iadd, 1) := by decide +kernel
theorem dL_law_685 : decode cL_law 685 = .ok (.iaload, 1) := by decide +kernel
theorem dL_law_686 : decode cL_law 686 = .ok (.aload_n 0, 1) := by decide +kernel
theorem dL_law_687 : decode cL_law 687 = .ok (.iload 4, 2) := by decide +kernel
theorem dL_law_689 : decode cL_law 689 = .ok (.iconst 2, 1) := by decide +kernel
theorem dL_law_690 : decode cL_law 690 = .ok (.iadd, 1) := by decide +kernel
theorem dL_law_691 : decode cL_law 691 = .ok (.iaload, 1) := by decide +kernel
theorem dL_law_692 : decode cL_law 692 = .ok (.aload_n 3, 1) := by decide +kernel
theorem dL_law_693 : decode cL_law 693 = .ok (.invokestatic 122, 3) := by decide +kernel
theorem dL_law_696 : decode cL_law 696 = .ok (.istore 5, 2) := by decide +kernel
theorem dL_law_698 : decode cL_law 698 = .ok (.aload_n 2, 1) := by decide +kernel
theorem dL_law_699 : decode cL_law 699 = .ok (.aload_n 0, 1) := by decide +kernel
theorem dL_law_700 : decode cL_law 700 = .ok (.iload 4, 2) := by decide +kernel
theorem dL_law_702 : decode cL_law 702 = .ok (.iconst 1, 1) := by decide +kernel
theorem dL_law_703 : decode cL_law 703 = .ok (.iadd, 1) := by decide +kernel
theorem dL_law_704 : decode cL_law 704 = .ok (.iaload, 1) := by decide +kernel
theorem dL_law_705 : decode cL_law 705 = .ok (.aload_n 0, 1) := by decide +kernel
theorem dL_law_706 : decode cL_law 706 = .ok (.iload 4, 2) := by decide +kernel
theorem dL_law_708 : decode cL_law 708 = .ok (.iconst 2, 1) := by decide +kernel
theorem dL_law_709 : decode cL_law 709 = .ok (.iadd, 1) := by decide +kernel
theorem dL_law_710 : decode cL_law 710 = .ok (.iaload, 1) := by decide +kernel
theorem dL_law_711 : decode cL_law 711 = .ok (.invokevirtual 124, 3) := by decide +kernel
theorem dL_law_714 : decode cL_law 714 = .ok (.istore 6, 2) := by decide +kernel
theorem dL_law_716 : decode cL_law 716 = .ok (.aload_n 2, 1) := by decide +kernel
theorem dL_law_717 : decode cL_law 717 = .ok (.invokevirtual 93, 3) := by decide +kernel
theorem dL_law_720 : decode cL_law 720 = .ok (.iload 5, 2) := by decide +kernel
theorem dL_law_722 : decode cL_law 722 = .ok (.if_icmp .eq 5, 3) := by decide +kernel
theorem dL_law_725 : decode cL_law 725 = .ok (.iconst 0, 1) := by decide +kernel
theorem dL_law_726 : decode cL_law 726 = .ok (.ireturn, 1) := by decide +kernel
theorem dL_law_727 : decode cL_law 727 = .ok (.iload 5, 2) := by decide +kernel
theorem dL_law_729 : decode cL_law 729 = .ok (.ifCond .ne 15, 3) := by decide +kernel
theorem dL_law_732 : decode cL_law 732 = .ok (.aload_n 3, 1) := by decide +kernel
theorem dL_law_733 : decode cL_law 733 = .ok (.iconst 0, 1) := by decide +kernel
theorem dL_law_734 : decode cL_law 734 = .ok (.laload, 1) := by decide +kernel
theorem dL_law_735 : decode cL_law 735 = .ok (.iload 6, 2) := by decide +kernel
theorem dL_law_737 : decode cL_law 737 = .ok (.i2l, 1) := by decide +kernel
theorem dL_law_738 : decode cL_law 738 = .ok (.lcmp, 1) := by decide +kernel
theorem dL_law_739 : decode cL_law 739 = .ok (.ifCond .eq 5, 3) := by decide +kernel
theorem dL_law_742 : decode cL_law 742 = .ok (.iconst 0, 1) := by decide +kernel
theorem dL_law_743 : decode cL_law 743 = .ok (.ireturn, 1) := by decide +kernel
theorem dL_law_744 : decode cL_law 744 = .ok (.goto 751, 3) := by decide +kernel
theorem dL_law_747 : decode cL_law 747 = .ok (.aload_n 1, 1) := by decide +kernel
theorem dL_law_748 : decode cL_law 748 = .ok (.aload_n 0, 1) := by decide +kernel
theorem dL_law_749 : decode cL_law 749 = .ok (.iload 4, 2) := by decide +kernel
theorem dL_law_751 : decode cL_law 751 = .ok (.iconst 1, 1) := by decide +kernel
theorem dL_law_752 : decode cL_law 752 = .ok (.iadd, 1) := by decide +kernel
theorem dL_law_753 : decode cL_law 753 = .ok (.iaload, 1) := by decide +kernel
theorem dL_law_754 : decode cL_law 754 = .ok (.aload_n 0, 1) := by decide +kernel
theorem dL_law_755 : decode cL_law 755 = .ok (.iload 4, 2) := by decide +kernel
theorem dL_law_757 : decode cL_law 757 = .ok (.iconst 2, 1) := by decide +kernel
theorem dL_law_758 : decode cL_law 758 = .ok (.iadd, 1) := by decide +kernel
theorem dL_law_759 : decode cL_law 759 = .ok (.iaload, 1) := by decide +kernel
theorem dL_law_760 : decode cL_law 760 = .ok (.aload_n 3, 1) := by decide +kernel
theorem dL_law_761 : decode cL_law 761 = .ok (.invokestatic 125, 3) := by decide +kernel
theorem dL_law_764 : decode cL_law 764 = .ok (.istore 5, 2) := by decide +kernel
theorem dL_law_766 : decode cL_law 766 = .ok (.aload_n 2, 1) := by decide +kernel
theorem dL_law_767 : decode cL_law 767 = .ok (.aload_n 0, 1) := by decide +kernel
theorem dL_law_768 : decode cL_law 768 = .ok (.iload 4, 2) := by decide +kernel
theorem dL_law_770 : decode cL_law 770 = .ok (.iconst 1, 1) := by decide +kernel
theorem dL_law_771 : decode cL_law 771 = .ok (.iadd, 1) := by decide +kernel
theorem dL_law_772 : decode cL_law 772 = .ok (.iaload, 1) := by decide +kernel
theorem dL_law_773 : decode cL_law 773 = .ok (.aload_n 0, 1) := by decide +kernel
theorem dL_law_774 : decode cL_law 774 = .ok (.iload 4, 2) := by decide +kernel
theorem dL_law_776 : decode cL_law 776 = .ok (.iconst 2, 1) := by decide +kernel
theorem dL_law_777 : decode cL_law 777 = .ok (.iadd, 1) := by decide +kernel
theorem dL_law_778 : decode cL_law 778 = .ok (.iaload, 1) := by decide +kernel
theorem dL_law_779 : decode cL_law 779 = .ok (.invokevirtual 127, 3) := by decide +kernel
theorem dL_law_782 : decode cL_law 782 = .ok (.istore 6, 2) := by decide +kernel
theorem dL_law_784 : decode cL_law 784 = .ok (.aload_n 2, 1) := by decide +kernel
theorem dL_law_785 : decode cL_law 785 = .ok (.invokevirtual 93, 3) := by decide +kernel
theorem dL_law_788 : decode cL_law 788 = .ok (.iload 5, 2) := by decide +kernel
theorem dL_law_790 : decode cL_law 790 = .ok (.if_icmp .eq 5, 3) := by decide +kernel
theorem dL_law_793 : decode cL_law 793 = .ok (.iconst 0, 1) := by decide +kernel
theorem dL_law_794 : decode cL_law 794 = .ok (.ireturn, 1) := by decide +kernel
theorem dL_law_795 : decode cL_law 795 = .ok (.iload 5, 2) := by decide +kernel
theorem dL_law_797 : decode cL_law 797 = .ok (.ifCond .ne 15, 3) := by decide +kernel
theorem dL_law_800 : decode cL_law 800 = .ok (.aload_n 3, 1) := by decide +kernel
theorem dL_law_801 : decode cL_law 801 = .ok (.iconst 0, 1) := by decide +kernel
theorem dL_law_802 : decode cL_law 802 = .ok (.laload, 1) := by decide +kernel
theorem dL_law_803 : decode cL_law 803 = .ok (.iload 6, 2) := by decide +kernel
theorem dL_law_805 : decode cL_law 805 = .ok (.i2l, 1) := by decide +kernel
theorem dL_law_806 : decode cL_law 806 = .ok (.lcmp, 1) := by decide +kernel
theorem dL_law_807 : decode cL_law 807 = .ok (.ifCond .eq 5, 3) := by decide +kernel
theorem dL_law_810 : decode cL_law 810 = .ok (.iconst 0, 1) := by decide +kernel
theorem dL_law_811 : decode cL_law 811 = .ok (.ireturn, 1) := by decide +kernel
theorem dL_law_812 : decode cL_law 812 = .ok (.goto 683, 3) := by decide +kernel
theorem dL_law_815 : decode cL_law 815 = .ok (.aload_n 1, 1) := by decide +kernel
theorem dL_law_816 : decode cL_law 816 = .ok (.aload_n 0, 1) := by decide +kernel
theorem dL_law_817 : decode cL_law 817 = .ok (.iload 4, 2) := by decide +kernel
theorem dL_law_819 : decode cL_law 819 = .ok (.iconst 1, 1) := by decide +kernel
theorem dL_law_820 : decode cL_law 820 = .ok (.iadd, 1) := by decide +kernel
theorem dL_law_821 : decode cL_law 821 = .ok (.iaload, 1) := by decide +kernel
theorem dL_law_822 : decode cL_law 822 = .ok (.aload_n 3, 1) := by decide +kernel
theorem dL_law_823 : decode cL_law 823 = .ok (.invokestatic 128, 3) := by decide +kernel
theorem dL_law_826 : decode cL_law 826 = .ok (.istore 5, 2) := by decide +kernel
theorem dL_law_828 : decode cL_law 828 = .ok (.aload_n 2, 1) := by decide +kernel
theorem dL_law_829 : decode cL_law 829 = .ok (.aload_n 0, 1) := by decide +kernel
theorem dL_law_830 : decode cL_law 830 = .ok (.iload 4, 2) := by decide +kernel
theorem dL_law_832 : decode cL_law 832 = .ok (.iconst 1, 1) := by decide +kernel
theorem dL_law_833 : decode cL_law 833 = .ok (.iadd, 1) := by decide +kernel
theorem dL_law_834 : decode cL_law 834 = .ok (.iaload, 1) := by decide +kernel
theorem dL_law_835 : decode cL_law 835 = .ok (.invokevirtual 130, 3) := by decide +kernel
theorem dL_law_838 : decode cL_law 838 = .ok (.istore 6, 2) := by decide +kernel
theorem dL_law_840 : decode cL_law 840 = .ok (.aload_n 2, 1) := by decide +kernel
theorem dL_law_841 : decode cL_law 841 = .ok (.invokevirtual 93, 3) := by decide +kernel
theorem dL_law_844 : decode cL_law 844 = .ok (.iload 5, 2) := by decide +kernel
theorem dL_law_846 : decode cL_law 846 = .ok (.if_icmp .eq 5, 3) := by decide +kernel
theorem dL_law_849 : decode cL_law 849 = .ok (.iconst 0, 1) := by decide +kernel
theorem dL_law_850 : decode cL_law 850 = .ok (.ireturn, 1) := by decide +kernel
theorem dL_law_851 : decode cL_law 851 = .ok (.iload 5, 2) := by decide +kernel
theorem dL_law_853 : decode cL_law 853 = .ok (.ifCond .ne 15, 3) := by decide +kernel
theorem dL_law_856 : decode cL_law 856 = .ok (.aload_n 3, 1) := by decide +kernel
theorem dL_law_857 : decode cL_law 857 = .ok (.iconst 0, 1) := by decide +kernel
theorem dL_law_858 : decode cL_law 858 = .ok (.laload, 1) := by decide +kernel
theorem dL_law_859 : decode cL_law 859 = .ok (.iload 6, 2) := by decide +kernel
theorem dL_law_861 : decode cL_law 861 = .ok (.i2l, 1) := by decide +kernel
theorem dL_law_862 : decode cL_law 862 = .ok (.lcmp, 1) := by decide +kernel
theorem dL_law_863 : decode cL_law 863 = .ok (.ifCond .eq 5, 3) := by decide +kernel
theorem dL_law_866 : decode cL_law 866 = .ok (.iconst 0, 1) := by decide +kernel
theorem dL_law_867 : decode cL_law 867 = .ok (.ireturn, 1) := by decide +kernel
theorem dL_law_868 : decode cL_law 868 = .ok (.goto 627, 3) := by decide +kernel
theorem dL_law_871 : decode cL_law 871 = .ok (.aload_n 1, 1) := by decide +kernel
theorem dL_law_872 : decode cL_law 872 = .ok (.aload_n 0, 1) := by decide +kernel
theorem dL_law_873 : decode cL_law 873 = .ok (.iload 4, 2) := by decide +kernel
theorem dL_law_875 : decode cL_law 875 = .ok (.iconst 1, 1) := by decide +kernel
theorem dL_law_876 : decode cL_law 876 = .ok (.iadd, 1) := by decide +kernel
theorem dL_law_877 : decode cL_law 877 = .ok (.iaload, 1) := by decide +kernel
theorem dL_law_878 : decode cL_law 878 = .ok (.aload_n 0, 1) := by decide +kernel
theorem dL_law_879 : decode cL_law 879 = .ok (.iload 4, 2) := by decide +kernel
theorem dL_law_881 : decode cL_law 881 = .ok (.iconst 2, 1) := by decide +kernel
theorem dL_law_882 : decode cL_law 882 = .ok (.iadd, 1) := by decide +kernel
theorem dL_law_883 : decode cL_law 883 = .ok (.iaload, 1) := by decide +kernel
theorem dL_law_884 : decode cL_law 884 = .ok (.aload_n 0, 1) := by decide +kernel
theorem dL_law_885 : decode cL_law 885 = .ok (.iload 4, 2) := by decide +kernel
theorem dL_law_887 : decode cL_law 887 = .ok (.iconst 3, 1) := by decide +kernel
theorem dL_law_888 : decode cL_law 888 = .ok (.iadd, 1) := by decide +kernel
theorem dL_law_889 : decode cL_law 889 = .ok (.iaload, 1) := by decide +kernel
theorem dL_law_890 : decode cL_law 890 = .ok (.aload_n 3, 1) := by decide +kernel
theorem dL_law_891 : decode cL_law 891 = .ok (.invokestatic 131, 3) := by decide +kernel
theorem dL_law_894 : decode cL_law 894 = .ok (.istore 5, 2) := by decide +kernel
theorem dL_law_896 : decode cL_law 896 = .ok (.aload_n 2, 1) := by decide +kernel
theorem dL_law_897 : decode cL_law 897 = .ok (.aload_n 0, 1) := by decide +kernel
theorem dL_law_898 : decode cL_law 898 = .ok (.iload 4, 2) := by decide +kernel
theorem dL_law_900 : decode cL_law 900 = .ok (.iconst 1, 1) := by decide +kernel
theorem dL_law_901 : decode cL_law 901 = .ok (.iadd, 1) := by decide +kernel
theorem dL_law_902 : decode cL_law 902 = .ok (.iaload, 1) := by decide +kernel
theorem dL_law_903 : decode cL_law 903 = .ok (.aload_n 0, 1) := by decide +kernel
theorem dL_law_904 : decode cL_law 904 = .ok (.iload 4, 2) := by decide +kernel
theorem dL_law_906 : decode cL_law 906 = .ok (.iconst 2, 1) := by decide +kernel
theorem dL_law_907 : decode cL_law 907 = .ok (.iadd, 1) := by decide +kernel
theorem dL_law_908 : decode cL_law 908 = .ok (.iaload, 1) := by decide +kernel
theorem dL_law_909 : decode cL_law 909 = .ok (.aload_n 0, 1) := by decide +kernel
theorem dL_law_910 : decode cL_law 910 = .ok (.iload 4, 2) := by decide +kernel
theorem dL_law_912 : decode cL_law 912 = .ok (.iconst 3, 1) := by decide +kernel
theorem dL_law_913 : decode cL_law 913 = .ok (.iadd, 1) := by decide +kernel
theorem dL_law_914 : decode cL_law 914 = .ok (.iaload, 1) := by decide +kernel
theorem dL_law_915 : decode cL_law 915 = .ok (.invokevirtual 133, 3) := by decide +kernel
theorem dL_law_918 : decode cL_law 918 = .ok (.istore 6, 2) := by decide +kernel
theorem dL_law_920 : decode cL_law 920 = .ok (.aload_n 2, 1) := by decide +kernel
theorem dL_law_921 : decode cL_law 921 = .ok (.invokevirtual 93, 3) := by decide +kernel
theorem dL_law_924 : decode cL_law 924 = .ok (.iload 5, 2) := by decide +kernel
theorem dL_law_926 : decode cL_law 926 = .ok (.if_icmp .eq 5, 3) := by decide +kernel
theorem dL_law_929 : decode cL_law 929 = .ok (.iconst 0, 1) := by decide +kernel
theorem dL_law_930 : decode cL_law 930 = .ok (.ireturn, 1) := by decide +kernel
theorem dL_law_931 : decode cL_law 931 = .ok (.iload 5, 2) := by decide +kernel
theorem dL_law_933 : decode cL_law 933 = .ok (.ifCond .ne 22, 3) := by decide +kernel
theorem dL_law_936 : decode cL_law 936 = .ok (.aload_n 3, 1) := by decide +kernel
theorem dL_law_937 : decode cL_law 937 = .ok (.iconst 0, 1) := by decide +kernel
theorem dL_law_938 : decode cL_law 938 = .ok (.laload, 1) := by decide +kernel
theorem dL_law_939 : decode cL_law 939 = .ok (.iload 6, 2) := by decide +kernel
theorem dL_law_941 : decode cL_law 941 = .ok (.ifCond .eq 7, 3) := by decide +kernel
theorem dL_law_944 : decode cL_law 944 = .ok (.lconst 1, 1) := by decide +kernel
theorem dL_law_945 : decode cL_law 945 = .ok (.goto 4, 3) := by decide +kernel
theorem dL_law_948 : decode cL_law 948 = .ok (.lconst 0, 1) := by decide +kernel
theorem dL_law_949 : decode cL_law 949 = .ok (.lcmp, 1) := by decide +kernel
theorem dL_law_950 : decode cL_law 950 = .ok (.ifCond .eq 5, 3) := by decide +kernel
theorem dL_law_953 : decode cL_law 953 = .ok (.iconst 0, 1) := by decide +kernel
theorem dL_law_954 : decode cL_law 954 = .ok (.ireturn, 1) := by decide +kernel
theorem dL_law_955 : decode cL_law 955 = .ok (.goto 540, 3) := by decide +kernel
theorem dL_law_958 : decode cL_law 958 = .ok (.aload_n 1, 1) := by decide +kernel
theorem dL_law_959 : decode cL_law 959 = .ok (.aload_n 0, 1) := by decide +kernel
theorem dL_law_960 : decode cL_law 960 = .ok (.iload 4, 2) := by decide +kernel
theorem dL_law_962 : decode cL_law 962 = .ok (.iconst 1, 1) := by decide +kernel
theorem dL_law_963 : decode cL_law 963 = .ok (.iadd, 1) := by decide +kernel
theorem dL_law_964 : decode cL_law 964 = .ok (.iaload, 1) := by decide +kernel
theorem dL_law_965 : decode cL_law 965 = .ok (.aload_n 0, 1) := by decide +kernel
theorem dL_law_966 : decode cL_law 966 = .ok (.iload 4, 2) := by decide +kernel
theorem dL_law_968 : decode cL_law 968 = .ok (.iconst 2, 1) := by decide +kernel
theorem dL_law_969 : decode cL_law 969 = .ok (.iadd, 1) := by decide +kernel
theorem dL_law_970 : decode cL_law 970 = .ok (.iaload, 1) := by decide +kernel
theorem dL_law_971 : decode cL_law 971 = .ok (.aload_n 3, 1) := by decide +kernel
theorem dL_law_972 : decode cL_law 972 = .ok (.invokestatic 134, 3) := by decide +kernel
theorem dL_law_975 : decode cL_law 975 = .ok (.istore 5, 2) := by decide +kernel
theorem dL_law_977 : decode cL_law 977 = .ok (.aload_n 2, 1) := by decide +kernel
theorem dL_law_978 : decode cL_law 978 = .ok (.aload_n 0, 1) := by decide +kernel
theorem dL_law_979 : decode cL_law 979 = .ok (.iload 4, 2) := by decide +kernel
theorem dL_law_981 : decode cL_law 981 = .ok (.iconst 1, 1) := by decide +kernel
theorem dL_law_982 : decode cL_law 982 = .ok (.iadd, 1) := by decide +kernel
theorem dL_law_983 : decode cL_law 983 = .ok (.iaload, 1) := by decide +kernel
theorem dL_law_984 : decode cL_law 984 = .ok (.aload_n 0, 1) := by decide +kernel
theorem dL_law_985 : decode cL_law 985 = .ok (.iload 4, 2) := by decide +kernel
theorem dL_law_987 : decode cL_law 987 = .ok (.iconst 2, 1) := by decide +kernel
theorem dL_law_988 : decode cL_law 988 = .ok (.iadd, 1) := by decide +kernel
theorem dL_law_989 : decode cL_law 989 = .ok (.iaload, 1) := by decide +kernel
theorem dL_law_990 : decode cL_law 990 = .ok (.invokevirtual 136, 3) := by decide +kernel
theorem dL_law_993 : decode cL_law 993 = .ok (.istore 6, 2) := by decide +kernel
theorem dL_law_995 : decode cL_law 995 = .ok (.aload_n 2, 1) := by decide +kernel
theorem dL_law_996 : decode cL_law 996 = .ok (.invokevirtual 93, 3) := by decide +kernel
theorem dL_law_999 : decode cL_law 999 = .ok (.iload 5, 2) := by decide +kernel
theorem dL_law_1001 : decode cL_law 1001 = .ok (.if_icmp .eq 5, 3) := by decide +kernel
theorem dL_law_1004 : decode cL_law 1004 = .ok (.iconst 0, 1) := by decide +kernel
theorem dL_law_1005 : decode cL_law 1005 = .ok (.ireturn, 1) := by decide +kernel
theorem dL_law_1006 : decode cL_law 1006 = .ok (.iload 5, 2) := by decide +kernel
theorem dL_law_1008 : decode cL_law 1008 = .ok (.ifCond .ne 15, 3) := by decide +kernel
theorem dL_law_1011 : decode cL_law 1011 = .ok (.aload_n 3, 1) := by decide +kernel
theorem dL_law_1012 : decode cL_law 1012 = .ok (.iconst 0, 1) := by decide +kernel
theorem dL_law_1013 : decode cL_law 1013 = .ok (.laload, 1) := by decide +kernel
theorem dL_law_1014 : decode cL_law 1014 = .ok (.iload 6, 2) := by decide +kernel
theorem dL_law_1016 : decode cL_law 1016 = .ok (.i2l, 1) := by decide +kernel
theorem dL_law_1017 : decode cL_law 1017 = .ok (.lcmp, 1) := by decide +kernel
theorem dL_law_1018 : decode cL_law 1018 = .ok (.ifCond .eq 5, 3) := by decide +kernel
theorem dL_law_1021 : decode cL_law 1021 = .ok (.iconst 0, 1) := by decide +kernel
theorem dL_law_1022 : decode cL_law 1022 = .ok (.ireturn, 1) := by decide +kernel
theorem dL_law_1023 : decode cL_law 1023 = .ok (.goto 472, 3) := by decide +kernel
theorem dL_law_1026 : decode cL_law 1026 = .ok (.aload_n 1, 1) := by decide +kernel
theorem dL_law_1027 : decode cL_law 1027 = .ok (.aload_n 0, 1) := by decide +kernel
theorem dL_law_1028 : decode cL_law 1028 = .ok (.iload 4, 2) := by decide +kernel
theorem dL_law_1030 : decode cL_law 1030 = .ok (.iconst 1, 1) := by decide +kernel
theorem dL_law_1031 : decode cL_law 1031 = .ok (.iadd, 1) := by decide +kernel
theorem dL_law_1032 : decode cL_law 1032 = .ok (.iaload, 1) := by decide +kernel
theorem dL_law_1033 : decode cL_law 1033 = .ok (.aload_n 0, 1) := by decide +kernel
theorem dL_law_1034 : decode cL_law 1034 = .ok (.iload 4, 2) := by decide +kernel
theorem dL_law_1036 : decode cL_law 1036 = .ok (.iconst 2, 1) := by decide +kernel
theorem dL_law_1037 : decode cL_law 1037 = .ok (.iadd, 1) := by decide +kernel
theorem dL_law_1038 : decode cL_law 1038 = .ok (.iaload, 1) := by decide +kernel
theorem dL_law_1039 : decode cL_law 1039 = .ok (.aload_n 3, 1) := by decide +kernel
theorem dL_law_1040 : decode cL_law 1040 = .ok (.invokestatic 137, 3) := by decide +kernel
theorem dL_law_1043 : decode cL_law 1043 = .ok (.istore 5, 2) := by decide +kernel
theorem dL_law_1045 : decode cL_law 1045 = .ok (.aload_n 2, 1) := by decide +kernel
theorem dL_law_1046 : decode cL_law 1046 = .ok (.aload_n 0, 1) := by decide +kernel
theorem dL_law_1047 : decode cL_law 1047 = .ok (.iload 4, 2) := by decide +kernel
theorem dL_law_1049 : decode cL_law 1049 = .ok (.iconst 1, 1) := by decide +kernel
theorem dL_law_1050 : decode cL_law 1050 = .ok (.iadd, 1) := by decide +kernel
theorem dL_law_1051 : decode cL_law 1051 = .ok (.iaload, 1) := by decide +kernel
theorem dL_law_1052 : decode cL_law 1052 = .ok (.aload_n 0, 1) := by decide +kernel
theorem dL_law_1053 : decode cL_law 1053 = .ok (.iload 4, 2) := by decide +kernel
theorem dL_law_1055 : decode cL_law 1055 = .ok (.iconst 2, 1) := by decide +kernel
theorem dL_law_1056 : decode cL_law 1056 = .ok (.iadd, 1) := by decide +kernel
theorem dL_law_1057 : decode cL_law 1057 = .ok (.iaload, 1) := by decide +kernel
theorem dL_law_1058 : decode cL_law 1058 = .ok (.invokevirtual 139, 3) := by decide +kernel
theorem dL_law_1061 : decode cL_law 1061 = .ok (.istore 6, 2) := by decide +kernel
theorem dL_law_1063 : decode cL_law 1063 = .ok (.aload_n 2, 1) := by decide +kernel
theorem dL_law_1064 : decode cL_law 1064 = .ok (.invokevirtual 93, 3) := by decide +kernel
theorem dL_law_1067 : decode cL_law 1067 = .ok (.iload 5, 2) := by decide +kernel
theorem dL_law_1069 : decode cL_law 1069 = .ok (.if_icmp .eq 5, 3) := by decide +kernel
theorem dL_law_1072 : decode cL_law 1072 = .ok (.iconst 0, 1) := by decide +kernel
theorem dL_law_1073 : decode cL_law 1073 = .ok (.ireturn, 1) := by decide +kernel
theorem dL_law_1074 : decode cL_law 1074 = .ok (.iload 5, 2) := by decide +kernel
theorem dL_law_1076 : decode cL_law 1076 = .ok (.ifCond .ne 22, 3) := by decide +kernel
theorem dL_law_1079 : decode cL_law 1079 = .ok (.aload_n 3, 1) := by decide +kernel
theorem dL_law_1080 : decode cL_law 1080 = .ok (.iconst 0, 1) := by decide +kernel
theorem dL_law_1081 : decode cL_law 1081 = .ok (.laload, 1) := by decide +kernel
theorem dL_law_1082 : decode cL_law 1082 = .ok (.iload 6, 2) := by decide +kernel
theorem dL_law_1084 : decode cL_law 1084 = .ok (.ifCond .eq 7, 3) := by decide +kernel
theorem dL_law_1087 : decode cL_law 1087 = .ok (.lconst 1, 1) := by decide +kernel
theorem dL_law_1088 : decode cL_law 1088 = .ok (.goto 4, 3) := by decide +kernel
theorem dL_law_1091 : decode cL_law 1091 = .ok (.lconst 0, 1) := by decide +kernel
theorem dL_law_1092 : decode cL_law 1092 = .ok (.lcmp, 1) := by decide +kernel
theorem dL_law_1093 : decode cL_law 1093 = .ok (.ifCond .eq 5, 3) := by decide +kernel
theorem dL_law_1096 : decode cL_law 1096 = .ok (.iconst 0, 1) := by decide +kernel
theorem dL_law_1097 : decode cL_law 1097 = .ok (.ireturn, 1) := by decide +kernel
theorem dL_law_1098 : decode cL_law 1098 = .ok (.goto 397, 3) := by decide +kernel
theorem dL_law_1101 : decode cL_law 1101 = .ok (.aload_n 1, 1) := by decide +kernel
theorem dL_law_1102 : decode cL_law 1102 = .ok (.aload_n 0, 1) := by decide +kernel
theorem dL_law_1103 : decode cL_law 1103 = .ok (.iload 4, 2) := by decide +kernel
theorem dL_law_1105 : decode cL_law 1105 = .ok (.iconst 1, 1) := by decide +kernel
theorem dL_law_1106 : decode cL_law 1106 = .ok (.iadd, 1) := by decide +kernel
theorem dL_law_1107 : decode cL_law 1107 = .ok (.iaload, 1) := by decide +kernel
theorem dL_law_1108 : decode cL_law 1108 = .ok (.aload_n 0, 1) := by decide +kernel
theorem dL_law_1109 : decode cL_law 1109 = .ok (.iload 4, 2) := by decide +kernel
theorem dL_law_1111 : decode cL_law 1111 = .ok (.iconst 2, 1) := by decide +kernel
theorem dL_law_1112 : decode cL_law 1112 = .ok (.iadd, 1) := by decide +kernel
theorem dL_law_1113 : decode cL_law 1113 = .ok (.iaload, 1) := by decide +kernel
theorem dL_law_1114 : decode cL_law 1114 = .ok (.aload_n 3, 1) := by decide +kernel
theorem dL_law_1115 : decode cL_law 1115 = .ok (.invokestatic 140, 3) := by decide +kernel
theorem dL_law_1118 : decode cL_law 1118 = .ok (.istore 5, 2) := by decide +kernel
theorem dL_law_1120 : decode cL_law 1120 = .ok (.aload_n 2, 1) := by decide +kernel
theorem dL_law_1121 : decode cL_law 1121 = .ok (.aload_n 0, 1) := by decide +kernel
theorem dL_law_1122 : decode cL_law 1122 = .ok (.iload 4, 2) := by decide +kernel
theorem dL_law_1124 : decode cL_law 1124 = .ok (.iconst 1, 1) := by decide +kernel
theorem dL_law_1125 : decode cL_law 1125 = .ok (.iadd, 1) := by decide +kernel
theorem dL_law_1126 : decode cL_law 1126 = .ok (.iaload, 1) := by decide +kernel
theorem dL_law_1127 : decode cL_law 1127 = .ok (.aload_n 0, 1) := by decide +kernel
theorem dL_law_1128 : decode cL_law 1128 = .ok (.iload 4, 2) := by decide +kernel
theorem dL_law_1130 : decode cL_law 1130 = .ok (.iconst 2, 1) := by decide +kernel
theorem dL_law_1131 : decode cL_law 1131 = .ok (.iadd, 1) := by decide +kernel
theorem dL_law_1132 : decode cL_law 1132 = .ok (.iaload, 1) := by decide +kernel
theorem dL_law_1133 : decode cL_law 1133 = .ok (.invokevirtual 142, 3) := by decide +kernel
theorem dL_law_1136 : decode cL_law 1136 = .ok (.istore 6, 2) := by decide +kernel
theorem dL_law_1138 : decode cL_law 1138 = .ok (.aload_n 2, 1) := by decide +kernel
theorem dL_law_1139 : decode cL_law 1139 = .ok (.invokevirtual 93, 3) := by decide +kernel
theorem dL_law_1142 : decode cL_law 1142 = .ok (.iload 5, 2) := by decide +kernel
theorem dL_law_1144 : decode cL_law 1144 = .ok (.if_icmp .eq 5, 3) := by decide +kernel
theorem dL_law_1147 : decode cL_law 1147 = .ok (.iconst 0, 1) := by decide +kernel
theorem dL_law_1148 : decode cL_law 1148 = .ok (.ireturn, 1) := by decide +kernel
theorem dL_law_1149 : decode cL_law 1149 = .ok (.iload 5, 2) := by decide +kernel
theorem dL_law_1151 : decode cL_law 1151 = .ok (.ifCond .ne 15, 3) := by decide +kernel
theorem dL_law_1154 : decode cL_law 1154 = .ok (.aload_n 3, 1) := by decide +kernel
theorem dL_law_1155 : decode cL_law 1155 = .ok (.iconst 0, 1) := by decide +kernel
theorem dL_law_1156 : decode cL_law 1156 = .ok (.laload, 1) := by decide +kernel
theorem dL_law_1157 : decode cL_law 1157 = .ok (.iload 6, 2) := by decide +kernel
theorem dL_law_1159 : decode cL_law 1159 = .ok (.i2l, 1) := by decide +kernel
theorem dL_law_1160 : decode cL_law 1160 = .ok (.lcmp, 1) := by decide +kernel
theorem dL_law_1161 : decode cL_law 1161 = .ok (.ifCond .eq 5, 3) := by decide +kernel
theorem dL_law_1164 : decode cL_law 1164 = .ok (.iconst 0, 1) := by decide +kernel
theorem dL_law_1165 : decode cL_law 1165 = .ok (.ireturn, 1) := by decide +kernel
theorem dL_law_1166 : decode cL_law 1166 = .ok (.goto 329, 3) := by decide +kernel
theorem dL_law_1169 : decode cL_law 1169 = .ok (.aload_n 1, 1) := by decide +kernel
theorem dL_law_1170 : decode cL_law 1170 = .ok (.aload_n 0, 1) := by decide +kernel
theorem dL_law_1171 : decode cL_law 1171 = .ok (.iload 4, 2) := by decide +kernel
theorem dL_law_1173 : decode cL_law 1173 = .ok (.iconst 1, 1) := by decide +kernel
theorem dL_law_1174 : decode cL_law 1174 = .ok (.iadd, 1) := by decide +kernel
theorem dL_law_1175 : decode cL_law 1175 = .ok (.iaload, 1) := by decide +kernel
theorem dL_law_1176 : decode cL_law 1176 = .ok (.aload_n 3, 1) := by decide +kernel
theorem dL_law_1177 : decode cL_law 1177 = .ok (.invokestatic 143, 3) := by decide +kernel
theorem dL_law_1180 : decode cL_law 1180 = .ok (.istore 5, 2) := by decide +kernel
theorem dL_law_1182 : decode cL_law 1182 = .ok (.aload_n 2, 1) := by decide +kernel
theorem dL_law_1183 : decode cL_law 1183 = .ok (.aload_n 0, 1) := by decide +kernel
theorem dL_law_1184 : decode cL_law 1184 = .ok (.iload 4, 2) := by decide +kernel
theorem dL_law_1186 : decode cL_law 1186 = .ok (.iconst 1, 1) := by decide +kernel
theorem dL_law_1187 : decode cL_law 1187 = .ok (.iadd, 1) := by decide +kernel
theorem dL_law_1188 : decode cL_law 1188 = .ok (.iaload, 1) := by decide +kernel
theorem dL_law_1189 : decode cL_law 1189 = .ok (.invokevirtual 145, 3) := by decide +kernel
theorem dL_law_1192 : decode cL_law 1192 = .ok (.istore 6, 2) := by decide +kernel
theorem dL_law_1194 : decode cL_law 1194 = .ok (.aload_n 2, 1) := by decide +kernel
theorem dL_law_1195 : decode cL_law 1195 = .ok (.invokevirtual 93, 3) := by decide +kernel
theorem dL_law_1198 : decode cL_law 1198 = .ok (.iload 5, 2) := by decide +kernel
theorem dL_law_1200 : decode cL_law 1200 = .ok (.if_icmp .eq 5, 3) := by decide +kernel
theorem dL_law_1203 : decode cL_law 1203 = .ok (.iconst 0, 1) := by decide +kernel
theorem dL_law_1204 : decode cL_law 1204 = .ok (.ireturn, 1) := by decide +kernel
theorem dL_law_1205 : decode cL_law 1205 = .ok (.iload 5, 2) := by decide +kernel
theorem dL_law_1207 : decode cL_law 1207 = .ok (.ifCond .ne 15, 3) := by decide +kernel
theorem dL_law_1210 : decode cL_law 1210 = .ok (.aload_n 3, 1) := by decide +kernel
theorem dL_law_1211 : decode cL_law 1211 = .ok (.iconst 0, 1) := by decide +kernel
theorem dL_law_1212 : decode cL_law 1212 = .ok (.laload, 1) := by decide +kernel
theorem dL_law_1213 : decode cL_law 1213 = .ok (.iload 6, 2) := by decide +kernel
theorem dL_law_1215 : decode cL_law 1215 = .ok (.i2l, 1) := by decide +kernel
theorem dL_law_1216 : decode cL_law 1216 = .ok (.lcmp, 1) := by decide +kernel
theorem dL_law_1217 : decode cL_law 1217 = .ok (.ifCond .eq 5, 3) := by decide +kernel
theorem dL_law_1220 : decode cL_law 1220 = .ok (.iconst 0, 1) := by decide +kernel
theorem dL_law_1221 : decode cL_law 1221 = .ok (.ireturn, 1) := by decide +kernel
theorem dL_law_1222 : decode cL_law 1222 = .ok (.goto 273, 3) := by decide +kernel
theorem dL_law_1225 : decode cL_law 1225 = .ok (.aload_n 1, 1) := by decide +kernel
theorem dL_law_1226 : decode cL_law 1226 = .ok (.aload_n 0, 1) := by decide +kernel
theorem dL_law_1227 : decode cL_law 1227 = .ok (.iload 4, 2) := by decide +kernel
theorem dL_law_1229 : decode cL_law 1229 = .ok (.iconst 1, 1) := by decide +kernel
theorem dL_law_1230 : decode cL_law 1230 = .ok (.iadd, 1) := by decide +kernel
theorem dL_law_1231 : decode cL_law 1231 = .ok (.iaload, 1) := by decide +kernel
theorem dL_law_1232 : decode cL_law 1232 = .ok (.aload_n 3, 1) := by decide +kernel
theorem dL_law_1233 : decode cL_law 1233 = .ok (.invokestatic 146, 3) := by decide +kernel
theorem dL_law_1236 : decode cL_law 1236 = .ok (.istore 5, 2) := by decide +kernel
theorem dL_law_1238 : decode cL_law 1238 = .ok (.aload_n 2, 1) := by decide +kernel
theorem dL_law_1239 : decode cL_law 1239 = .ok (.aload_n 0, 1) := by decide +kernel
theorem dL_law_1240 : decode cL_law 1240 = .ok (.iload 4, 2) := by decide +kernel
theorem dL_law_1242 : decode cL_law 1242 = .ok (.iconst 1, 1) := by decide +kernel
theorem dL_law_1243 : decode cL_law 1243 = .ok (.iadd, 1) := by decide +kernel
theorem dL_law_1244 : decode cL_law 1244 = .ok (.iaload, 1) := by decide +kernel
theorem dL_law_1245 : decode cL_law 1245 = .ok (.invokevirtual 148, 3) := by decide +kernel
theorem dL_law_1248 : decode cL_law 1248 = .ok (.istore 6, 2) := by decide +kernel
theorem dL_law_1250 : decode cL_law 1250 = .ok (.aload_n 2, 1) := by decide +kernel
theorem dL_law_1251 : decode cL_law 1251 = .ok (.invokevirtual 93, 3) := by decide +kernel
theorem dL_law_1254 : decode cL_law 1254 = .ok (.iload 5, 2) := by decide +kernel
theorem dL_law_1256 : decode cL_law 1256 = .ok (.if_icmp .eq 5, 3) := by decide +kernel
theorem dL_law_1259 : decode cL_law 1259 = .ok (.iconst 0, 1) := by decide +kernel
theorem dL_law_1260 : decode cL_law 1260 = .ok (.ireturn, 1) := by decide +kernel
theorem dL_law_1261 : decode cL_law 1261 = .ok (.iload 5, 2) := by decide +kernel
theorem dL_law_1263 : decode cL_law 1263 = .ok (.ifCond .ne 22, 3) := by decide +kernel
theorem dL_law_1266 : decode cL_law 1266 = .ok (.aload_n 3, 1) := by decide +kernel
theorem dL_law_1267 : decode cL_law 1267 = .ok (.iconst 0, 1) := by decide +kernel
theorem dL_law_1268 : decode cL_law 1268 = .ok (.laload, 1) := by decide +kernel
theorem dL_law_1269 : decode cL_law 1269 = .ok (.iload 6, 2) := by decide +kernel
theorem dL_law_1271 : decode cL_law 1271 = .ok (.ifCond .eq 7, 3) := by decide +kernel
theorem dL_law_1274 : decode cL_law 1274 = .ok (.lconst 1, 1) := by decide +kernel
theorem dL_law_1275 : decode cL_law 1275 = .ok (.goto 4, 3) := by decide +kernel
theorem dL_law_1278 : decode cL_law 1278 = .ok (.lconst 0, 1) := by decide +kernel
theorem dL_law_1279 : decode cL_law 1279 = .ok (.lcmp, 1) := by decide +kernel
theorem dL_law_1280 : decode cL_law 1280 = .ok (.ifCond .eq 5, 3) := by decide +kernel
theorem dL_law_1283 : decode cL_law 1283 = .ok (.iconst 0, 1) := by decide +kernel
theorem dL_law_1284 : decode cL_law 1284 = .ok (.ireturn, 1) := by decide +kernel
theorem dL_law_1285 : decode cL_law 1285 = .ok (.goto 210, 3) := by decide +kernel
theorem dL_law_1288 : decode cL_law 1288 = .ok (.aload_n 1, 1) := by decide +kernel
theorem dL_law_1289 : decode cL_law 1289 = .ok (.invokevirtual 149, 3) := by decide +kernel
theorem dL_law_1292 : decode cL_law 1292 = .ok (.aload_n 2, 1) := by decide +kernel
theorem dL_law_1293 : decode cL_law 1293 = .ok (.invokevirtual 152, 3) := by decide +kernel
theorem dL_law_1296 : decode cL_law 1296 = .ok (.if_icmp .eq 199, 3) := by decide +kernel
theorem dL_law_1299 : decode cL_law 1299 = .ok (.iconst 0, 1) := by decide +kernel
theorem dL_law_1300 : decode cL_law 1300 = .ok (.ireturn, 1) := by decide +kernel
theorem dL_law_1301 : decode cL_law 1301 = .ok (.aload_n 1, 1) := by decide +kernel
theorem dL_law_1302 : decode cL_law 1302 = .ok (.aload_n 0, 1) := by decide +kernel
theorem dL_law_1303 : decode cL_law 1303 = .ok (.iload 4, 2) := by decide +kernel
theorem dL_law_1305 : decode cL_law 1305 = .ok (.iconst 1, 1) := by decide +kernel
theorem dL_law_1306 : decode cL_law 1306 = .ok (.iadd, 1) := by decide +kernel
theorem dL_law_1307 : decode cL_law 1307 = .ok (.iaload, 1) := by decide +kernel
theorem dL_law_1308 : decode cL_law 1308 = .ok (.aload_n 3, 1) := by decide +kernel
theorem dL_law_1309 : decode cL_law 1309 = .ok (.invokestatic 153, 3) := by decide +kernel
theorem dL_law_1312 : decode cL_law 1312 = .ok (.istore 5, 2) := by decide +kernel
theorem dL_law_1314 : decode cL_law 1314 = .ok (.aload_n 2, 1) := by decide +kernel
theorem dL_law_1315 : decode cL_law 1315 = .ok (.aload_n 0, 1) := by decide +kernel
theorem dL_law_1316 : decode cL_law 1316 = .ok (.iload 4, 2) := by decide +kernel
theorem dL_law_1318 : decode cL_law 1318 = .ok (.iconst 1, 1) := by decide +kernel
theorem dL_law_1319 : decode cL_law 1319 = .ok (.iadd, 1) := by decide +kernel
theorem dL_law_1320 : decode cL_law 1320 = .ok (.iaload, 1) := by decide +kernel
theorem dL_law_1321 : decode cL_law 1321 = .ok (.invokevirtual 155, 3) := by decide +kernel
theorem dL_law_1324 : decode cL_law 1324 = .ok (.istore 6, 2) := by decide +kernel
theorem dL_law_1326 : decode cL_law 1326 = .ok (.aload_n 2, 1) := by decide +kernel
theorem dL_law_1327 : decode cL_law 1327 = .ok (.invokevirtual 93, 3) := by decide +kernel
theorem dL_law_1330 : decode cL_law 1330 = .ok (.iload 5, 2) := by decide +kernel
theorem dL_law_1332 : decode cL_law 1332 = .ok (.if_icmp .eq 5, 3) := by decide +kernel
theorem dL_law_1335 : decode cL_law 1335 = .ok (.iconst 0, 1) := by decide +kernel
theorem dL_law_1336 : decode cL_law 1336 = .ok (.ireturn, 1) := by decide +kernel
theorem dL_law_1337 : decode cL_law 1337 = .ok (.iload 5, 2) := by decide +kernel
theorem dL_law_1339 : decode cL_law 1339 = .ok (.ifCond .ne 15, 3) := by decide +kernel
theorem dL_law_1342 : decode cL_law 1342 = .ok (.aload_n 3, 1) := by decide +kernel
theorem dL_law_1343 : decode cL_law 1343 = .ok (.iconst 0, 1) := by decide +kernel
theorem dL_law_1344 : decode cL_law 1344 = .ok (.laload, 1) := by decide +kernel
theorem dL_law_1345 : decode cL_law 1345 = .ok (.iload 6, 2) := by decide +kernel
theorem dL_law_1347 : decode cL_law 1347 = .ok (.i2l, 1) := by decide +kernel
theorem dL_law_1348 : decode cL_law 1348 = .ok (.lcmp, 1) := by decide +kernel
theorem dL_law_1349 : decode cL_law 1349 = .ok (.ifCond .eq 5, 3) := by decide +kernel
theorem dL_law_1352 : decode cL_law 1352 = .ok (.iconst 0, 1) := by decide +kernel
theorem dL_law_1353 : decode cL_law 1353 = .ok (.ireturn, 1) := by decide +kernel
theorem dL_law_1354 : decode cL_law 1354 = .ok (.goto 141, 3) := by decide +kernel
theorem dL_law_1357 : decode cL_law 1357 = .ok (.aload_n 1, 1) := by decide +kernel
theorem dL_law_1358 : decode cL_law 1358 = .ok (.invokevirtual 156, 3) := by decide +kernel
theorem dL_law_1361 : decode cL_law 1361 = .ok (.aload_n 2, 1) := by decide +kernel
theorem dL_law_1362 : decode cL_law 1362 = .ok (.invokevirtual 159, 3) := by decide +kernel
theorem dL_law_1365 : decode cL_law 1365 = .ok (.if_icmp .eq 130, 3) := by decide +kernel
theorem dL_law_1368 : decode cL_law 1368 = .ok (.iconst 0, 1) := by decide +kernel
theorem dL_law_1369 : decode cL_law 1369 = .ok (.ireturn, 1) := by decide +kernel
theorem dL_law_1370 : decode cL_law 1370 = .ok (.aload_n 1, 1) := by decide +kernel
theorem dL_law_1371 : decode cL_law 1371 = .ok (.invokevirtual 160, 3) := by decide +kernel
theorem dL_law_1374 : decode cL_law 1374 = .ok (.aload_n 2, 1) := by decide +kernel
theorem dL_law_1375 : decode cL_law 1375 = .ok (.invokevirtual 163, 3) := by decide +kernel
theorem dL_law_1378 : decode cL_law 1378 = .ok (.if_icmp .eq 117, 3) := by decide +kernel
theorem dL_law_1381 : decode cL_law 1381 = .ok (.iconst 0, 1) := by decide +kernel
theorem dL_law_1382 : decode cL_law 1382 = .ok (.ireturn, 1) := by decide +kernel
theorem dL_law_1383 : decode cL_law 1383 = .ok (.aload_n 1, 1) := by decide +kernel
theorem dL_law_1384 : decode cL_law 1384 = .ok (.aload_n 0, 1) := by decide +kernel
theorem dL_law_1385 : decode cL_law 1385 = .ok (.iload 4, 2) := by decide +kernel
theorem dL_law_1387 : decode cL_law 1387 = .ok (.iconst 1, 1) := by decide +kernel
theorem dL_law_1388 : decode cL_law 1388 = .ok (.iadd, 1) := by decide +kernel
theorem dL_law_1389 : decode cL_law 1389 = .ok (.iaload, 1) := by decide +kernel
theorem dL_law_1390 : decode cL_law 1390 = .ok (.aload_n 3, 1) := by decide +kernel
theorem dL_law_1391 : decode cL_law 1391 = .ok (.invokestatic 164, 3) := by decide +kernel
theorem dL_law_1394 : decode cL_law 1394 = .ok (.istore 5, 2) := by decide +kernel
theorem dL_law_1396 : decode cL_law 1396 = .ok (.aload_n 2, 1) := by decide +kernel
theorem dL_law_1397 : decode cL_law 1397 = .ok (.aload_n 0, 1) := by decide +kernel
theorem dL_law_1398 : decode cL_law 1398 = .ok (.iload 4, 2) := by decide +kernel
theorem dL_law_1400 : decode cL_law 1400 = .ok (.iconst 1, 1) := by decide +kernel
theorem dL_law_1401 : decode cL_law 1401 = .ok (.iadd, 1) := by decide +kernel
theorem dL_law_1402 : decode cL_law 1402 = .ok (.iaload, 1) := by decide +kernel
theorem dL_law_1403 : decode cL_law 1403 = .ok (.invokevirtual 166, 3) := by decide +kernel
theorem dL_law_1406 : decode cL_law 1406 = .ok (.istore 6, 2) := by decide +kernel
theorem dL_law_1408 : decode cL_law 1408 = .ok (.aload_n 2, 1) := by decide +kernel
theorem dL_law_1409 : decode cL_law 1409 = .ok (.invokevirtual 93, 3) := by decide +kernel
theorem dL_law_1412 : decode cL_law 1412 = .ok (.iload 5, 2) := by decide +kernel
theorem dL_law_1414 : decode cL_law 1414 = .ok (.if_icmp .eq 5, 3) := by decide +kernel
theorem dL_law_1417 : decode cL_law 1417 = .ok (.iconst 0, 1) := by decide +kernel
theorem dL_law_1418 : decode cL_law 1418 = .ok (.ireturn, 1) := by decide +kernel
theorem dL_law_1419 : decode cL_law 1419 = .ok (.iload 5, 2) := by decide +kernel
theorem dL_law_1421 : decode cL_law 1421 = .ok (.ifCond .ne 15, 3) := by decide +kernel
theorem dL_law_1424 : decode cL_law 1424 = .ok (.aload_n 3, 1) := by decide +kernel
theorem dL_law_1425 : decode cL_law 1425 = .ok (.iconst 0, 1) := by decide +kernel
theorem dL_law_1426 : decode cL_law 1426 = .ok (.laload, 1) := by decide +kernel
theorem dL_law_1427 : decode cL_law 1427 = .ok (.iload 6, 2) := by decide +kernel
theorem dL_law_1429 : decode cL_law 1429 = .ok (.i2l, 1) := by decide +kernel
theorem dL_law_1430 : decode cL_law 1430 = .ok (.lcmp, 1) := by decide +kernel
theorem dL_law_1431 : decode cL_law 1431 = .ok (.ifCond .eq 5, 3) := by decide +kernel
theorem dL_law_1434 : decode cL_law 1434 = .ok (.iconst 0, 1) := by decide +kernel
theorem dL_law_1435 : decode cL_law 1435 = .ok (.ireturn, 1) := by decide +kernel
theorem dL_law_1436 : decode cL_law 1436 = .ok (.goto 59, 3) := by decide +kernel
theorem dL_law_1439 : decode cL_law 1439 = .ok (.aload_n 1, 1) := by decide +kernel
theorem dL_law_1440 : decode cL_law 1440 = .ok (.aload_n 0, 1) := by decide +kernel
theorem dL_law_1441 : decode cL_law 1441 = .ok (.iload 4, 2) := by decide +kernel
theorem dL_law_1443 : decode cL_law 1443 = .ok (.iconst 1, 1) := by decide +kernel
theorem dL_law_1444 : decode cL_law 1444 = .ok (.iadd, 1) := by decide +kernel
theorem dL_law_1445 : decode cL_law 1445 = .ok (.iaload, 1) := by decide +kernel
theorem dL_law_1446 : decode cL_law 1446 = .ok (.aload_n 3, 1) := by decide +kernel
theorem dL_law_1447 : decode cL_law 1447 = .ok (.invokestatic 167, 3) := by decide +kernel
theorem dL_law_1450 : decode cL_law 1450 = .ok (.istore 5, 2) := by decide +kernel
theorem dL_law_1452 : decode cL_law 1452 = .ok (.aload_n 2, 1) := by decide +kernel
theorem dL_law_1453 : decode cL_law 1453 = .ok (.aload_n 0, 1) := by decide +kernel
theorem dL_law_1454 : decode cL_law 1454 = .ok (.iload 4, 2) := by decide +kernel
theorem dL_law_1456 : decode cL_law 1456 = .ok (.iconst 1, 1) := by decide +kernel
theorem dL_law_1457 : decode cL_law 1457 = .ok (.iadd, 1) := by decide +kernel
theorem dL_law_1458 : decode cL_law 1458 = .ok (.iaload, 1) := by decide +kernel
theorem dL_law_1459 : decode cL_law 1459 = .ok (.invokevirtual 169, 3) := by decide +kernel
theorem dL_law_1462 : decode cL_law 1462 = .ok (.istore 6, 2) := by decide +kernel
theorem dL_law_1464 : decode cL_law 1464 = .ok (.aload_n 2, 1) := by decide +kernel
theorem dL_law_1465 : decode cL_law 1465 = .ok (.invokevirtual 93, 3) := by decide +kernel
theorem dL_law_1468 : decode cL_law 1468 = .ok (.iload 5, 2) := by decide +kernel
theorem dL_law_1470 : decode cL_law 1470 = .ok (.if_icmp .eq 5, 3) := by decide +kernel
theorem dL_law_1473 : decode cL_law 1473 = .ok (.iconst 0, 1) := by decide +kernel
theorem dL_law_1474 : decode cL_law 1474 = .ok (.ireturn, 1) := by decide +kernel
theorem dL_law_1475 : decode cL_law 1475 = .ok (.iload 5, 2) := by decide +kernel
theorem dL_law_1477 : decode cL_law 1477 = .ok (.ifCond .ne 15, 3) := by decide +kernel
theorem dL_law_1480 : decode cL_law 1480 = .ok (.aload_n 3, 1) := by decide +kernel
theorem dL_law_1481 : decode cL_law 1481 = .ok (.iconst 0, 1) := by decide +kernel
theorem dL_law_1482 : decode cL_law 1482 = .ok (.laload, 1) := by decide +kernel
theorem dL_law_1483 : decode cL_law 1483 = .ok (.iload 6, 2) := by decide +kernel
theorem dL_law_1485 : decode cL_law 1485 = .ok (.i2l, 1) := by decide +kernel
theorem dL_law_1486 : decode cL_law 1486 = .ok (.lcmp, 1) := by decide +kernel
theorem dL_law_1487 : decode cL_law 1487 = .ok (.ifCond .eq 5, 3) := by decide +kernel
theorem dL_law_1490 : decode cL_law 1490 = .ok (.iconst 0, 1) := by decide +kernel
theorem dL_law_1491 : decode cL_law 1491 = .ok (.ireturn, 1) := by decide +kernel
theorem dL_law_1492 : decode cL_law 1492 = .ok (.goto 3, 3) := by decide +kernel
theorem dL_law_1495 : decode cL_law 1495 = .ok (.iinc 4 4, 3) := by decide +kernel
theorem dL_law_1498 : decode cL_law 1498 = .ok (.goto (-1475), 3) := by decide +kernel
theorem dL_law_1501 : decode cL_law 1501 = .ok (.iconst 1, 1) := by decide +kernel
theorem dL_law_1502 : decode cL_law 1502 = .ok (.ireturn, 1) := by decide +kernel
end
section
set_option maxRecDepth 100000 in
theorem kw0 : Jvm.Cond.initialized "AccessGateLaw" ∈ lw_tbl := List.mem_of_getElem? (i := 45) rfl
set_option maxRecDepth 100000 in
theorem kw1 : Jvm.Cond.initialized "AccessGate" ∈ lw_tbl := List.mem_of_getElem? (i := 46) rfl
set_option maxRecDepth 100000 in
theorem kw2 : Jvm.Cond.initialized "java/util/AbstractCollection" ∈ lw_tbl := List.mem_of_getElem? (i := 47) rfl
set_option maxRecDepth 100000 in
theorem kw3 : Jvm.Cond.initialized "java/util/AbstractList" ∈ lw_tbl := List.mem_of_getElem? (i := 48) rfl
set_option maxRecDepth 100000 in
theorem kw4 : Jvm.Cond.initialized "java/util/ArrayList" ∈ lw_tbl := List.mem_of_getElem? (i := 49) rfl
set_option maxRecDepth 100000 in
theorem kw5 : Jvm.Cond.initialized "AccessGate$StepRecord" ∈ lw_tbl := List.mem_of_getElem? (i := 50) rfl
set_option maxRecDepth 100000 in
theorem kw6 : Jvm.Cond.initialized "AccessGateModel" ∈ lw_tbl := List.mem_of_getElem? (i := 51) rfl
set_option maxRecDepth 100000 in
theorem kw7 : Jvm.Cond.initialized "java/lang/Throwable" ∈ lw_tbl := List.mem_of_getElem? (i := 52) rfl
set_option maxRecDepth 100000 in
theorem kw8 : Jvm.Cond.initialized "java/lang/Exception" ∈ lw_tbl := List.mem_of_getElem? (i := 53) rfl
set_option maxRecDepth 100000 in
theorem kw9 : Jvm.Cond.initialized "java/lang/RuntimeException" ∈ lw_tbl := List.mem_of_getElem? (i := 54) rfl
set_option maxRecDepth 100000 in
theorem kw10 : Jvm.Cond.initialized "java/lang/IllegalArgumentException" ∈ lw_tbl := List.mem_of_getElem? (i := 55) rfl
set_option maxRecDepth 100000 in
theorem kw11 : Jvm.Cond.initialized "java/lang/IllegalStateException" ∈ lw_tbl := List.mem_of_getElem? (i := 56) rfl
set_option maxRecDepth 100000 in
theorem kw12 : Jvm.Cond.initialized "AccessGate$Person" ∈ lw_tbl := List.mem_of_getElem? (i := 57) rfl
set_option maxRecDepth 100000 in
theorem kw13 : Jvm.Cond.initialized "jdk/internal/util/ArraysSupport" ∈ lw_tbl := List.mem_of_getElem? (i := 58) rfl
set_option maxRecDepth 100000 in
theorem kw14 : Jvm.Cond.initialized "java/lang/Math" ∈ lw_tbl := List.mem_of_getElem? (i := 59) rfl
set_option maxRecDepth 100000 in
theorem kw15 : Jvm.Cond.initialized "java/util/Arrays" ∈ lw_tbl := List.mem_of_getElem? (i := 60) rfl
set_option maxRecDepth 100000 in
theorem kw16 : Jvm.Cond.initialized "java/lang/System" ∈ lw_tbl := List.mem_of_getElem? (i := 61) rfl
set_option maxRecDepth 100000 in
theorem kw17 : Jvm.Cond.initialized "AccessGate$Machine" ∈ lw_tbl := List.mem_of_getElem? (i := 62) rfl
set_option maxRecDepth 100000 in
theorem kw18 : Jvm.Cond.initialized "java/lang/IndexOutOfBoundsException" ∈ lw_tbl := List.mem_of_getElem? (i := 63) rfl
set_option maxRecDepth 100000 in
theorem kw19 : Jvm.Cond.initialized "java/util/Objects" ∈ lw_tbl := List.mem_of_getElem? (i := 64) rfl
set_option maxRecDepth 100000 in
theorem kw20 : Jvm.Cond.initialized "jdk/internal/util/Preconditions" ∈ lw_tbl := List.mem_of_getElem? (i := 65) rfl
set_option maxRecDepth 100000 in
theorem kw21 : Jvm.Cond.initialized "AccessGate$Ask" ∈ lw_tbl := List.mem_of_getElem? (i := 66) rfl
set_option maxRecDepth 100000 in
theorem kw22 : Jvm.Cond.initialized "AccessGate$Right" ∈ lw_tbl := List.mem_of_getElem? (i := 67) rfl
set_option maxRecDepth 100000 in
theorem kw23 : Jvm.Cond.initialized "AccessGate$Entry" ∈ lw_tbl := List.mem_of_getElem? (i := 68) rfl
set_option maxRecDepth 100000 in
theorem kw24 : Jvm.Cond.initialized "AccessGate$Session" ∈ lw_tbl := List.mem_of_getElem? (i := 69) rfl
set_option maxRecDepth 100000 in
theorem kw25 : Jvm.Cond.classLink "AccessGateLaw" (8 : Nat) "AccessGate" ∈ lw_tbl := List.mem_of_getElem? (i := 70) rfl
set_option maxRecDepth 100000 in
theorem kw26 : Jvm.Cond.instantiable "AccessGate" (9 : Nat) ∈ lw_tbl := List.mem_of_getElem? (i := 71) rfl
set_option maxRecDepth 100000 in
theorem kw27 : Jvm.Cond.methodLink "AccessGateLaw" (83 : Nat) ({ cls := "AccessGate", name := "<init>", desc := "()V" } : Jvm.MethodName) ∈ lw_tbl := List.mem_of_getElem? (i := 72) rfl
set_option maxRecDepth 100000 in
theorem kw28 : Jvm.Cond.instanceMethod ({ cls := "AccessGate", name := "<init>", desc := "()V" } : Jvm.MethodName) ∈ lw_tbl := List.mem_of_getElem? (i := 73) rfl
set_option maxRecDepth 100000 in
theorem kw29 : Jvm.Cond.code ({ cls := "AccessGate", name := "<init>", desc := "()V" } : Jvm.MethodName) prog_1_method_1_code (1 : Nat) (Option.none : Option Jvm.ClassFile.FieldType) ∈ lw_tbl := List.mem_of_getElem? (i := 74) rfl
set_option maxRecDepth 100000 in
theorem kw30 : Jvm.Cond.methodLink "AccessGate" (3 : Nat) ({ cls := "java/lang/Object", name := "<init>", desc := "()V" } : Jvm.MethodName) ∈ lw_tbl := List.mem_of_getElem? (i := 75) rfl
set_option maxRecDepth 100000 in
theorem kw31 : Jvm.Cond.instanceMethod ({ cls := "java/lang/Object", name := "<init>", desc := "()V" } : Jvm.MethodName) ∈ lw_tbl := List.mem_of_getElem? (i := 76) rfl
set_option maxRecDepth 100000 in
theorem kw32 : Jvm.Cond.code ({ cls := "java/lang/Object", name := "<init>", desc := "()V" } : Jvm.MethodName) object_method_1_code (1 : Nat) (Option.none : Option Jvm.ClassFile.FieldType) ∈ lw_tbl := List.mem_of_getElem? (i := 77) rfl
set_option maxRecDepth 100000 in
theorem kw33 : Jvm.Cond.classLink "AccessGate" (9 : Nat) "java/util/ArrayList" ∈ lw_tbl := List.mem_of_getElem? (i := 78) rfl
set_option maxRecDepth 100000 in
theorem kw34 : Jvm.Cond.instantiable "java/util/ArrayList" (3 : Nat) ∈ lw_tbl := List.mem_of_getElem? (i := 79) rfl
set_option maxRecDepth 100000 in
theorem kw35 : Jvm.Cond.methodLink "AccessGate" (11 : Nat) ({ cls := "java/util/ArrayList", name := "<init>", desc := "()V" } : Jvm.MethodName) ∈ lw_tbl := List.mem_of_getElem? (i := 80) rfl
set_option maxRecDepth 100000 in
theorem kw36 : Jvm.Cond.instanceMethod ({ cls := "java/util/ArrayList", name := "<init>", desc := "()V" } : Jvm.MethodName) ∈ lw_tbl := List.mem_of_getElem? (i := 81) rfl
set_option maxRecDepth 100000 in
theorem kw37 : Jvm.Cond.code ({ cls := "java/util/ArrayList", name := "<init>", desc := "()V" } : Jvm.MethodName) prog_25_method_2_code (1 : Nat) (Option.none : Option Jvm.ClassFile.FieldType) ∈ lw_tbl := List.mem_of_getElem? (i := 82) rfl
set_option maxRecDepth 100000 in
theorem kw38 : Jvm.Cond.methodLink "java/util/ArrayList" (1 : Nat) ({ cls := "java/util/AbstractList", name := "<init>", desc := "()V" } : Jvm.MethodName) ∈ lw_tbl := List.mem_of_getElem? (i := 83) rfl
set_option maxRecDepth 100000 in
theorem kw39 : Jvm.Cond.instanceMethod ({ cls := "java/util/AbstractList", name := "<init>", desc := "()V" } : Jvm.MethodName) ∈ lw_tbl := List.mem_of_getElem? (i := 84) rfl
set_option maxRecDepth 100000 in
theorem kw40 : Jvm.Cond.code ({ cls := "java/util/AbstractList", name := "<init>", desc := "()V" } : Jvm.MethodName) prog_24_method_1_code (1 : Nat) (Option.none : Option Jvm.ClassFile.FieldType) ∈ lw_tbl := List.mem_of_getElem? (i := 85) rfl
set_option maxRecDepth 100000 in
theorem kw41 : Jvm.Cond.methodLink "java/util/AbstractList" (1 : Nat) ({ cls := "java/util/AbstractCollection", name := "<init>", desc := "()V" } : Jvm.MethodName) ∈ lw_tbl := List.mem_of_getElem? (i := 86) rfl
set_option maxRecDepth 100000 in
theorem kw42 : Jvm.Cond.instanceMethod ({ cls := "java/util/AbstractCollection", name := "<init>", desc := "()V" } : Jvm.MethodName) ∈ lw_tbl := List.mem_of_getElem? (i := 87) rfl
set_option maxRecDepth 100000 in
theorem kw43 : Jvm.Cond.code ({ cls := "java/util/AbstractCollection", name := "<init>", desc := "()V" } : Jvm.MethodName) prog_23_method_1_code (1 : Nat) (Option.none : Option Jvm.ClassFile.FieldType) ∈ lw_tbl := List.mem_of_getElem? (i := 88) rfl
set_option maxRecDepth 100000 in
theorem kw44 : Jvm.Cond.methodLink "java/util/AbstractCollection" (1 : Nat) ({ cls := "java/lang/Object", name := "<init>", desc := "()V" } : Jvm.MethodName) ∈ lw_tbl := List.mem_of_getElem? (i := 89) rfl
set_option maxRecDepth 100000 in
theorem kw45 : Jvm.Cond.fieldLink "java/util/ArrayList" (39 : Nat) "java/util/ArrayList" "DEFAULTCAPACITY_EMPTY_ELEMENTDATA" "[Ljava/lang/Object;" ∈ lw_tbl := List.mem_of_getElem? (i := 90) rfl
set_option maxRecDepth 100000 in
theorem kw47 : Jvm.Cond.fieldLink "java/util/ArrayList" (9 : Nat) "java/util/ArrayList" "elementData" "[Ljava/lang/Object;" ∈ lw_tbl := List.mem_of_getElem? (i := 92) rfl
set_option maxRecDepth 100000 in
theorem kw48 : Jvm.Cond.fieldLink "java/util/ArrayList" (48 : Nat) "java/util/ArrayList" "size" "I" ∈ lw_tbl := List.mem_of_getElem? (i := 93) rfl
set_option maxRecDepth 100000 in
theorem kw49 : Jvm.Cond.fieldLink "java/util/AbstractList" (7 : Nat) "java/util/AbstractList" "modCount" "I" ∈ lw_tbl := List.mem_of_getElem? (i := 94) rfl
set_option maxRecDepth 100000 in
theorem kw50 : Jvm.Cond.fieldLink "java/util/ArrayList" (63 : Nat) "java/util/ArrayList" "modCount" "I" ∈ lw_tbl := List.mem_of_getElem? (i := 95) rfl
set_option maxRecDepth 100000 in
theorem kw51 : Jvm.Cond.sameField "java/util/ArrayList" "java/util/AbstractList" "modCount" "I" ∈ lw_tbl := List.mem_of_getElem? (i := 96) rfl
set_option maxRecDepth 100000 in
theorem kw59 : Jvm.Cond.classLink "AccessGate" (31 : Nat) "AccessGate$StepRecord" ∈ lw_tbl := List.mem_of_getElem? (i := 104) rfl
set_option maxRecDepth 100000 in
theorem kw60 : Jvm.Cond.instantiable "AccessGate$StepRecord" (4 : Nat) ∈ lw_tbl := List.mem_of_getElem? (i := 105) rfl
set_option maxRecDepth 100000 in
theorem kw61 : Jvm.Cond.methodLinkNest "AccessGate" (33 : Nat) ({ cls := "AccessGate$StepRecord", name := "<init>", desc := "()V" } : Jvm.MethodName) "AccessGate" ∈ lw_tbl := List.mem_of_getElem? (i := 106) rfl
set_option maxRecDepth 100000 in
theorem kw62 : Jvm.Cond.instanceMethod ({ cls := "AccessGate$StepRecord", name := "<init>", desc := "()V" } : Jvm.MethodName) ∈ lw_tbl := List.mem_of_getElem? (i := 107) rfl
set_option maxRecDepth 100000 in
theorem kw63 : Jvm.Cond.code ({ cls := "AccessGate$StepRecord", name := "<init>", desc := "()V" } : Jvm.MethodName) prog_8_method_1_code (1 : Nat) (Option.none : Option Jvm.ClassFile.FieldType) ∈ lw_tbl := List.mem_of_getElem? (i := 108) rfl
set_option maxRecDepth 100000 in
theorem kw64 : Jvm.Cond.methodLink "AccessGate$StepRecord" (3 : Nat) ({ cls := "java/lang/Object", name := "<init>", desc := "()V" } : Jvm.MethodName) ∈ lw_tbl := List.mem_of_getElem? (i := 109) rfl
set_option maxRecDepth 100000 in
theorem kw65 : Jvm.Cond.fieldLink "AccessGate$StepRecord" (9 : Nat) "AccessGate$StepRecord" "kinds" "[I" ∈ lw_tbl := List.mem_of_getElem? (i := 110) rfl
set_option maxRecDepth 100000 in
theorem kw66 : Jvm.Cond.fieldLinkNest "AccessGate" (248 : Nat) "AccessGate$StepRecord" "kinds" "[I" "AccessGate" ∈ lw_tbl := List.mem_of_getElem? (i := 111) rfl
set_option maxRecDepth 100000 in
theorem kw67 : Jvm.Cond.fieldLink "AccessGate$StepRecord" (15 : Nat) "AccessGate$StepRecord" "seals" "[I" ∈ lw_tbl := List.mem_of_getElem? (i := 112) rfl
set_option maxRecDepth 100000 in
theorem kw68 : Jvm.Cond.fieldLinkNest "AccessGate" (252 : Nat) "AccessGate$StepRecord" "seals" "[I" "AccessGate" ∈ lw_tbl := List.mem_of_getElem? (i := 113) rfl
set_option maxRecDepth 100000 in
theorem kw69 : Jvm.Cond.fieldLink "AccessGate$StepRecord" (18 : Nat) "AccessGate$StepRecord" "count" "I" ∈ lw_tbl := List.mem_of_getElem? (i := 114) rfl
set_option maxRecDepth 100000 in
theorem kw70 : Jvm.Cond.fieldLinkNest "AccessGate" (242 : Nat) "AccessGate$StepRecord" "count" "I" "AccessGate" ∈ lw_tbl := List.mem_of_getElem? (i := 115) rfl
set_option maxRecDepth 100000 in
theorem kw71 : Jvm.Cond.fieldLink "AccessGate$StepRecord" (22 : Nat) "AccessGate$StepRecord" "lastSeal" "I" ∈ lw_tbl := List.mem_of_getElem? (i := 116) rfl
set_option maxRecDepth 100000 in
theorem kw81 : Jvm.Cond.arrayClass Jvm.ClassFile.FieldType.int ∈ lw_tbl := List.mem_of_getElem? (i := 126) rfl
set_option maxRecDepth 100000 in
theorem kw82 : Jvm.Cond.fieldLink "AccessGate" (12 : Nat) "AccessGate" "people" "Ljava/util/ArrayList;" ∈ lw_tbl := List.mem_of_getElem? (i := 127) rfl
set_option maxRecDepth 100000 in
theorem kw83 : Jvm.Cond.fieldLink "AccessGate" (16 : Nat) "AccessGate" "machines" "Ljava/util/ArrayList;" ∈ lw_tbl := List.mem_of_getElem? (i := 128) rfl
set_option maxRecDepth 100000 in
theorem kw84 : Jvm.Cond.fieldLink "AccessGate" (19 : Nat) "AccessGate" "asks" "Ljava/util/ArrayList;" ∈ lw_tbl := List.mem_of_getElem? (i := 129) rfl
set_option maxRecDepth 100000 in
theorem kw85 : Jvm.Cond.fieldLink "AccessGate" (22 : Nat) "AccessGate" "entries" "Ljava/util/ArrayList;" ∈ lw_tbl := List.mem_of_getElem? (i := 130) rfl
set_option maxRecDepth 100000 in
theorem kw86 : Jvm.Cond.fieldLink "AccessGate" (25 : Nat) "AccessGate" "rights" "Ljava/util/ArrayList;" ∈ lw_tbl := List.mem_of_getElem? (i := 131) rfl
set_option maxRecDepth 100000 in
theorem kw87 : Jvm.Cond.fieldLink "AccessGate" (28 : Nat) "AccessGate" "sessions" "Ljava/util/ArrayList;" ∈ lw_tbl := List.mem_of_getElem? (i := 132) rfl
set_option maxRecDepth 100000 in
theorem kw88 : Jvm.Cond.fieldLink "AccessGate" (34 : Nat) "AccessGate" "record" "LAccessGate$StepRecord;" ∈ lw_tbl := List.mem_of_getElem? (i := 133) rfl
set_option maxRecDepth 100000 in
theorem kw89 : Jvm.Cond.fieldLink "AccessGate" (38 : Nat) "AccessGate" "openCount" "I" ∈ lw_tbl := List.mem_of_getElem? (i := 134) rfl
set_option maxRecDepth 100000 in
theorem kw90 : Jvm.Cond.fieldLink "AccessGate" (42 : Nat) "AccessGate" "now" "I" ∈ lw_tbl := List.mem_of_getElem? (i := 135) rfl
set_option maxRecDepth 100000 in
theorem kw110 : Jvm.Cond.methodLink "AccessGateLaw" (149 : Nat) ({ cls := "AccessGate", name := "openSessions", desc := "()I" } : Jvm.MethodName) ∈ lw_tbl := List.mem_of_getElem? (i := 155) rfl
set_option maxRecDepth 100000 in
theorem kw111 : Jvm.Cond.instanceMethod ({ cls := "AccessGate", name := "openSessions", desc := "()I" } : Jvm.MethodName) ∈ lw_tbl := List.mem_of_getElem? (i := 156) rfl
set_option maxRecDepth 100000 in
theorem kw112 : Jvm.Cond.selects "AccessGate" ({ cls := "AccessGate", name := "openSessions", desc := "()I" } : Jvm.MethodName) ({ cls := "AccessGate", name := "openSessions", desc := "()I" } : Jvm.MethodName) ∈ lw_tbl := List.mem_of_getElem? (i := 157) rfl
set_option maxRecDepth 100000 in
theorem kw113 : Jvm.Cond.code ({ cls := "AccessGate", name := "openSessions", desc := "()I" } : Jvm.MethodName) prog_1_method_19_code (1 : Nat) (Option.some Jvm.ClassFile.FieldType.int) ∈ lw_tbl := List.mem_of_getElem? (i := 158) rfl
set_option maxRecDepth 100000 in
theorem kw114 : Jvm.Cond.methodLink "AccessGateLaw" (156 : Nat) ({ cls := "AccessGate", name := "clock", desc := "()I" } : Jvm.MethodName) ∈ lw_tbl := List.mem_of_getElem? (i := 159) rfl
set_option maxRecDepth 100000 in
theorem kw115 : Jvm.Cond.instanceMethod ({ cls := "AccessGate", name := "clock", desc := "()I" } : Jvm.MethodName) ∈ lw_tbl := List.mem_of_getElem? (i := 160) rfl
set_option maxRecDepth 100000 in
theorem kw116 : Jvm.Cond.selects "AccessGate" ({ cls := "AccessGate", name := "clock", desc := "()I" } : Jvm.MethodName) ({ cls := "AccessGate", name := "clock", desc := "()I" } : Jvm.MethodName) ∈ lw_tbl := List.mem_of_getElem? (i := 161) rfl
set_option maxRecDepth 100000 in
theorem kw117 : Jvm.Cond.code ({ cls := "AccessGate", name := "clock", desc := "()I" } : Jvm.MethodName) prog_1_method_21_code (1 : Nat) (Option.some Jvm.ClassFile.FieldType.int) ∈ lw_tbl := List.mem_of_getElem? (i := 162) rfl
set_option maxRecDepth 100000 in
theorem kw118 : Jvm.Cond.methodLink "AccessGateLaw" (160 : Nat) ({ cls := "AccessGate", name := "steps", desc := "()I" } : Jvm.MethodName) ∈ lw_tbl := List.mem_of_getElem? (i := 163) rfl
set_option maxRecDepth 100000 in
theorem kw119 : Jvm.Cond.instanceMethod ({ cls := "AccessGate", name := "steps", desc := "()I" } : Jvm.MethodName) ∈ lw_tbl := List.mem_of_getElem? (i := 164) rfl
set_option maxRecDepth 100000 in
theorem kw120 : Jvm.Cond.selects "AccessGate" ({ cls := "AccessGate", name := "steps", desc := "()I" } : Jvm.MethodName) ({ cls := "AccessGate", name := "steps", desc := "()I" } : Jvm.MethodName) ∈ lw_tbl := List.mem_of_getElem? (i := 165) rfl
set_option maxRecDepth 100000 in
theorem kw121 : Jvm.Cond.code ({ cls := "AccessGate", name := "steps", desc := "()I" } : Jvm.MethodName) prog_1_method_22_code (1 : Nat) (Option.some Jvm.ClassFile.FieldType.int) ∈ lw_tbl := List.mem_of_getElem? (i := 166) rfl
set_option maxRecDepth 100000 in
theorem kw122 : Jvm.Cond.methodLink "AccessGateLaw" (87 : Nat) ({ cls := "AccessGateLaw", name := "addPerson", desc := "(LAccessGate;I[J)I" } : Jvm.MethodName) ∈ lw_tbl := List.mem_of_getElem? (i := 167) rfl
set_option maxRecDepth 100000 in
theorem kw123 : Jvm.Cond.static ({ cls := "AccessGateLaw", name := "addPerson", desc := "(LAccessGate;I[J)I" } : Jvm.MethodName) ∈ lw_tbl := List.mem_of_getElem? (i := 168) rfl
set_option maxRecDepth 100000 in
theorem kw124 : Jvm.Cond.codeWith ({ cls := "AccessGateLaw", name := "addPerson", desc := "(LAccessGate;I[J)I" } : Jvm.MethodName) method_3_code (4 : Nat) (Option.some Jvm.ClassFile.FieldType.int) [((0 : Nat), (9 : Nat), (12 : Nat), (13 : Nat)), ((0 : Nat), (9 : Nat), (15 : Nat), (15 : Nat))] ∈ lw_tbl := List.mem_of_getElem? (i := 169) rfl
set_option maxRecDepth 100000 in
theorem kw125 : Jvm.Cond.classLink "AccessGateLaw" (13 : Nat) "java/lang/IllegalArgumentException" ∈ lw_tbl := List.mem_of_getElem? (i := 170) rfl
set_option maxRecDepth 100000 in
theorem kw126 : Jvm.Cond.classLink "AccessGateLaw" (15 : Nat) "java/lang/IllegalStateException" ∈ lw_tbl := List.mem_of_getElem? (i := 171) rfl
set_option maxRecDepth 100000 in
theorem kw127 : Jvm.Cond.methodLink "AccessGateLaw" (7 : Nat) ({ cls := "AccessGate", name := "addPerson", desc := "(I)I" } : Jvm.MethodName) ∈ lw_tbl := List.mem_of_getElem? (i := 172) rfl
set_option maxRecDepth 100000 in
theorem kw128 : Jvm.Cond.instanceMethod ({ cls := "AccessGate", name := "addPerson", desc := "(I)I" } : Jvm.MethodName) ∈ lw_tbl := List.mem_of_getElem? (i := 173) rfl
set_option maxRecDepth 100000 in
theorem kw129 : Jvm.Cond.selects "AccessGate" ({ cls := "AccessGate", name := "addPerson", desc := "(I)I" } : Jvm.MethodName) ({ cls := "AccessGate", name := "addPerson", desc := "(I)I" } : Jvm.MethodName) ∈ lw_tbl := List.mem_of_getElem? (i := 174) rfl
set_option maxRecDepth 100000 in
theorem kw130 : Jvm.Cond.code ({ cls := "AccessGate", name := "addPerson", desc := "(I)I" } : Jvm.MethodName) prog_1_method_2_code (3 : Nat) (Option.some Jvm.ClassFile.FieldType.int) ∈ lw_tbl := List.mem_of_getElem? (i := 175) rfl
set_option maxRecDepth 100000 in
theorem kw131 : Jvm.Cond.classLink "AccessGate" (45 : Nat) "java/lang/IllegalArgumentException" ∈ lw_tbl := List.mem_of_getElem? (i := 176) rfl
set_option maxRecDepth 100000 in
theorem kw132 : Jvm.Cond.instantiable "java/lang/IllegalArgumentException" (6 : Nat) ∈ lw_tbl := List.mem_of_getElem? (i := 177) rfl
set_option maxRecDepth 100000 in
theorem kw133 : Jvm.Cond.castable "java/lang/IllegalArgumentException" "java/lang/IllegalArgumentException" ∈ lw_tbl := List.mem_of_getElem? (i := 178) rfl
set_option maxRecDepth 100000 in
theorem kw134 : Jvm.Cond.declares ({ cls := "java/lang/RuntimeException", name := "<init>", desc := "()V" } : Jvm.MethodName) ∈ lw_tbl := List.mem_of_getElem? (i := 179) rfl
set_option maxRecDepth 100000 in
theorem kw135 : Jvm.Cond.declares ({ cls := "java/lang/RuntimeException", name := "<init>", desc := "(Ljava/lang/String;)V" } : Jvm.MethodName) ∈ lw_tbl := List.mem_of_getElem? (i := 180) rfl
set_option maxRecDepth 100000 in
theorem kw136 : Jvm.Cond.declares ({ cls := "java/lang/Exception", name := "<init>", desc := "()V" } : Jvm.MethodName) ∈ lw_tbl := List.mem_of_getElem? (i := 181) rfl
set_option maxRecDepth 100000 in
theorem kw137 : Jvm.Cond.declares ({ cls := "java/lang/Exception", name := "<init>", desc := "(Ljava/lang/String;)V" } : Jvm.MethodName) ∈ lw_tbl := List.mem_of_getElem? (i := 182) rfl
set_option maxRecDepth 100000 in
theorem kw138 : Jvm.Cond.declares ({ cls := "java/lang/Throwable", name := "<init>", desc := "()V" } : Jvm.MethodName) ∈ lw_tbl := List.mem_of_getElem? (i := 183) rfl
set_option maxRecDepth 100000 in
theorem kw139 : Jvm.Cond.declares ({ cls := "java/lang/Throwable", name := "<init>", desc := "(Ljava/lang/String;)V" } : Jvm.MethodName) ∈ lw_tbl := List.mem_of_getElem? (i := 184) rfl
set_option maxRecDepth 100000 in
theorem kw140 : Jvm.Cond.selects "java/lang/IllegalArgumentException" ({ cls := "java/lang/Throwable", name := "fillInStackTrace", desc := "(I)Ljava/lang/Throwable;" } : Jvm.MethodName) ({ cls := "java/lang/Throwable", name := "fillInStackTrace", desc := "(I)Ljava/lang/Throwable;" } : Jvm.MethodName) ∈ lw_tbl := List.mem_of_getElem? (i := 185) rfl
set_option maxRecDepth 100000 in
theorem kw141 : Jvm.Cond.selects "java/lang/IllegalArgumentException" ({ cls := "java/lang/Throwable", name := "fillInStackTrace", desc := "()Ljava/lang/Throwable;" } : Jvm.MethodName) ({ cls := "java/lang/Throwable", name := "fillInStackTrace", desc := "()Ljava/lang/Throwable;" } : Jvm.MethodName) ∈ lw_tbl := List.mem_of_getElem? (i := 186) rfl
set_option maxRecDepth 100000 in
theorem kw152 : Jvm.Cond.fieldLink "java/lang/Throwable" (198 : Nat) "java/lang/Throwable" "backtrace" "Ljava/lang/Object;" ∈ lw_tbl := List.mem_of_getElem? (i := 197) rfl
set_option maxRecDepth 100000 in
theorem kw154 : Jvm.Cond.instanceMethod ({ cls := "java/lang/Throwable", name := "<init>", desc := "()V" } : Jvm.MethodName) ∈ lw_tbl := List.mem_of_getElem? (i := 199) rfl
set_option maxRecDepth 100000 in
theorem kw155 : Jvm.Cond.code ({ cls := "java/lang/Throwable", name := "<init>", desc := "()V" } : Jvm.MethodName) prog_22_method_1_code (1 : Nat) (Option.none : Option Jvm.ClassFile.FieldType) ∈ lw_tbl := List.mem_of_getElem? (i := 200) rfl
set_option maxRecDepth 100000 in
theorem kw156 : Jvm.Cond.methodLink "java/lang/Throwable" (1 : Nat) ({ cls := "java/lang/Object", name := "<init>", desc := "()V" } : Jvm.MethodName) ∈ lw_tbl := List.mem_of_getElem? (i := 201) rfl
set_option maxRecDepth 100000 in
theorem kw157 : Jvm.Cond.fieldLink "java/lang/Throwable" (13 : Nat) "java/lang/Throwable" "UNASSIGNED_STACK" "[Ljava/lang/StackTraceElement;" ∈ lw_tbl := List.mem_of_getElem? (i := 202) rfl
set_option maxRecDepth 100000 in
theorem kw159 : Jvm.Cond.fieldLink "java/lang/Throwable" (20 : Nat) "java/lang/Throwable" "SUPPRESSED_SENTINEL" "Ljava/util/List;" ∈ lw_tbl := List.mem_of_getElem? (i := 204) rfl
set_option maxRecDepth 100000 in
theorem kw161 : Jvm.Cond.methodLink "java/lang/Throwable" (27 : Nat) ({ cls := "java/lang/Throwable", name := "fillInStackTrace", desc := "()Ljava/lang/Throwable;" } : Jvm.MethodName) ∈ lw_tbl := List.mem_of_getElem? (i := 206) rfl
set_option maxRecDepth 100000 in
theorem kw162 : Jvm.Cond.instanceMethod ({ cls := "java/lang/Throwable", name := "fillInStackTrace", desc := "()Ljava/lang/Throwable;" } : Jvm.MethodName) ∈ lw_tbl := List.mem_of_getElem? (i := 207) rfl
set_option maxRecDepth 100000 in
theorem kw164 : Jvm.Cond.selects "java/lang/IllegalStateException" ({ cls := "java/lang/Throwable", name := "fillInStackTrace", desc := "()Ljava/lang/Throwable;" } : Jvm.MethodName) ({ cls := "java/lang/Throwable", name := "fillInStackTrace", desc := "()Ljava/lang/Throwable;" } : Jvm.MethodName) ∈ lw_tbl := List.mem_of_getElem? (i := 209) rfl
set_option maxRecDepth 100000 in
theorem kw165 : Jvm.Cond.selects "java/lang/IndexOutOfBoundsException" ({ cls := "java/lang/Throwable", name := "fillInStackTrace", desc := "()Ljava/lang/Throwable;" } : Jvm.MethodName) ({ cls := "java/lang/Throwable", name := "fillInStackTrace", desc := "()Ljava/lang/Throwable;" } : Jvm.MethodName) ∈ lw_tbl := List.mem_of_getElem? (i := 210) rfl
set_option maxRecDepth 100000 in
theorem kw167 : Jvm.Cond.methodLink "java/lang/Throwable" (202 : Nat) ({ cls := "java/lang/Throwable", name := "fillInStackTrace", desc := "(I)Ljava/lang/Throwable;" } : Jvm.MethodName) ∈ lw_tbl := List.mem_of_getElem? (i := 212) rfl
set_option maxRecDepth 100000 in
theorem kw169 : Jvm.Cond.instanceMethod ({ cls := "java/lang/Throwable", name := "fillInStackTrace", desc := "(I)Ljava/lang/Throwable;" } : Jvm.MethodName) ∈ lw_tbl := List.mem_of_getElem? (i := 214) rfl
set_option maxRecDepth 100000 in
theorem kw170 : Jvm.Cond.instantiable "java/lang/Throwable" (6 : Nat) ∈ lw_tbl := List.mem_of_getElem? (i := 215) rfl
set_option maxRecDepth 100000 in
theorem kw171 : Jvm.Cond.native ({ cls := "java/lang/Throwable", name := "fillInStackTrace", desc := "(I)Ljava/lang/Throwable;" } : Jvm.MethodName) ∈ lw_tbl := List.mem_of_getElem? (i := 216) rfl
set_option maxRecDepth 100000 in
theorem kw173 : Jvm.Cond.methodLink "AccessGate" (49 : Nat) ({ cls := "java/lang/IllegalArgumentException", name := "<init>", desc := "(Ljava/lang/String;)V" } : Jvm.MethodName) ∈ lw_tbl := List.mem_of_getElem? (i := 218) rfl
set_option maxRecDepth 100000 in
theorem kw174 : Jvm.Cond.instanceMethod ({ cls := "java/lang/IllegalArgumentException", name := "<init>", desc := "(Ljava/lang/String;)V" } : Jvm.MethodName) ∈ lw_tbl := List.mem_of_getElem? (i := 219) rfl
set_option maxRecDepth 100000 in
theorem kw175 : Jvm.Cond.code ({ cls := "java/lang/IllegalArgumentException", name := "<init>", desc := "(Ljava/lang/String;)V" } : Jvm.MethodName) prog_14_method_2_code (2 : Nat) (Option.none : Option Jvm.ClassFile.FieldType) ∈ lw_tbl := List.mem_of_getElem? (i := 220) rfl
set_option maxRecDepth 100000 in
theorem kw176 : Jvm.Cond.methodLink "java/lang/IllegalArgumentException" (7 : Nat) ({ cls := "java/lang/RuntimeException", name := "<init>", desc := "(Ljava/lang/String;)V" } : Jvm.MethodName) ∈ lw_tbl := List.mem_of_getElem? (i := 221) rfl
set_option maxRecDepth 100000 in
theorem kw177 : Jvm.Cond.instanceMethod ({ cls := "java/lang/RuntimeException", name := "<init>", desc := "(Ljava/lang/String;)V" } : Jvm.MethodName) ∈ lw_tbl := List.mem_of_getElem? (i := 222) rfl
set_option maxRecDepth 100000 in
theorem kw178 : Jvm.Cond.code ({ cls := "java/lang/RuntimeException", name := "<init>", desc := "(Ljava/lang/String;)V" } : Jvm.MethodName) prog_19_method_2_code (2 : Nat) (Option.none : Option Jvm.ClassFile.FieldType) ∈ lw_tbl := List.mem_of_getElem? (i := 223) rfl
set_option maxRecDepth 100000 in
theorem kw179 : Jvm.Cond.methodLink "java/lang/RuntimeException" (7 : Nat) ({ cls := "java/lang/Exception", name := "<init>", desc := "(Ljava/lang/String;)V" } : Jvm.MethodName) ∈ lw_tbl := List.mem_of_getElem? (i := 224) rfl
set_option maxRecDepth 100000 in
theorem kw180 : Jvm.Cond.instanceMethod ({ cls := "java/lang/Exception", name := "<init>", desc := "(Ljava/lang/String;)V" } : Jvm.MethodName) ∈ lw_tbl := List.mem_of_getElem? (i := 225) rfl
set_option maxRecDepth 100000 in
theorem kw181 : Jvm.Cond.code ({ cls := "java/lang/Exception", name := "<init>", desc := "(Ljava/lang/String;)V" } : Jvm.MethodName) prog_13_method_2_code (2 : Nat) (Option.none : Option Jvm.ClassFile.FieldType) ∈ lw_tbl := List.mem_of_getElem? (i := 226) rfl
set_option maxRecDepth 100000 in
theorem kw182 : Jvm.Cond.methodLink "java/lang/Exception" (7 : Nat) ({ cls := "java/lang/Throwable", name := "<init>", desc := "(Ljava/lang/String;)V" } : Jvm.MethodName) ∈ lw_tbl := List.mem_of_getElem? (i := 227) rfl
set_option maxRecDepth 100000 in
theorem kw183 : Jvm.Cond.instanceMethod ({ cls := "java/lang/Throwable", name := "<init>", desc := "(Ljava/lang/String;)V" } : Jvm.MethodName) ∈ lw_tbl := List.mem_of_getElem? (i := 228) rfl
set_option maxRecDepth 100000 in
theorem kw184 : Jvm.Cond.code ({ cls := "java/lang/Throwable", name := "<init>", desc := "(Ljava/lang/String;)V" } : Jvm.MethodName) prog_22_method_2_code (2 : Nat) (Option.none : Option Jvm.ClassFile.FieldType) ∈ lw_tbl := List.mem_of_getElem? (i := 229) rfl
set_option maxRecDepth 100000 in
theorem kw185 : Jvm.Cond.fieldLink "java/lang/Throwable" (198 : Nat) "java/lang/Throwable" "backtrace" "Ljava/lang/Object;" ∈ lw_tbl := List.mem_of_getElem? (i := 230) rfl
set_option maxRecDepth 100000 in
theorem kw186 : Jvm.Cond.fieldLink "java/lang/Throwable" (31 : Nat) "java/lang/Throwable" "detailMessage" "Ljava/lang/String;" ∈ lw_tbl := List.mem_of_getElem? (i := 231) rfl
set_option maxRecDepth 100000 in
theorem kw187 : Jvm.Cond.fieldLink "java/lang/Throwable" (7 : Nat) "java/lang/Throwable" "cause" "Ljava/lang/Throwable;" ∈ lw_tbl := List.mem_of_getElem? (i := 232) rfl
set_option maxRecDepth 100000 in
theorem kw188 : Jvm.Cond.fieldLink "java/lang/Throwable" (17 : Nat) "java/lang/Throwable" "stackTrace" "[Ljava/lang/StackTraceElement;" ∈ lw_tbl := List.mem_of_getElem? (i := 233) rfl
set_option maxRecDepth 100000 in
theorem kw189 : Jvm.Cond.fieldLink "java/lang/Throwable" (24 : Nat) "java/lang/Throwable" "suppressedExceptions" "Ljava/util/List;" ∈ lw_tbl := List.mem_of_getElem? (i := 234) rfl
set_option maxRecDepth 100000 in
theorem kw198 : Jvm.Cond.arrayClass Jvm.ClassFile.FieldType.byte ∈ lw_tbl := List.mem_of_getElem? (i := 243) rfl
set_option maxRecDepth 100000 in
theorem kw199 : Jvm.Cond.methodLink "AccessGate" (52 : Nat) ({ cls := "java/util/ArrayList", name := "size", desc := "()I" } : Jvm.MethodName) ∈ lw_tbl := List.mem_of_getElem? (i := 244) rfl
set_option maxRecDepth 100000 in
theorem kw200 : Jvm.Cond.instanceMethod ({ cls := "java/util/ArrayList", name := "size", desc := "()I" } : Jvm.MethodName) ∈ lw_tbl := List.mem_of_getElem? (i := 245) rfl
set_option maxRecDepth 100000 in
theorem kw201 : Jvm.Cond.selects "java/util/ArrayList" ({ cls := "java/util/ArrayList", name := "size", desc := "()I" } : Jvm.MethodName) ({ cls := "java/util/ArrayList", name := "size", desc := "()I" } : Jvm.MethodName) ∈ lw_tbl := List.mem_of_getElem? (i := 246) rfl
set_option maxRecDepth 100000 in
theorem kw202 : Jvm.Cond.code ({ cls := "java/util/ArrayList", name := "size", desc := "()I" } : Jvm.MethodName) prog_25_method_8_code (1 : Nat) (Option.some Jvm.ClassFile.FieldType.int) ∈ lw_tbl := List.mem_of_getElem? (i := 247) rfl
set_option maxRecDepth 100000 in
theorem kw203 : Jvm.Cond.classLink "AccessGate" (56 : Nat) "java/lang/IllegalStateException" ∈ lw_tbl := List.mem_of_getElem? (i := 248) rfl
set_option maxRecDepth 100000 in
theorem kw204 : Jvm.Cond.instantiable "java/lang/IllegalStateException" (6 : Nat) ∈ lw_tbl := List.mem_of_getElem? (i := 249) rfl
set_option maxRecDepth 100000 in
theorem kw205 : Jvm.Cond.castable "java/lang/IllegalStateException" "java/lang/IllegalStateException" ∈ lw_tbl := List.mem_of_getElem? (i := 250) rfl
set_option maxRecDepth 100000 in
theorem kw206 : Jvm.Cond.selects "java/lang/IllegalStateException" ({ cls := "java/lang/Throwable", name := "fillInStackTrace", desc := "(I)Ljava/lang/Throwable;" } : Jvm.MethodName) ({ cls := "java/lang/Throwable", name := "fillInStackTrace", desc := "(I)Ljava/lang/Throwable;" } : Jvm.MethodName) ∈ lw_tbl := List.mem_of_getElem? (i := 251) rfl
set_option maxRecDepth 100000 in
theorem kw213 : Jvm.Cond.methodLink "AccessGate" (60 : Nat) ({ cls := "java/lang/IllegalStateException", name := "<init>", desc := "(Ljava/lang/String;)V" } : Jvm.MethodName) ∈ lw_tbl := List.mem_of_getElem? (i := 258) rfl
set_option maxRecDepth 100000 in
theorem kw214 : Jvm.Cond.instanceMethod ({ cls := "java/lang/IllegalStateException", name := "<init>", desc := "(Ljava/lang/String;)V" } : Jvm.MethodName) ∈ lw_tbl := List.mem_of_getElem? (i := 259) rfl
set_option maxRecDepth 100000 in
theorem kw215 : Jvm.Cond.code ({ cls := "java/lang/IllegalStateException", name := "<init>", desc := "(Ljava/lang/String;)V" } : Jvm.MethodName) prog_15_method_2_code (2 : Nat) (Option.none : Option Jvm.ClassFile.FieldType) ∈ lw_tbl := List.mem_of_getElem? (i := 260) rfl
set_option maxRecDepth 100000 in
theorem kw216 : Jvm.Cond.methodLink "java/lang/IllegalStateException" (7 : Nat) ({ cls := "java/lang/RuntimeException", name := "<init>", desc := "(Ljava/lang/String;)V" } : Jvm.MethodName) ∈ lw_tbl := List.mem_of_getElem? (i := 261) rfl
set_option maxRecDepth 100000 in
theorem kw219 : Jvm.Cond.classLink "AccessGate" (61 : Nat) "AccessGate$Person" ∈ lw_tbl := List.mem_of_getElem? (i := 264) rfl
set_option maxRecDepth 100000 in
theorem kw220 : Jvm.Cond.instantiable "AccessGate$Person" (3 : Nat) ∈ lw_tbl := List.mem_of_getElem? (i := 265) rfl
set_option maxRecDepth 100000 in
theorem kw221 : Jvm.Cond.methodLinkNest "AccessGate" (63 : Nat) ({ cls := "AccessGate$Person", name := "<init>", desc := "(II)V" } : Jvm.MethodName) "AccessGate" ∈ lw_tbl := List.mem_of_getElem? (i := 266) rfl
set_option maxRecDepth 100000 in
theorem kw222 : Jvm.Cond.instanceMethod ({ cls := "AccessGate$Person", name := "<init>", desc := "(II)V" } : Jvm.MethodName) ∈ lw_tbl := List.mem_of_getElem? (i := 267) rfl
set_option maxRecDepth 100000 in
theorem kw223 : Jvm.Cond.code ({ cls := "AccessGate$Person", name := "<init>", desc := "(II)V" } : Jvm.MethodName) prog_5_method_1_code (3 : Nat) (Option.none : Option Jvm.ClassFile.FieldType) ∈ lw_tbl := List.mem_of_getElem? (i := 268) rfl
set_option maxRecDepth 100000 in
theorem kw224 : Jvm.Cond.methodLink "AccessGate$Person" (1 : Nat) ({ cls := "java/lang/Object", name := "<init>", desc := "()V" } : Jvm.MethodName) ∈ lw_tbl := List.mem_of_getElem? (i := 269) rfl
set_option maxRecDepth 100000 in
theorem kw225 : Jvm.Cond.fieldLink "AccessGate$Person" (13 : Nat) "AccessGate$Person" "number" "I" ∈ lw_tbl := List.mem_of_getElem? (i := 270) rfl
set_option maxRecDepth 100000 in
theorem kw226 : Jvm.Cond.fieldLinkNest "AccessGate$StepRecord" (25 : Nat) "AccessGate$Person" "number" "I" "AccessGate" ∈ lw_tbl := List.mem_of_getElem? (i := 271) rfl
set_option maxRecDepth 100000 in
theorem kw227 : Jvm.Cond.fieldLink "AccessGate$Person" (16 : Nat) "AccessGate$Person" "team" "I" ∈ lw_tbl := List.mem_of_getElem? (i := 272) rfl
set_option maxRecDepth 100000 in
theorem kw228 : Jvm.Cond.fieldLinkNest "AccessGate" (173 : Nat) "AccessGate$Person" "team" "I" "AccessGate" ∈ lw_tbl := List.mem_of_getElem? (i := 273) rfl
set_option maxRecDepth 100000 in
theorem kw229 : Jvm.Cond.fieldLink "AccessGate$Person" (7 : Nat) "AccessGate$Person" "labelBits" "I" ∈ lw_tbl := List.mem_of_getElem? (i := 274) rfl
set_option maxRecDepth 100000 in
theorem kw237 : Jvm.Cond.methodLink "AccessGate" (66 : Nat) ({ cls := "java/util/ArrayList", name := "add", desc := "(Ljava/lang/Object;)Z" } : Jvm.MethodName) ∈ lw_tbl := List.mem_of_getElem? (i := 282) rfl
set_option maxRecDepth 100000 in
theorem kw238 : Jvm.Cond.instanceMethod ({ cls := "java/util/ArrayList", name := "add", desc := "(Ljava/lang/Object;)Z" } : Jvm.MethodName) ∈ lw_tbl := List.mem_of_getElem? (i := 283) rfl
set_option maxRecDepth 100000 in
theorem kw239 : Jvm.Cond.selects "java/util/ArrayList" ({ cls := "java/util/ArrayList", name := "add", desc := "(Ljava/lang/Object;)Z" } : Jvm.MethodName) ({ cls := "java/util/ArrayList", name := "add", desc := "(Ljava/lang/Object;)Z" } : Jvm.MethodName) ∈ lw_tbl := List.mem_of_getElem? (i := 284) rfl
set_option maxRecDepth 100000 in
theorem kw240 : Jvm.Cond.code ({ cls := "java/util/ArrayList", name := "add", desc := "(Ljava/lang/Object;)Z" } : Jvm.MethodName) prog_25_method_25_code (2 : Nat) (Option.some Jvm.ClassFile.FieldType.boolean) ∈ lw_tbl := List.mem_of_getElem? (i := 285) rfl
set_option maxRecDepth 100000 in
theorem kw241 : Jvm.Cond.methodLink "java/util/ArrayList" (131 : Nat) ({ cls := "java/util/ArrayList", name := "add", desc := "(Ljava/lang/Object;[Ljava/lang/Object;I)V" } : Jvm.MethodName) ∈ lw_tbl := List.mem_of_getElem? (i := 286) rfl
set_option maxRecDepth 100000 in
theorem kw243 : Jvm.Cond.instanceMethod ({ cls := "java/util/ArrayList", name := "add", desc := "(Ljava/lang/Object;[Ljava/lang/Object;I)V" } : Jvm.MethodName) ∈ lw_tbl := List.mem_of_getElem? (i := 288) rfl
set_option maxRecDepth 100000 in
theorem kw244 : Jvm.Cond.code ({ cls := "java/util/ArrayList", name := "add", desc := "(Ljava/lang/Object;[Ljava/lang/Object;I)V" } : Jvm.MethodName) prog_25_method_24_code (4 : Nat) (Option.none : Option Jvm.ClassFile.FieldType) ∈ lw_tbl := List.mem_of_getElem? (i := 289) rfl
set_option maxRecDepth 100000 in
theorem kw245 : Jvm.Cond.methodLink "java/util/ArrayList" (129 : Nat) ({ cls := "java/util/ArrayList", name := "grow", desc := "()[Ljava/lang/Object;" } : Jvm.MethodName) ∈ lw_tbl := List.mem_of_getElem? (i := 290) rfl
set_option maxRecDepth 100000 in
theorem kw247 : Jvm.Cond.instanceMethod ({ cls := "java/util/ArrayList", name := "grow", desc := "()[Ljava/lang/Object;" } : Jvm.MethodName) ∈ lw_tbl := List.mem_of_getElem? (i := 292) rfl
set_option maxRecDepth 100000 in
theorem kw248 : Jvm.Cond.code ({ cls := "java/util/ArrayList", name := "grow", desc := "()[Ljava/lang/Object;" } : Jvm.MethodName) prog_25_method_7_code (1 : Nat) (Option.some (Jvm.ClassFile.FieldType.array (Jvm.ClassFile.FieldType.object "java/lang/Object"))) ∈ lw_tbl := List.mem_of_getElem? (i := 293) rfl
set_option maxRecDepth 100000 in
theorem kw249 : Jvm.Cond.methodLink "java/util/ArrayList" (69 : Nat) ({ cls := "java/util/ArrayList", name := "grow", desc := "(I)[Ljava/lang/Object;" } : Jvm.MethodName) ∈ lw_tbl := List.mem_of_getElem? (i := 294) rfl
set_option maxRecDepth 100000 in
theorem kw251 : Jvm.Cond.instanceMethod ({ cls := "java/util/ArrayList", name := "grow", desc := "(I)[Ljava/lang/Object;" } : Jvm.MethodName) ∈ lw_tbl := List.mem_of_getElem? (i := 296) rfl
set_option maxRecDepth 100000 in
theorem kw252 : Jvm.Cond.code ({ cls := "java/util/ArrayList", name := "grow", desc := "(I)[Ljava/lang/Object;" } : Jvm.MethodName) prog_25_method_6_code (4 : Nat) (Option.some (Jvm.ClassFile.FieldType.array (Jvm.ClassFile.FieldType.object "java/lang/Object"))) ∈ lw_tbl := List.mem_of_getElem? (i := 297) rfl
set_option maxRecDepth 100000 in
theorem kw253 : Jvm.Cond.methodLink "java/util/ArrayList" (73 : Nat) ({ cls := "jdk/internal/util/ArraysSupport", name := "newLength", desc := "(III)I" } : Jvm.MethodName) ∈ lw_tbl := List.mem_of_getElem? (i := 298) rfl
set_option maxRecDepth 100000 in
theorem kw254 : Jvm.Cond.static ({ cls := "jdk/internal/util/ArraysSupport", name := "newLength", desc := "(III)I" } : Jvm.MethodName) ∈ lw_tbl := List.mem_of_getElem? (i := 299) rfl
set_option maxRecDepth 100000 in
theorem kw255 : Jvm.Cond.code ({ cls := "jdk/internal/util/ArraysSupport", name := "newLength", desc := "(III)I" } : Jvm.MethodName) prog_32_method_27_code (4 : Nat) (Option.some Jvm.ClassFile.FieldType.int) ∈ lw_tbl := List.mem_of_getElem? (i := 300) rfl
set_option maxRecDepth 100000 in
theorem kw256 : Jvm.Cond.methodLink "jdk/internal/util/ArraysSupport" (194 : Nat) ({ cls := "java/lang/Math", name := "max", desc := "(II)I" } : Jvm.MethodName) ∈ lw_tbl := List.mem_of_getElem? (i := 301) rfl
set_option maxRecDepth 100000 in
theorem kw257 : Jvm.Cond.static ({ cls := "java/lang/Math", name := "max", desc := "(II)I" } : Jvm.MethodName) ∈ lw_tbl := List.mem_of_getElem? (i := 302) rfl
set_option maxRecDepth 100000 in
theorem kw258 : Jvm.Cond.code ({ cls := "java/lang/Math", name := "max", desc := "(II)I" } : Jvm.MethodName) prog_18_method_65_code (2 : Nat) (Option.some Jvm.ClassFile.FieldType.int) ∈ lw_tbl := List.mem_of_getElem? (i := 303) rfl
set_option maxRecDepth 100000 in
theorem kw259 : Jvm.Cond.constant "jdk/internal/util/ArraysSupport" (200 : Nat) (2147483639 : Int32) ∈ lw_tbl := List.mem_of_getElem? (i := 304) rfl
set_option maxRecDepth 100000 in
theorem kw260 : Jvm.Cond.methodLink "jdk/internal/util/ArraysSupport" (201 : Nat) ({ cls := "jdk/internal/util/ArraysSupport", name := "hugeLength", desc := "(II)I" } : Jvm.MethodName) ∈ lw_tbl := List.mem_of_getElem? (i := 305) rfl
set_option maxRecDepth 100000 in
theorem kw261 : Jvm.Cond.static ({ cls := "jdk/internal/util/ArraysSupport", name := "hugeLength", desc := "(II)I" } : Jvm.MethodName) ∈ lw_tbl := List.mem_of_getElem? (i := 306) rfl
set_option maxRecDepth 100000 in
theorem kw262 : Jvm.Cond.code ({ cls := "jdk/internal/util/ArraysSupport", name := "hugeLength", desc := "(II)I" } : Jvm.MethodName) prog_32_method_28_code (3 : Nat) (Option.some Jvm.ClassFile.FieldType.int) ∈ lw_tbl := List.mem_of_getElem? (i := 307) rfl
set_option maxRecDepth 100000 in
theorem kw263 : Jvm.Cond.methodLink "java/util/ArrayList" (66 : Nat) ({ cls := "java/util/Arrays", name := "copyOf", desc := "([Ljava/lang/Object;I)[Ljava/lang/Object;" } : Jvm.MethodName) ∈ lw_tbl := List.mem_of_getElem? (i := 308) rfl
set_option maxRecDepth 100000 in
theorem kw264 : Jvm.Cond.static ({ cls := "java/util/Arrays", name := "copyOf", desc := "([Ljava/lang/Object;I)[Ljava/lang/Object;" } : Jvm.MethodName) ∈ lw_tbl := List.mem_of_getElem? (i := 309) rfl
set_option maxRecDepth 100000 in
theorem kw265 : Jvm.Cond.code ({ cls := "java/util/Arrays", name := "copyOf", desc := "([Ljava/lang/Object;I)[Ljava/lang/Object;" } : Jvm.MethodName) prog_26_method_119_code (2 : Nat) (Option.some (Jvm.ClassFile.FieldType.array (Jvm.ClassFile.FieldType.object "java/lang/Object"))) ∈ lw_tbl := List.mem_of_getElem? (i := 310) rfl
set_option maxRecDepth 100000 in
theorem kw266 : Jvm.Cond.methodLink "java/util/Arrays" (86 : Nat) ({ cls := "java/lang/Object", name := "getClass", desc := "()Ljava/lang/Class;" } : Jvm.MethodName) ∈ lw_tbl := List.mem_of_getElem? (i := 311) rfl
set_option maxRecDepth 100000 in
theorem kw267 : Jvm.Cond.instanceMethod ({ cls := "java/lang/Object", name := "getClass", desc := "()Ljava/lang/Class;" } : Jvm.MethodName) ∈ lw_tbl := List.mem_of_getElem? (i := 312) rfl
set_option maxRecDepth 100000 in
theorem kw269 : Jvm.Cond.selects "AccessGate" ({ cls := "java/lang/Object", name := "getClass", desc := "()Ljava/lang/Class;" } : Jvm.MethodName) ({ cls := "java/lang/Object", name := "getClass", desc := "()Ljava/lang/Class;" } : Jvm.MethodName) ∈ lw_tbl := List.mem_of_getElem? (i := 314) rfl
set_option maxRecDepth 100000 in
theorem kw270 : Jvm.Cond.selects "AccessGate$Ask" ({ cls := "java/lang/Object", name := "getClass", desc := "()Ljava/lang/Class;" } : Jvm.MethodName) ({ cls := "java/lang/Object", name := "getClass", desc := "()Ljava/lang/Class;" } : Jvm.MethodName) ∈ lw_tbl := List.mem_of_getElem? (i := 315) rfl
set_option maxRecDepth 100000 in
theorem kw271 : Jvm.Cond.selects "AccessGate$Entry" ({ cls := "java/lang/Object", name := "getClass", desc := "()Ljava/lang/Class;" } : Jvm.MethodName) ({ cls := "java/lang/Object", name := "getClass", desc := "()Ljava/lang/Class;" } : Jvm.MethodName) ∈ lw_tbl := List.mem_of_getElem? (i := 316) rfl
set_option maxRecDepth 100000 in
theorem kw272 : Jvm.Cond.selects "AccessGate$Machine" ({ cls := "java/lang/Object", name := "getClass", desc := "()Ljava/lang/Class;" } : Jvm.MethodName) ({ cls := "java/lang/Object", name := "getClass", desc := "()Ljava/lang/Class;" } : Jvm.MethodName) ∈ lw_tbl := List.mem_of_getElem? (i := 317) rfl
set_option maxRecDepth 100000 in
theorem kw273 : Jvm.Cond.selects "AccessGate$Person" ({ cls := "java/lang/Object", name := "getClass", desc := "()Ljava/lang/Class;" } : Jvm.MethodName) ({ cls := "java/lang/Object", name := "getClass", desc := "()Ljava/lang/Class;" } : Jvm.MethodName) ∈ lw_tbl := List.mem_of_getElem? (i := 318) rfl
set_option maxRecDepth 100000 in
theorem kw274 : Jvm.Cond.selects "AccessGate$Right" ({ cls := "java/lang/Object", name := "getClass", desc := "()Ljava/lang/Class;" } : Jvm.MethodName) ({ cls := "java/lang/Object", name := "getClass", desc := "()Ljava/lang/Class;" } : Jvm.MethodName) ∈ lw_tbl := List.mem_of_getElem? (i := 319) rfl
set_option maxRecDepth 100000 in
theorem kw275 : Jvm.Cond.selects "AccessGate$Session" ({ cls := "java/lang/Object", name := "getClass", desc := "()Ljava/lang/Class;" } : Jvm.MethodName) ({ cls := "java/lang/Object", name := "getClass", desc := "()Ljava/lang/Class;" } : Jvm.MethodName) ∈ lw_tbl := List.mem_of_getElem? (i := 320) rfl
set_option maxRecDepth 100000 in
theorem kw276 : Jvm.Cond.selects "AccessGate$StepRecord" ({ cls := "java/lang/Object", name := "getClass", desc := "()Ljava/lang/Class;" } : Jvm.MethodName) ({ cls := "java/lang/Object", name := "getClass", desc := "()Ljava/lang/Class;" } : Jvm.MethodName) ∈ lw_tbl := List.mem_of_getElem? (i := 321) rfl
set_option maxRecDepth 100000 in
theorem kw277 : Jvm.Cond.selects "AccessGateModel" ({ cls := "java/lang/Object", name := "getClass", desc := "()Ljava/lang/Class;" } : Jvm.MethodName) ({ cls := "java/lang/Object", name := "getClass", desc := "()Ljava/lang/Class;" } : Jvm.MethodName) ∈ lw_tbl := List.mem_of_getElem? (i := 322) rfl
set_option maxRecDepth 100000 in
theorem kw278 : Jvm.Cond.selects "java/lang/IllegalArgumentException" ({ cls := "java/lang/Object", name := "getClass", desc := "()Ljava/lang/Class;" } : Jvm.MethodName) ({ cls := "java/lang/Object", name := "getClass", desc := "()Ljava/lang/Class;" } : Jvm.MethodName) ∈ lw_tbl := List.mem_of_getElem? (i := 323) rfl
set_option maxRecDepth 100000 in
theorem kw279 : Jvm.Cond.selects "java/lang/IllegalStateException" ({ cls := "java/lang/Object", name := "getClass", desc := "()Ljava/lang/Class;" } : Jvm.MethodName) ({ cls := "java/lang/Object", name := "getClass", desc := "()Ljava/lang/Class;" } : Jvm.MethodName) ∈ lw_tbl := List.mem_of_getElem? (i := 324) rfl
set_option maxRecDepth 100000 in
theorem kw280 : Jvm.Cond.selects "java/lang/IndexOutOfBoundsException" ({ cls := "java/lang/Object", name := "getClass", desc := "()Ljava/lang/Class;" } : Jvm.MethodName) ({ cls := "java/lang/Object", name := "getClass", desc := "()Ljava/lang/Class;" } : Jvm.MethodName) ∈ lw_tbl := List.mem_of_getElem? (i := 325) rfl
set_option maxRecDepth 100000 in
theorem kw281 : Jvm.Cond.selects "java/util/ArrayList" ({ cls := "java/lang/Object", name := "getClass", desc := "()Ljava/lang/Class;" } : Jvm.MethodName) ({ cls := "java/lang/Object", name := "getClass", desc := "()Ljava/lang/Class;" } : Jvm.MethodName) ∈ lw_tbl := List.mem_of_getElem? (i := 326) rfl
set_option maxRecDepth 100000 in
theorem kw282 : Jvm.Cond.native ({ cls := "java/lang/Object", name := "getClass", desc := "()Ljava/lang/Class;" } : Jvm.MethodName) ∈ lw_tbl := List.mem_of_getElem? (i := 327) rfl
set_option maxRecDepth 100000 in
theorem kw283 : Jvm.Cond.methodLink "java/util/Arrays" (300 : Nat) ({ cls := "java/util/Arrays", name := "copyOf", desc := "([Ljava/lang/Object;ILjava/lang/Class;)[Ljava/lang/Object;" } : Jvm.MethodName) ∈ lw_tbl := List.mem_of_getElem? (i := 328) rfl
set_option maxRecDepth 100000 in
theorem kw284 : Jvm.Cond.static ({ cls := "java/util/Arrays", name := "copyOf", desc := "([Ljava/lang/Object;ILjava/lang/Class;)[Ljava/lang/Object;" } : Jvm.MethodName) ∈ lw_tbl := List.mem_of_getElem? (i := 329) rfl
set_option maxRecDepth 100000 in
theorem kw285 : Jvm.Cond.code ({ cls := "java/util/Arrays", name := "copyOf", desc := "([Ljava/lang/Object;ILjava/lang/Class;)[Ljava/lang/Object;" } : Jvm.MethodName) prog_26_method_120_code (4 : Nat) (Option.some (Jvm.ClassFile.FieldType.array (Jvm.ClassFile.FieldType.object "java/lang/Object"))) ∈ lw_tbl := List.mem_of_getElem? (i := 330) rfl
set_option maxRecDepth 100000 in
theorem kw286 : Jvm.Cond.classLink "java/util/Arrays" (110 : Nat) "[Ljava/lang/Object;" ∈ lw_tbl := List.mem_of_getElem? (i := 331) rfl
set_option maxRecDepth 100000 in
theorem kw288 : Jvm.Cond.classLink "java/util/Arrays" (2 : Nat) "java/lang/Object" ∈ lw_tbl := List.mem_of_getElem? (i := 333) rfl
set_option maxRecDepth 100000 in
theorem kw289 : Jvm.Cond.methodLink "java/util/Arrays" (304 : Nat) ({ cls := "java/lang/Math", name := "min", desc := "(II)I" } : Jvm.MethodName) ∈ lw_tbl := List.mem_of_getElem? (i := 334) rfl
set_option maxRecDepth 100000 in
theorem kw290 : Jvm.Cond.static ({ cls := "java/lang/Math", name := "min", desc := "(II)I" } : Jvm.MethodName) ∈ lw_tbl := List.mem_of_getElem? (i := 335) rfl
set_option maxRecDepth 100000 in
theorem kw291 : Jvm.Cond.code ({ cls := "java/lang/Math", name := "min", desc := "(II)I" } : Jvm.MethodName) prog_18_method_69_code (2 : Nat) (Option.some Jvm.ClassFile.FieldType.int) ∈ lw_tbl := List.mem_of_getElem? (i := 336) rfl
set_option maxRecDepth 100000 in
theorem kw292 : Jvm.Cond.methodLink "java/util/Arrays" (150 : Nat) ({ cls := "java/lang/System", name := "arraycopy", desc := "(Ljava/lang/Object;ILjava/lang/Object;II)V" } : Jvm.MethodName) ∈ lw_tbl := List.mem_of_getElem? (i := 337) rfl
set_option maxRecDepth 100000 in
theorem kw293 : Jvm.Cond.static ({ cls := "java/lang/System", name := "arraycopy", desc := "(Ljava/lang/Object;ILjava/lang/Object;II)V" } : Jvm.MethodName) ∈ lw_tbl := List.mem_of_getElem? (i := 338) rfl
set_option maxRecDepth 100000 in
theorem kw294 : Jvm.Cond.native ({ cls := "java/lang/System", name := "arraycopy", desc := "(Ljava/lang/Object;ILjava/lang/Object;II)V" } : Jvm.MethodName) ∈ lw_tbl := List.mem_of_getElem? (i := 339) rfl
set_option maxRecDepth 100000 in
theorem kw295 : Jvm.Cond.methodLink "java/util/ArrayList" (79 : Nat) ({ cls := "java/lang/Math", name := "max", desc := "(II)I" } : Jvm.MethodName) ∈ lw_tbl := List.mem_of_getElem? (i := 340) rfl
set_option maxRecDepth 100000 in
theorem kw296 : Jvm.Cond.classLink "java/util/ArrayList" (7 : Nat) "java/lang/Object" ∈ lw_tbl := List.mem_of_getElem? (i := 341) rfl
set_option maxRecDepth 100000 in
theorem kw297 : Jvm.Cond.methodLink "AccessGateLaw" (97 : Nat) ({ cls := "AccessGateLaw", name := "addMachine", desc := "(LAccessGate;I[J)I" } : Jvm.MethodName) ∈ lw_tbl := List.mem_of_getElem? (i := 342) rfl
set_option maxRecDepth 100000 in
theorem kw298 : Jvm.Cond.static ({ cls := "AccessGateLaw", name := "addMachine", desc := "(LAccessGate;I[J)I" } : Jvm.MethodName) ∈ lw_tbl := List.mem_of_getElem? (i := 343) rfl
set_option maxRecDepth 100000 in
theorem kw299 : Jvm.Cond.codeWith ({ cls := "AccessGateLaw", name := "addMachine", desc := "(LAccessGate;I[J)I" } : Jvm.MethodName) method_4_code (4 : Nat) (Option.some Jvm.ClassFile.FieldType.int) [((0 : Nat), (9 : Nat), (12 : Nat), (13 : Nat)), ((0 : Nat), (9 : Nat), (15 : Nat), (15 : Nat))] ∈ lw_tbl := List.mem_of_getElem? (i := 344) rfl
set_option maxRecDepth 100000 in
theorem kw300 : Jvm.Cond.methodLink "AccessGateLaw" (17 : Nat) ({ cls := "AccessGate", name := "addMachine", desc := "(I)I" } : Jvm.MethodName) ∈ lw_tbl := List.mem_of_getElem? (i := 345) rfl
set_option maxRecDepth 100000 in
theorem kw301 : Jvm.Cond.instanceMethod ({ cls := "AccessGate", name := "addMachine", desc := "(I)I" } : Jvm.MethodName) ∈ lw_tbl := List.mem_of_getElem? (i := 346) rfl
set_option maxRecDepth 100000 in
theorem kw302 : Jvm.Cond.selects "AccessGate" ({ cls := "AccessGate", name := "addMachine", desc := "(I)I" } : Jvm.MethodName) ({ cls := "AccessGate", name := "addMachine", desc := "(I)I" } : Jvm.MethodName) ∈ lw_tbl := List.mem_of_getElem? (i := 347) rfl
set_option maxRecDepth 100000 in
theorem kw303 : Jvm.Cond.code ({ cls := "AccessGate", name := "addMachine", desc := "(I)I" } : Jvm.MethodName) prog_1_method_3_code (3 : Nat) (Option.some Jvm.ClassFile.FieldType.int) ∈ lw_tbl := List.mem_of_getElem? (i := 348) rfl
set_option maxRecDepth 100000 in
theorem kw304 : Jvm.Cond.methodLink "AccessGate" (70 : Nat) ({ cls := "AccessGate", name := "requireLabel", desc := "(I)V" } : Jvm.MethodName) ∈ lw_tbl := List.mem_of_getElem? (i := 349) rfl
set_option maxRecDepth 100000 in
theorem kw305 : Jvm.Cond.static ({ cls := "AccessGate", name := "requireLabel", desc := "(I)V" } : Jvm.MethodName) ∈ lw_tbl := List.mem_of_getElem? (i := 350) rfl
set_option maxRecDepth 100000 in
theorem kw306 : Jvm.Cond.code ({ cls := "AccessGate", name := "requireLabel", desc := "(I)V" } : Jvm.MethodName) prog_1_method_31_code (1 : Nat) (Option.none : Option Jvm.ClassFile.FieldType) ∈ lw_tbl := List.mem_of_getElem? (i := 351) rfl
set_option maxRecDepth 100000 in
theorem kw309 : Jvm.Cond.classLink "AccessGate" (76 : Nat) "AccessGate$Machine" ∈ lw_tbl := List.mem_of_getElem? (i := 354) rfl
set_option maxRecDepth 100000 in
theorem kw310 : Jvm.Cond.instantiable "AccessGate$Machine" (2 : Nat) ∈ lw_tbl := List.mem_of_getElem? (i := 355) rfl
set_option maxRecDepth 100000 in
theorem kw311 : Jvm.Cond.methodLinkNest "AccessGate" (78 : Nat) ({ cls := "AccessGate$Machine", name := "<init>", desc := "(II)V" } : Jvm.MethodName) "AccessGate" ∈ lw_tbl := List.mem_of_getElem? (i := 356) rfl
set_option maxRecDepth 100000 in
theorem kw312 : Jvm.Cond.instanceMethod ({ cls := "AccessGate$Machine", name := "<init>", desc := "(II)V" } : Jvm.MethodName) ∈ lw_tbl := List.mem_of_getElem? (i := 357) rfl
set_option maxRecDepth 100000 in
theorem kw313 : Jvm.Cond.code ({ cls := "AccessGate$Machine", name := "<init>", desc := "(II)V" } : Jvm.MethodName) prog_4_method_1_code (3 : Nat) (Option.none : Option Jvm.ClassFile.FieldType) ∈ lw_tbl := List.mem_of_getElem? (i := 358) rfl
set_option maxRecDepth 100000 in
theorem kw314 : Jvm.Cond.methodLink "AccessGate$Machine" (1 : Nat) ({ cls := "java/lang/Object", name := "<init>", desc := "()V" } : Jvm.MethodName) ∈ lw_tbl := List.mem_of_getElem? (i := 359) rfl
set_option maxRecDepth 100000 in
theorem kw315 : Jvm.Cond.fieldLink "AccessGate$Machine" (7 : Nat) "AccessGate$Machine" "number" "I" ∈ lw_tbl := List.mem_of_getElem? (i := 360) rfl
set_option maxRecDepth 100000 in
theorem kw316 : Jvm.Cond.fieldLinkNest "AccessGate$StepRecord" (30 : Nat) "AccessGate$Machine" "number" "I" "AccessGate" ∈ lw_tbl := List.mem_of_getElem? (i := 361) rfl
set_option maxRecDepth 100000 in
theorem kw317 : Jvm.Cond.fieldLink "AccessGate$Machine" (13 : Nat) "AccessGate$Machine" "label" "I" ∈ lw_tbl := List.mem_of_getElem? (i := 362) rfl
set_option maxRecDepth 100000 in
theorem kw318 : Jvm.Cond.fieldLinkNest "AccessGate$Person" (19 : Nat) "AccessGate$Machine" "label" "I" "AccessGate" ∈ lw_tbl := List.mem_of_getElem? (i := 363) rfl
set_option maxRecDepth 100000 in
theorem kw319 : Jvm.Cond.fieldLinkNest "AccessGate" (91 : Nat) "AccessGate$Machine" "label" "I" "AccessGate" ∈ lw_tbl := List.mem_of_getElem? (i := 364) rfl
set_option maxRecDepth 100000 in
theorem kw325 : Jvm.Cond.methodLink "AccessGateLaw" (100 : Nat) ({ cls := "AccessGateLaw", name := "setLabel", desc := "(LAccessGate;IIZ[J)I" } : Jvm.MethodName) ∈ lw_tbl := List.mem_of_getElem? (i := 370) rfl
set_option maxRecDepth 100000 in
theorem kw326 : Jvm.Cond.static ({ cls := "AccessGateLaw", name := "setLabel", desc := "(LAccessGate;IIZ[J)I" } : Jvm.MethodName) ∈ lw_tbl := List.mem_of_getElem? (i := 371) rfl
set_option maxRecDepth 100000 in
theorem kw327 : Jvm.Cond.codeWith ({ cls := "AccessGateLaw", name := "setLabel", desc := "(LAccessGate;IIZ[J)I" } : Jvm.MethodName) method_5_code (6 : Nat) (Option.some Jvm.ClassFile.FieldType.int) [((0 : Nat), (12 : Nat), (15 : Nat), (24 : Nat)), ((0 : Nat), (12 : Nat), (19 : Nat), (13 : Nat))] ∈ lw_tbl := List.mem_of_getElem? (i := 372) rfl
set_option maxRecDepth 100000 in
theorem kw328 : Jvm.Cond.classLink "AccessGateLaw" (24 : Nat) "java/lang/IndexOutOfBoundsException" ∈ lw_tbl := List.mem_of_getElem? (i := 373) rfl
set_option maxRecDepth 100000 in
theorem kw329 : Jvm.Cond.methodLink "AccessGateLaw" (20 : Nat) ({ cls := "AccessGate", name := "setLabel", desc := "(IIZ)I" } : Jvm.MethodName) ∈ lw_tbl := List.mem_of_getElem? (i := 374) rfl
set_option maxRecDepth 100000 in
theorem kw330 : Jvm.Cond.instanceMethod ({ cls := "AccessGate", name := "setLabel", desc := "(IIZ)I" } : Jvm.MethodName) ∈ lw_tbl := List.mem_of_getElem? (i := 375) rfl
set_option maxRecDepth 100000 in
theorem kw331 : Jvm.Cond.selects "AccessGate" ({ cls := "AccessGate", name := "setLabel", desc := "(IIZ)I" } : Jvm.MethodName) ({ cls := "AccessGate", name := "setLabel", desc := "(IIZ)I" } : Jvm.MethodName) ∈ lw_tbl := List.mem_of_getElem? (i := 376) rfl
set_option maxRecDepth 100000 in
theorem kw332 : Jvm.Cond.code ({ cls := "AccessGate", name := "setLabel", desc := "(IIZ)I" } : Jvm.MethodName) prog_1_method_4_code (7 : Nat) (Option.some Jvm.ClassFile.FieldType.int) ∈ lw_tbl := List.mem_of_getElem? (i := 377) rfl
set_option maxRecDepth 100000 in
theorem kw333 : Jvm.Cond.methodLink "AccessGate" (79 : Nat) ({ cls := "AccessGate", name := "personAt", desc := "(I)LAccessGate$Person;" } : Jvm.MethodName) ∈ lw_tbl := List.mem_of_getElem? (i := 378) rfl
set_option maxRecDepth 100000 in
theorem kw335 : Jvm.Cond.instanceMethod ({ cls := "AccessGate", name := "personAt", desc := "(I)LAccessGate$Person;" } : Jvm.MethodName) ∈ lw_tbl := List.mem_of_getElem? (i := 380) rfl
set_option maxRecDepth 100000 in
theorem kw336 : Jvm.Cond.code ({ cls := "AccessGate", name := "personAt", desc := "(I)LAccessGate$Person;" } : Jvm.MethodName) prog_1_method_25_code (2 : Nat) (Option.some (Jvm.ClassFile.FieldType.object "AccessGate$Person")) ∈ lw_tbl := List.mem_of_getElem? (i := 381) rfl
set_option maxRecDepth 100000 in
theorem kw337 : Jvm.Cond.classLink "AccessGate" (255 : Nat) "java/lang/IndexOutOfBoundsException" ∈ lw_tbl := List.mem_of_getElem? (i := 382) rfl
set_option maxRecDepth 100000 in
theorem kw338 : Jvm.Cond.instantiable "java/lang/IndexOutOfBoundsException" (6 : Nat) ∈ lw_tbl := List.mem_of_getElem? (i := 383) rfl
set_option maxRecDepth 100000 in
theorem kw339 : Jvm.Cond.castable "java/lang/IndexOutOfBoundsException" "java/lang/IndexOutOfBoundsException" ∈ lw_tbl := List.mem_of_getElem? (i := 384) rfl
set_option maxRecDepth 100000 in
theorem kw340 : Jvm.Cond.selects "java/lang/IndexOutOfBoundsException" ({ cls := "java/lang/Throwable", name := "fillInStackTrace", desc := "(I)Ljava/lang/Throwable;" } : Jvm.MethodName) ({ cls := "java/lang/Throwable", name := "fillInStackTrace", desc := "(I)Ljava/lang/Throwable;" } : Jvm.MethodName) ∈ lw_tbl := List.mem_of_getElem? (i := 385) rfl
set_option maxRecDepth 100000 in
theorem kw347 : Jvm.Cond.methodLink "AccessGate" (259 : Nat) ({ cls := "java/lang/IndexOutOfBoundsException", name := "<init>", desc := "(Ljava/lang/String;)V" } : Jvm.MethodName) ∈ lw_tbl := List.mem_of_getElem? (i := 392) rfl
set_option maxRecDepth 100000 in
theorem kw348 : Jvm.Cond.instanceMethod ({ cls := "java/lang/IndexOutOfBoundsException", name := "<init>", desc := "(Ljava/lang/String;)V" } : Jvm.MethodName) ∈ lw_tbl := List.mem_of_getElem? (i := 393) rfl
set_option maxRecDepth 100000 in
theorem kw349 : Jvm.Cond.code ({ cls := "java/lang/IndexOutOfBoundsException", name := "<init>", desc := "(Ljava/lang/String;)V" } : Jvm.MethodName) prog_16_method_2_code (2 : Nat) (Option.none : Option Jvm.ClassFile.FieldType) ∈ lw_tbl := List.mem_of_getElem? (i := 394) rfl
set_option maxRecDepth 100000 in
theorem kw350 : Jvm.Cond.methodLink "java/lang/IndexOutOfBoundsException" (7 : Nat) ({ cls := "java/lang/RuntimeException", name := "<init>", desc := "(Ljava/lang/String;)V" } : Jvm.MethodName) ∈ lw_tbl := List.mem_of_getElem? (i := 395) rfl
set_option maxRecDepth 100000 in
theorem kw353 : Jvm.Cond.methodLink "AccessGate" (87 : Nat) ({ cls := "java/util/ArrayList", name := "get", desc := "(I)Ljava/lang/Object;" } : Jvm.MethodName) ∈ lw_tbl := List.mem_of_getElem? (i := 398) rfl
set_option maxRecDepth 100000 in
theorem kw354 : Jvm.Cond.instanceMethod ({ cls := "java/util/ArrayList", name := "get", desc := "(I)Ljava/lang/Object;" } : Jvm.MethodName) ∈ lw_tbl := List.mem_of_getElem? (i := 399) rfl
set_option maxRecDepth 100000 in
theorem kw355 : Jvm.Cond.selects "java/util/ArrayList" ({ cls := "java/util/ArrayList", name := "get", desc := "(I)Ljava/lang/Object;" } : Jvm.MethodName) ({ cls := "java/util/ArrayList", name := "get", desc := "(I)Ljava/lang/Object;" } : Jvm.MethodName) ∈ lw_tbl := List.mem_of_getElem? (i := 400) rfl
set_option maxRecDepth 100000 in
theorem kw356 : Jvm.Cond.code ({ cls := "java/util/ArrayList", name := "get", desc := "(I)Ljava/lang/Object;" } : Jvm.MethodName) prog_25_method_20_code (2 : Nat) (Option.some (Jvm.ClassFile.FieldType.object "java/lang/Object")) ∈ lw_tbl := List.mem_of_getElem? (i := 401) rfl
set_option maxRecDepth 100000 in
theorem kw357 : Jvm.Cond.methodLink "java/util/ArrayList" (118 : Nat) ({ cls := "java/util/Objects", name := "checkIndex", desc := "(II)I" } : Jvm.MethodName) ∈ lw_tbl := List.mem_of_getElem? (i := 402) rfl
set_option maxRecDepth 100000 in
theorem kw358 : Jvm.Cond.static ({ cls := "java/util/Objects", name := "checkIndex", desc := "(II)I" } : Jvm.MethodName) ∈ lw_tbl := List.mem_of_getElem? (i := 403) rfl
set_option maxRecDepth 100000 in
theorem kw359 : Jvm.Cond.code ({ cls := "java/util/Objects", name := "checkIndex", desc := "(II)I" } : Jvm.MethodName) prog_29_method_17_code (2 : Nat) (Option.some Jvm.ClassFile.FieldType.int) ∈ lw_tbl := List.mem_of_getElem? (i := 404) rfl
set_option maxRecDepth 100000 in
theorem kw360 : Jvm.Cond.methodLink "java/util/Objects" (105 : Nat) ({ cls := "jdk/internal/util/Preconditions", name := "checkIndex", desc := "(IILjava/util/function/BiFunction;)I" } : Jvm.MethodName) ∈ lw_tbl := List.mem_of_getElem? (i := 405) rfl
set_option maxRecDepth 100000 in
theorem kw361 : Jvm.Cond.static ({ cls := "jdk/internal/util/Preconditions", name := "checkIndex", desc := "(IILjava/util/function/BiFunction;)I" } : Jvm.MethodName) ∈ lw_tbl := List.mem_of_getElem? (i := 406) rfl
set_option maxRecDepth 100000 in
theorem kw362 : Jvm.Cond.code ({ cls := "jdk/internal/util/Preconditions", name := "checkIndex", desc := "(IILjava/util/function/BiFunction;)I" } : Jvm.MethodName) prog_33_method_11_code (3 : Nat) (Option.some Jvm.ClassFile.FieldType.int) ∈ lw_tbl := List.mem_of_getElem? (i := 407) rfl
set_option maxRecDepth 100000 in
theorem kw363 : Jvm.Cond.methodLink "java/util/ArrayList" (123 : Nat) ({ cls := "java/util/ArrayList", name := "elementData", desc := "(I)Ljava/lang/Object;" } : Jvm.MethodName) ∈ lw_tbl := List.mem_of_getElem? (i := 408) rfl
set_option maxRecDepth 100000 in
theorem kw364 : Jvm.Cond.instanceMethod ({ cls := "java/util/ArrayList", name := "elementData", desc := "(I)Ljava/lang/Object;" } : Jvm.MethodName) ∈ lw_tbl := List.mem_of_getElem? (i := 409) rfl
set_option maxRecDepth 100000 in
theorem kw365 : Jvm.Cond.selects "java/util/ArrayList" ({ cls := "java/util/ArrayList", name := "elementData", desc := "(I)Ljava/lang/Object;" } : Jvm.MethodName) ({ cls := "java/util/ArrayList", name := "elementData", desc := "(I)Ljava/lang/Object;" } : Jvm.MethodName) ∈ lw_tbl := List.mem_of_getElem? (i := 410) rfl
set_option maxRecDepth 100000 in
theorem kw366 : Jvm.Cond.code ({ cls := "java/util/ArrayList", name := "elementData", desc := "(I)Ljava/lang/Object;" } : Jvm.MethodName) prog_25_method_18_code (2 : Nat) (Option.some (Jvm.ClassFile.FieldType.object "java/lang/Object")) ∈ lw_tbl := List.mem_of_getElem? (i := 411) rfl
set_option maxRecDepth 100000 in
theorem kw367 : Jvm.Cond.methodLinkNest "AccessGate" (83 : Nat) ({ cls := "AccessGate$Person", name := "keepLabel", desc := "(IZ)V" } : Jvm.MethodName) "AccessGate" ∈ lw_tbl := List.mem_of_getElem? (i := 412) rfl
set_option maxRecDepth 100000 in
theorem kw369 : Jvm.Cond.instanceMethod ({ cls := "AccessGate$Person", name := "keepLabel", desc := "(IZ)V" } : Jvm.MethodName) ∈ lw_tbl := List.mem_of_getElem? (i := 414) rfl
set_option maxRecDepth 100000 in
theorem kw370 : Jvm.Cond.code ({ cls := "AccessGate$Person", name := "keepLabel", desc := "(IZ)V" } : Jvm.MethodName) prog_5_method_3_code (4 : Nat) (Option.none : Option Jvm.ClassFile.FieldType) ∈ lw_tbl := List.mem_of_getElem? (i := 415) rfl
set_option maxRecDepth 100000 in
theorem kw371 : Jvm.Cond.methodLink "AccessGate" (94 : Nat) ({ cls := "AccessGate", name := "endRights", desc := "(LAccessGate$Person;LAccessGate$Machine;)V" } : Jvm.MethodName) ∈ lw_tbl := List.mem_of_getElem? (i := 416) rfl
set_option maxRecDepth 100000 in
theorem kw373 : Jvm.Cond.instanceMethod ({ cls := "AccessGate", name := "endRights", desc := "(LAccessGate$Person;LAccessGate$Machine;)V" } : Jvm.MethodName) ∈ lw_tbl := List.mem_of_getElem? (i := 418) rfl
set_option maxRecDepth 100000 in
theorem kw374 : Jvm.Cond.code ({ cls := "AccessGate", name := "endRights", desc := "(LAccessGate$Person;LAccessGate$Machine;)V" } : Jvm.MethodName) prog_1_method_38_code (5 : Nat) (Option.none : Option Jvm.ClassFile.FieldType) ∈ lw_tbl := List.mem_of_getElem? (i := 419) rfl
set_option maxRecDepth 100000 in
theorem kw375 : Jvm.Cond.classLink "AccessGate" (145 : Nat) "AccessGate$Right" ∈ lw_tbl := List.mem_of_getElem? (i := 420) rfl
set_option maxRecDepth 100000 in
theorem kw376 : Jvm.Cond.methodLinkNest "AccessGate" (293 : Nat) ({ cls := "AccessGate$Right", name := "holdsAt", desc := "(I)Z" } : Jvm.MethodName) "AccessGate" ∈ lw_tbl := List.mem_of_getElem? (i := 421) rfl
set_option maxRecDepth 100000 in
theorem kw378 : Jvm.Cond.instanceMethod ({ cls := "AccessGate$Right", name := "holdsAt", desc := "(I)Z" } : Jvm.MethodName) ∈ lw_tbl := List.mem_of_getElem? (i := 423) rfl
set_option maxRecDepth 100000 in
theorem kw379 : Jvm.Cond.instantiable "AccessGate$Right" (4 : Nat) ∈ lw_tbl := List.mem_of_getElem? (i := 424) rfl
set_option maxRecDepth 100000 in
theorem kw380 : Jvm.Cond.code ({ cls := "AccessGate$Right", name := "holdsAt", desc := "(I)Z" } : Jvm.MethodName) prog_6_method_2_code (2 : Nat) (Option.some Jvm.ClassFile.FieldType.boolean) ∈ lw_tbl := List.mem_of_getElem? (i := 425) rfl
set_option maxRecDepth 100000 in
theorem kw381 : Jvm.Cond.methodLink "AccessGate" (98 : Nat) ({ cls := "AccessGate", name := "denyWaitingAsks", desc := "(LAccessGate$Person;LAccessGate$Machine;)V" } : Jvm.MethodName) ∈ lw_tbl := List.mem_of_getElem? (i := 426) rfl
set_option maxRecDepth 100000 in
theorem kw383 : Jvm.Cond.instanceMethod ({ cls := "AccessGate", name := "denyWaitingAsks", desc := "(LAccessGate$Person;LAccessGate$Machine;)V" } : Jvm.MethodName) ∈ lw_tbl := List.mem_of_getElem? (i := 428) rfl
set_option maxRecDepth 100000 in
theorem kw384 : Jvm.Cond.code ({ cls := "AccessGate", name := "denyWaitingAsks", desc := "(LAccessGate$Person;LAccessGate$Machine;)V" } : Jvm.MethodName) prog_1_method_39_code (5 : Nat) (Option.none : Option Jvm.ClassFile.FieldType) ∈ lw_tbl := List.mem_of_getElem? (i := 429) rfl
set_option maxRecDepth 100000 in
theorem kw385 : Jvm.Cond.classLink "AccessGate" (116 : Nat) "AccessGate$Ask" ∈ lw_tbl := List.mem_of_getElem? (i := 430) rfl
set_option maxRecDepth 100000 in
theorem kw386 : Jvm.Cond.methodLinkNest "AccessGate" (154 : Nat) ({ cls := "AccessGate$Ask", name := "stateAt", desc := "(I)I" } : Jvm.MethodName) "AccessGate" ∈ lw_tbl := List.mem_of_getElem? (i := 431) rfl
set_option maxRecDepth 100000 in
theorem kw388 : Jvm.Cond.instanceMethod ({ cls := "AccessGate$Ask", name := "stateAt", desc := "(I)I" } : Jvm.MethodName) ∈ lw_tbl := List.mem_of_getElem? (i := 433) rfl
set_option maxRecDepth 100000 in
theorem kw389 : Jvm.Cond.instantiable "AccessGate$Ask" (6 : Nat) ∈ lw_tbl := List.mem_of_getElem? (i := 434) rfl
set_option maxRecDepth 100000 in
theorem kw390 : Jvm.Cond.code ({ cls := "AccessGate$Ask", name := "stateAt", desc := "(I)I" } : Jvm.MethodName) prog_2_method_2_code (2 : Nat) (Option.some Jvm.ClassFile.FieldType.int) ∈ lw_tbl := List.mem_of_getElem? (i := 435) rfl
set_option maxRecDepth 100000 in
theorem kw391 : Jvm.Cond.methodLink "AccessGate" (101 : Nat) ({ cls := "AccessGate", name := "closeEndedSessions", desc := "()I" } : Jvm.MethodName) ∈ lw_tbl := List.mem_of_getElem? (i := 436) rfl
set_option maxRecDepth 100000 in
theorem kw393 : Jvm.Cond.instanceMethod ({ cls := "AccessGate", name := "closeEndedSessions", desc := "()I" } : Jvm.MethodName) ∈ lw_tbl := List.mem_of_getElem? (i := 438) rfl
set_option maxRecDepth 100000 in
theorem kw394 : Jvm.Cond.code ({ cls := "AccessGate", name := "closeEndedSessions", desc := "()I" } : Jvm.MethodName) prog_1_method_40_code (4 : Nat) (Option.some Jvm.ClassFile.FieldType.int) ∈ lw_tbl := List.mem_of_getElem? (i := 439) rfl
set_option maxRecDepth 100000 in
theorem kw395 : Jvm.Cond.classLink "AccessGate" (196 : Nat) "AccessGate$Session" ∈ lw_tbl := List.mem_of_getElem? (i := 440) rfl
set_option maxRecDepth 100000 in
theorem kw396 : Jvm.Cond.methodLinkNest "AccessGate" (299 : Nat) ({ cls := "AccessGate$Session", name := "restsAt", desc := "(I)Z" } : Jvm.MethodName) "AccessGate" ∈ lw_tbl := List.mem_of_getElem? (i := 441) rfl
set_option maxRecDepth 100000 in
theorem kw398 : Jvm.Cond.instanceMethod ({ cls := "AccessGate$Session", name := "restsAt", desc := "(I)Z" } : Jvm.MethodName) ∈ lw_tbl := List.mem_of_getElem? (i := 443) rfl
set_option maxRecDepth 100000 in
theorem kw399 : Jvm.Cond.instantiable "AccessGate$Session" (6 : Nat) ∈ lw_tbl := List.mem_of_getElem? (i := 444) rfl
set_option maxRecDepth 100000 in
theorem kw400 : Jvm.Cond.code ({ cls := "AccessGate$Session", name := "restsAt", desc := "(I)Z" } : Jvm.MethodName) prog_7_method_3_code (2 : Nat) (Option.some Jvm.ClassFile.FieldType.boolean) ∈ lw_tbl := List.mem_of_getElem? (i := 445) rfl
set_option maxRecDepth 100000 in
theorem kw401 : Jvm.Cond.methodLink "AccessGate" (190 : Nat) ({ cls := "AccessGate", name := "rightHolds", desc := "(LAccessGate$Person;LAccessGate$Machine;I)Z" } : Jvm.MethodName) ∈ lw_tbl := List.mem_of_getElem? (i := 446) rfl
set_option maxRecDepth 100000 in
theorem kw403 : Jvm.Cond.instanceMethod ({ cls := "AccessGate", name := "rightHolds", desc := "(LAccessGate$Person;LAccessGate$Machine;I)Z" } : Jvm.MethodName) ∈ lw_tbl := List.mem_of_getElem? (i := 448) rfl
set_option maxRecDepth 100000 in
theorem kw404 : Jvm.Cond.code ({ cls := "AccessGate", name := "rightHolds", desc := "(LAccessGate$Person;LAccessGate$Machine;I)Z" } : Jvm.MethodName) prog_1_method_37_code (6 : Nat) (Option.some Jvm.ClassFile.FieldType.boolean) ∈ lw_tbl := List.mem_of_getElem? (i := 449) rfl
set_option maxRecDepth 100000 in
theorem kw405 : Jvm.Cond.methodLink "AccessGate" (234 : Nat) ({ cls := "AccessGate", name := "endSession", desc := "(LAccessGate$Session;)V" } : Jvm.MethodName) ∈ lw_tbl := List.mem_of_getElem? (i := 450) rfl
set_option maxRecDepth 100000 in
theorem kw407 : Jvm.Cond.instanceMethod ({ cls := "AccessGate", name := "endSession", desc := "(LAccessGate$Session;)V" } : Jvm.MethodName) ∈ lw_tbl := List.mem_of_getElem? (i := 452) rfl
set_option maxRecDepth 100000 in
theorem kw408 : Jvm.Cond.code ({ cls := "AccessGate", name := "endSession", desc := "(LAccessGate$Session;)V" } : Jvm.MethodName) prog_1_method_41_code (2 : Nat) (Option.none : Option Jvm.ClassFile.FieldType) ∈ lw_tbl := List.mem_of_getElem? (i := 453) rfl
set_option maxRecDepth 100000 in
theorem kw409 : Jvm.Cond.methodLinkNest "AccessGate" (121 : Nat) ({ cls := "AccessGate$StepRecord", name := "add", desc := "(ILAccessGate$Person;LAccessGate$Machine;I)V" } : Jvm.MethodName) "AccessGate" ∈ lw_tbl := List.mem_of_getElem? (i := 454) rfl
set_option maxRecDepth 100000 in
theorem kw411 : Jvm.Cond.instanceMethod ({ cls := "AccessGate$StepRecord", name := "add", desc := "(ILAccessGate$Person;LAccessGate$Machine;I)V" } : Jvm.MethodName) ∈ lw_tbl := List.mem_of_getElem? (i := 456) rfl
set_option maxRecDepth 100000 in
theorem kw412 : Jvm.Cond.code ({ cls := "AccessGate$StepRecord", name := "add", desc := "(ILAccessGate$Person;LAccessGate$Machine;I)V" } : Jvm.MethodName) prog_8_method_2_code (5 : Nat) (Option.none : Option Jvm.ClassFile.FieldType) ∈ lw_tbl := List.mem_of_getElem? (i := 457) rfl
set_option maxRecDepth 100000 in
theorem kw413 : Jvm.Cond.constant "AccessGate$StepRecord" (33 : Nat) (1000003 : Int32) ∈ lw_tbl := List.mem_of_getElem? (i := 458) rfl
set_option maxRecDepth 100000 in
theorem kw414 : Jvm.Cond.methodLink "AccessGateLaw" (104 : Nat) ({ cls := "AccessGateLaw", name := "takeAway", desc := "(LAccessGate;II[J)I" } : Jvm.MethodName) ∈ lw_tbl := List.mem_of_getElem? (i := 459) rfl
set_option maxRecDepth 100000 in
theorem kw415 : Jvm.Cond.static ({ cls := "AccessGateLaw", name := "takeAway", desc := "(LAccessGate;II[J)I" } : Jvm.MethodName) ∈ lw_tbl := List.mem_of_getElem? (i := 460) rfl
set_option maxRecDepth 100000 in
theorem kw416 : Jvm.Cond.codeWith ({ cls := "AccessGateLaw", name := "takeAway", desc := "(LAccessGate;II[J)I" } : Jvm.MethodName) method_6_code (5 : Nat) (Option.some Jvm.ClassFile.FieldType.int) [((0 : Nat), (10 : Nat), (13 : Nat), (24 : Nat))] ∈ lw_tbl := List.mem_of_getElem? (i := 461) rfl
set_option maxRecDepth 100000 in
theorem kw417 : Jvm.Cond.methodLink "AccessGateLaw" (26 : Nat) ({ cls := "AccessGate", name := "takeAway", desc := "(II)I" } : Jvm.MethodName) ∈ lw_tbl := List.mem_of_getElem? (i := 462) rfl
set_option maxRecDepth 100000 in
theorem kw418 : Jvm.Cond.instanceMethod ({ cls := "AccessGate", name := "takeAway", desc := "(II)I" } : Jvm.MethodName) ∈ lw_tbl := List.mem_of_getElem? (i := 463) rfl
set_option maxRecDepth 100000 in
theorem kw419 : Jvm.Cond.selects "AccessGate" ({ cls := "AccessGate", name := "takeAway", desc := "(II)I" } : Jvm.MethodName) ({ cls := "AccessGate", name := "takeAway", desc := "(II)I" } : Jvm.MethodName) ∈ lw_tbl := List.mem_of_getElem? (i := 464) rfl
set_option maxRecDepth 100000 in
theorem kw420 : Jvm.Cond.code ({ cls := "AccessGate", name := "takeAway", desc := "(II)I" } : Jvm.MethodName) prog_1_method_5_code (5 : Nat) (Option.some Jvm.ClassFile.FieldType.int) ∈ lw_tbl := List.mem_of_getElem? (i := 465) rfl
set_option maxRecDepth 100000 in
theorem kw421 : Jvm.Cond.methodLink "AccessGate" (104 : Nat) ({ cls := "AccessGate", name := "machineAt", desc := "(I)LAccessGate$Machine;" } : Jvm.MethodName) ∈ lw_tbl := List.mem_of_getElem? (i := 466) rfl
set_option maxRecDepth 100000 in
theorem kw423 : Jvm.Cond.instanceMethod ({ cls := "AccessGate", name := "machineAt", desc := "(I)LAccessGate$Machine;" } : Jvm.MethodName) ∈ lw_tbl := List.mem_of_getElem? (i := 468) rfl
set_option maxRecDepth 100000 in
theorem kw424 : Jvm.Cond.code ({ cls := "AccessGate", name := "machineAt", desc := "(I)LAccessGate$Machine;" } : Jvm.MethodName) prog_1_method_26_code (2 : Nat) (Option.some (Jvm.ClassFile.FieldType.object "AccessGate$Machine")) ∈ lw_tbl := List.mem_of_getElem? (i := 469) rfl
set_option maxRecDepth 100000 in
theorem kw426 : Jvm.Cond.methodLink "AccessGateLaw" (108 : Nat) ({ cls := "AccessGateLaw", name := "ask", desc := "(LAccessGate;III[J)I" } : Jvm.MethodName) ∈ lw_tbl := List.mem_of_getElem? (i := 471) rfl
set_option maxRecDepth 100000 in
theorem kw427 : Jvm.Cond.static ({ cls := "AccessGateLaw", name := "ask", desc := "(LAccessGate;III[J)I" } : Jvm.MethodName) ∈ lw_tbl := List.mem_of_getElem? (i := 472) rfl
set_option maxRecDepth 100000 in
theorem kw428 : Jvm.Cond.codeWith ({ cls := "AccessGateLaw", name := "ask", desc := "(LAccessGate;III[J)I" } : Jvm.MethodName) method_7_code (6 : Nat) (Option.some Jvm.ClassFile.FieldType.int) [((0 : Nat), (12 : Nat), (15 : Nat), (24 : Nat)), ((0 : Nat), (12 : Nat), (19 : Nat), (13 : Nat)), ((0 : Nat), (12 : Nat), (23 : Nat), (15 : Nat))] ∈ lw_tbl := List.mem_of_getElem? (i := 473) rfl
set_option maxRecDepth 100000 in
theorem kw429 : Jvm.Cond.methodLink "AccessGateLaw" (30 : Nat) ({ cls := "AccessGate", name := "ask", desc := "(III)I" } : Jvm.MethodName) ∈ lw_tbl := List.mem_of_getElem? (i := 474) rfl
set_option maxRecDepth 100000 in
theorem kw430 : Jvm.Cond.instanceMethod ({ cls := "AccessGate", name := "ask", desc := "(III)I" } : Jvm.MethodName) ∈ lw_tbl := List.mem_of_getElem? (i := 475) rfl
set_option maxRecDepth 100000 in
theorem kw431 : Jvm.Cond.selects "AccessGate" ({ cls := "AccessGate", name := "ask", desc := "(III)I" } : Jvm.MethodName) ({ cls := "AccessGate", name := "ask", desc := "(III)I" } : Jvm.MethodName) ∈ lw_tbl := List.mem_of_getElem? (i := 476) rfl
set_option maxRecDepth 100000 in
theorem kw432 : Jvm.Cond.code ({ cls := "AccessGate", name := "ask", desc := "(III)I" } : Jvm.MethodName) prog_1_method_6_code (7 : Nat) (Option.some Jvm.ClassFile.FieldType.int) ∈ lw_tbl := List.mem_of_getElem? (i := 477) rfl
set_option maxRecDepth 100000 in
theorem kw434 : Jvm.Cond.methodLink "AccessGate" (110 : Nat) ({ cls := "AccessGate", name := "requireMayAskOrEnter", desc := "(LAccessGate$Person;LAccessGate$Machine;)V" } : Jvm.MethodName) ∈ lw_tbl := List.mem_of_getElem? (i := 479) rfl
set_option maxRecDepth 100000 in
theorem kw436 : Jvm.Cond.instanceMethod ({ cls := "AccessGate", name := "requireMayAskOrEnter", desc := "(LAccessGate$Person;LAccessGate$Machine;)V" } : Jvm.MethodName) ∈ lw_tbl := List.mem_of_getElem? (i := 481) rfl
set_option maxRecDepth 100000 in
theorem kw437 : Jvm.Cond.code ({ cls := "AccessGate", name := "requireMayAskOrEnter", desc := "(LAccessGate$Person;LAccessGate$Machine;)V" } : Jvm.MethodName) prog_1_method_34_code (3 : Nat) (Option.none : Option Jvm.ClassFile.FieldType) ∈ lw_tbl := List.mem_of_getElem? (i := 482) rfl
set_option maxRecDepth 100000 in
theorem kw438 : Jvm.Cond.methodLinkNest "AccessGate" (276 : Nat) ({ cls := "AccessGate$Person", name := "hasLabel", desc := "(I)Z" } : Jvm.MethodName) "AccessGate" ∈ lw_tbl := List.mem_of_getElem? (i := 483) rfl
set_option maxRecDepth 100000 in
theorem kw440 : Jvm.Cond.instanceMethod ({ cls := "AccessGate$Person", name := "hasLabel", desc := "(I)Z" } : Jvm.MethodName) ∈ lw_tbl := List.mem_of_getElem? (i := 485) rfl
set_option maxRecDepth 100000 in
theorem kw441 : Jvm.Cond.code ({ cls := "AccessGate$Person", name := "hasLabel", desc := "(I)Z" } : Jvm.MethodName) prog_5_method_2_code (2 : Nat) (Option.some Jvm.ClassFile.FieldType.boolean) ∈ lw_tbl := List.mem_of_getElem? (i := 486) rfl
set_option maxRecDepth 100000 in
theorem kw443 : Jvm.Cond.methodLink "AccessGate" (183 : Nat) ({ cls := "AccessGate", name := "countOverdue", desc := "(LAccessGate$Person;)I" } : Jvm.MethodName) ∈ lw_tbl := List.mem_of_getElem? (i := 488) rfl
set_option maxRecDepth 100000 in
theorem kw445 : Jvm.Cond.instanceMethod ({ cls := "AccessGate", name := "countOverdue", desc := "(LAccessGate$Person;)I" } : Jvm.MethodName) ∈ lw_tbl := List.mem_of_getElem? (i := 490) rfl
set_option maxRecDepth 100000 in
theorem kw446 : Jvm.Cond.code ({ cls := "AccessGate", name := "countOverdue", desc := "(LAccessGate$Person;)I" } : Jvm.MethodName) prog_1_method_36_code (5 : Nat) (Option.some Jvm.ClassFile.FieldType.int) ∈ lw_tbl := List.mem_of_getElem? (i := 491) rfl
set_option maxRecDepth 100000 in
theorem kw447 : Jvm.Cond.classLink "AccessGate" (158 : Nat) "AccessGate$Entry" ∈ lw_tbl := List.mem_of_getElem? (i := 492) rfl
set_option maxRecDepth 100000 in
theorem kw448 : Jvm.Cond.methodLinkNest "AccessGate" (288 : Nat) ({ cls := "AccessGate$Entry", name := "isOverdueAt", desc := "(I)Z" } : Jvm.MethodName) "AccessGate" ∈ lw_tbl := List.mem_of_getElem? (i := 493) rfl
set_option maxRecDepth 100000 in
theorem kw450 : Jvm.Cond.instanceMethod ({ cls := "AccessGate$Entry", name := "isOverdueAt", desc := "(I)Z" } : Jvm.MethodName) ∈ lw_tbl := List.mem_of_getElem? (i := 495) rfl
set_option maxRecDepth 100000 in
theorem kw451 : Jvm.Cond.instantiable "AccessGate$Entry" (4 : Nat) ∈ lw_tbl := List.mem_of_getElem? (i := 496) rfl
set_option maxRecDepth 100000 in
theorem kw452 : Jvm.Cond.code ({ cls := "AccessGate$Entry", name := "isOverdueAt", desc := "(I)Z" } : Jvm.MethodName) prog_3_method_2_code (2 : Nat) (Option.some Jvm.ClassFile.FieldType.boolean) ∈ lw_tbl := List.mem_of_getElem? (i := 497) rfl
set_option maxRecDepth 100000 in
theorem kw454 : Jvm.Cond.methodLink "AccessGate" (113 : Nat) ({ cls := "AccessGate", name := "requireRoomFor", desc := "(I)V" } : Jvm.MethodName) ∈ lw_tbl := List.mem_of_getElem? (i := 499) rfl
set_option maxRecDepth 100000 in
theorem kw455 : Jvm.Cond.static ({ cls := "AccessGate", name := "requireRoomFor", desc := "(I)V" } : Jvm.MethodName) ∈ lw_tbl := List.mem_of_getElem? (i := 500) rfl
set_option maxRecDepth 100000 in
theorem kw456 : Jvm.Cond.code ({ cls := "AccessGate", name := "requireRoomFor", desc := "(I)V" } : Jvm.MethodName) prog_1_method_32_code (1 : Nat) (Option.none : Option Jvm.ClassFile.FieldType) ∈ lw_tbl := List.mem_of_getElem? (i := 501) rfl
set_option maxRecDepth 100000 in
theorem kw458 : Jvm.Cond.methodLinkNest "AccessGate" (118 : Nat) ({ cls := "AccessGate$Ask", name := "<init>", desc := "(LAccessGate$Person;LAccessGate$Machine;II)V" } : Jvm.MethodName) "AccessGate" ∈ lw_tbl := List.mem_of_getElem? (i := 503) rfl
set_option maxRecDepth 100000 in
theorem kw459 : Jvm.Cond.instanceMethod ({ cls := "AccessGate$Ask", name := "<init>", desc := "(LAccessGate$Person;LAccessGate$Machine;II)V" } : Jvm.MethodName) ∈ lw_tbl := List.mem_of_getElem? (i := 504) rfl
set_option maxRecDepth 100000 in
theorem kw460 : Jvm.Cond.code ({ cls := "AccessGate$Ask", name := "<init>", desc := "(LAccessGate$Person;LAccessGate$Machine;II)V" } : Jvm.MethodName) prog_2_method_1_code (5 : Nat) (Option.none : Option Jvm.ClassFile.FieldType) ∈ lw_tbl := List.mem_of_getElem? (i := 505) rfl
set_option maxRecDepth 100000 in
theorem kw461 : Jvm.Cond.methodLink "AccessGate$Ask" (3 : Nat) ({ cls := "java/lang/Object", name := "<init>", desc := "()V" } : Jvm.MethodName) ∈ lw_tbl := List.mem_of_getElem? (i := 506) rfl
set_option maxRecDepth 100000 in
theorem kw462 : Jvm.Cond.fieldLink "AccessGate$Ask" (19 : Nat) "AccessGate$Ask" "who" "LAccessGate$Person;" ∈ lw_tbl := List.mem_of_getElem? (i := 507) rfl
set_option maxRecDepth 100000 in
theorem kw463 : Jvm.Cond.fieldLinkNest "AccessGate" (147 : Nat) "AccessGate$Ask" "who" "LAccessGate$Person;" "AccessGate" ∈ lw_tbl := List.mem_of_getElem? (i := 508) rfl
set_option maxRecDepth 100000 in
theorem kw464 : Jvm.Cond.fieldLink "AccessGate$Ask" (22 : Nat) "AccessGate$Ask" "where" "LAccessGate$Machine;" ∈ lw_tbl := List.mem_of_getElem? (i := 509) rfl
set_option maxRecDepth 100000 in
theorem kw465 : Jvm.Cond.fieldLinkNest "AccessGate" (138 : Nat) "AccessGate$Ask" "where" "LAccessGate$Machine;" "AccessGate" ∈ lw_tbl := List.mem_of_getElem? (i := 510) rfl
set_option maxRecDepth 100000 in
theorem kw466 : Jvm.Cond.fieldLink "AccessGate$Ask" (26 : Nat) "AccessGate$Ask" "minutes" "I" ∈ lw_tbl := List.mem_of_getElem? (i := 511) rfl
set_option maxRecDepth 100000 in
theorem kw467 : Jvm.Cond.fieldLinkNest "AccessGate" (150 : Nat) "AccessGate$Ask" "minutes" "I" "AccessGate" ∈ lw_tbl := List.mem_of_getElem? (i := 512) rfl
set_option maxRecDepth 100000 in
theorem kw468 : Jvm.Cond.fieldLink "AccessGate$Ask" (29 : Nat) "AccessGate$Ask" "time" "I" ∈ lw_tbl := List.mem_of_getElem? (i := 513) rfl
set_option maxRecDepth 100000 in
theorem kw469 : Jvm.Cond.fieldLink "AccessGate$Ask" (9 : Nat) "AccessGate$Ask" "firstApprover" "LAccessGate$Person;" ∈ lw_tbl := List.mem_of_getElem? (i := 514) rfl
set_option maxRecDepth 100000 in
theorem kw470 : Jvm.Cond.fieldLinkNest "AccessGate" (132 : Nat) "AccessGate$Ask" "firstApprover" "LAccessGate$Person;" "AccessGate" ∈ lw_tbl := List.mem_of_getElem? (i := 515) rfl
set_option maxRecDepth 100000 in
theorem kw471 : Jvm.Cond.fieldLink "AccessGate$Ask" (15 : Nat) "AccessGate$Ask" "settled" "I" ∈ lw_tbl := List.mem_of_getElem? (i := 516) rfl
set_option maxRecDepth 100000 in
theorem kw472 : Jvm.Cond.fieldLinkNest "AccessGate" (142 : Nat) "AccessGate$Ask" "settled" "I" "AccessGate" ∈ lw_tbl := List.mem_of_getElem? (i := 517) rfl
set_option maxRecDepth 100000 in
theorem kw486 : Jvm.Cond.methodLink "AccessGateLaw" (112 : Nat) ({ cls := "AccessGateLaw", name := "approve", desc := "(LAccessGate;II[J)I" } : Jvm.MethodName) ∈ lw_tbl := List.mem_of_getElem? (i := 531) rfl
set_option maxRecDepth 100000 in
theorem kw487 : Jvm.Cond.static ({ cls := "AccessGateLaw", name := "approve", desc := "(LAccessGate;II[J)I" } : Jvm.MethodName) ∈ lw_tbl := List.mem_of_getElem? (i := 532) rfl
set_option maxRecDepth 100000 in
theorem kw488 : Jvm.Cond.codeWith ({ cls := "AccessGateLaw", name := "approve", desc := "(LAccessGate;II[J)I" } : Jvm.MethodName) method_8_code (5 : Nat) (Option.some Jvm.ClassFile.FieldType.int) [((0 : Nat), (17 : Nat), (20 : Nat), (24 : Nat)), ((0 : Nat), (17 : Nat), (24 : Nat), (15 : Nat))] ∈ lw_tbl := List.mem_of_getElem? (i := 533) rfl
set_option maxRecDepth 100000 in
theorem kw489 : Jvm.Cond.methodLink "AccessGateLaw" (34 : Nat) ({ cls := "AccessGate", name := "approve", desc := "(II)Z" } : Jvm.MethodName) ∈ lw_tbl := List.mem_of_getElem? (i := 534) rfl
set_option maxRecDepth 100000 in
theorem kw490 : Jvm.Cond.instanceMethod ({ cls := "AccessGate", name := "approve", desc := "(II)Z" } : Jvm.MethodName) ∈ lw_tbl := List.mem_of_getElem? (i := 535) rfl
set_option maxRecDepth 100000 in
theorem kw491 : Jvm.Cond.selects "AccessGate" ({ cls := "AccessGate", name := "approve", desc := "(II)Z" } : Jvm.MethodName) ({ cls := "AccessGate", name := "approve", desc := "(II)Z" } : Jvm.MethodName) ∈ lw_tbl := List.mem_of_getElem? (i := 536) rfl
set_option maxRecDepth 100000 in
theorem kw492 : Jvm.Cond.code ({ cls := "AccessGate", name := "approve", desc := "(II)Z" } : Jvm.MethodName) prog_1_method_7_code (5 : Nat) (Option.some Jvm.ClassFile.FieldType.boolean) ∈ lw_tbl := List.mem_of_getElem? (i := 537) rfl
set_option maxRecDepth 100000 in
theorem kw493 : Jvm.Cond.methodLink "AccessGate" (124 : Nat) ({ cls := "AccessGate", name := "askAt", desc := "(I)LAccessGate$Ask;" } : Jvm.MethodName) ∈ lw_tbl := List.mem_of_getElem? (i := 538) rfl
set_option maxRecDepth 100000 in
theorem kw495 : Jvm.Cond.instanceMethod ({ cls := "AccessGate", name := "askAt", desc := "(I)LAccessGate$Ask;" } : Jvm.MethodName) ∈ lw_tbl := List.mem_of_getElem? (i := 540) rfl
set_option maxRecDepth 100000 in
theorem kw496 : Jvm.Cond.code ({ cls := "AccessGate", name := "askAt", desc := "(I)LAccessGate$Ask;" } : Jvm.MethodName) prog_1_method_27_code (2 : Nat) (Option.some (Jvm.ClassFile.FieldType.object "AccessGate$Ask")) ∈ lw_tbl := List.mem_of_getElem? (i := 541) rfl
set_option maxRecDepth 100000 in
theorem kw498 : Jvm.Cond.methodLink "AccessGate" (128 : Nat) ({ cls := "AccessGate", name := "requireMayJudge", desc := "(LAccessGate$Ask;LAccessGate$Person;)V" } : Jvm.MethodName) ∈ lw_tbl := List.mem_of_getElem? (i := 543) rfl
set_option maxRecDepth 100000 in
theorem kw500 : Jvm.Cond.instanceMethod ({ cls := "AccessGate", name := "requireMayJudge", desc := "(LAccessGate$Ask;LAccessGate$Person;)V" } : Jvm.MethodName) ∈ lw_tbl := List.mem_of_getElem? (i := 545) rfl
set_option maxRecDepth 100000 in
theorem kw501 : Jvm.Cond.code ({ cls := "AccessGate", name := "requireMayJudge", desc := "(LAccessGate$Ask;LAccessGate$Person;)V" } : Jvm.MethodName) prog_1_method_35_code (3 : Nat) (Option.none : Option Jvm.ClassFile.FieldType) ∈ lw_tbl := List.mem_of_getElem? (i := 546) rfl
set_option maxRecDepth 100000 in
theorem kw503 : Jvm.Cond.methodLinkNest "AccessGate" (228 : Nat) ({ cls := "AccessGate$Person", name := "mayJudge", desc := "(LAccessGate$Person;LAccessGate$Machine;)Z" } : Jvm.MethodName) "AccessGate" ∈ lw_tbl := List.mem_of_getElem? (i := 548) rfl
set_option maxRecDepth 100000 in
theorem kw505 : Jvm.Cond.instanceMethod ({ cls := "AccessGate$Person", name := "mayJudge", desc := "(LAccessGate$Person;LAccessGate$Machine;)Z" } : Jvm.MethodName) ∈ lw_tbl := List.mem_of_getElem? (i := 550) rfl
set_option maxRecDepth 100000 in
theorem kw506 : Jvm.Cond.code ({ cls := "AccessGate$Person", name := "mayJudge", desc := "(LAccessGate$Person;LAccessGate$Machine;)Z" } : Jvm.MethodName) prog_5_method_4_code (3 : Nat) (Option.some Jvm.ClassFile.FieldType.boolean) ∈ lw_tbl := List.mem_of_getElem? (i := 551) rfl
set_option maxRecDepth 100000 in
theorem kw507 : Jvm.Cond.methodLink "AccessGate$Person" (24 : Nat) ({ cls := "AccessGate$Person", name := "hasLabel", desc := "(I)Z" } : Jvm.MethodName) ∈ lw_tbl := List.mem_of_getElem? (i := 552) rfl
set_option maxRecDepth 100000 in
theorem kw510 : Jvm.Cond.methodLinkNest "AccessGate" (153 : Nat) ({ cls := "AccessGate$Right", name := "<init>", desc := "(LAccessGate$Person;LAccessGate$Machine;II)V" } : Jvm.MethodName) "AccessGate" ∈ lw_tbl := List.mem_of_getElem? (i := 555) rfl
set_option maxRecDepth 100000 in
theorem kw511 : Jvm.Cond.instanceMethod ({ cls := "AccessGate$Right", name := "<init>", desc := "(LAccessGate$Person;LAccessGate$Machine;II)V" } : Jvm.MethodName) ∈ lw_tbl := List.mem_of_getElem? (i := 556) rfl
set_option maxRecDepth 100000 in
theorem kw512 : Jvm.Cond.code ({ cls := "AccessGate$Right", name := "<init>", desc := "(LAccessGate$Person;LAccessGate$Machine;II)V" } : Jvm.MethodName) prog_6_method_1_code (5 : Nat) (Option.none : Option Jvm.ClassFile.FieldType) ∈ lw_tbl := List.mem_of_getElem? (i := 557) rfl
set_option maxRecDepth 100000 in
theorem kw513 : Jvm.Cond.methodLink "AccessGate$Right" (1 : Nat) ({ cls := "java/lang/Object", name := "<init>", desc := "()V" } : Jvm.MethodName) ∈ lw_tbl := List.mem_of_getElem? (i := 558) rfl
set_option maxRecDepth 100000 in
theorem kw514 : Jvm.Cond.fieldLink "AccessGate$Right" (7 : Nat) "AccessGate$Right" "who" "LAccessGate$Person;" ∈ lw_tbl := List.mem_of_getElem? (i := 559) rfl
set_option maxRecDepth 100000 in
theorem kw515 : Jvm.Cond.fieldLinkNest "AccessGate" (291 : Nat) "AccessGate$Right" "who" "LAccessGate$Person;" "AccessGate" ∈ lw_tbl := List.mem_of_getElem? (i := 560) rfl
set_option maxRecDepth 100000 in
theorem kw516 : Jvm.Cond.fieldLink "AccessGate$Right" (13 : Nat) "AccessGate$Right" "where" "LAccessGate$Machine;" ∈ lw_tbl := List.mem_of_getElem? (i := 561) rfl
set_option maxRecDepth 100000 in
theorem kw517 : Jvm.Cond.fieldLinkNest "AccessGate" (292 : Nat) "AccessGate$Right" "where" "LAccessGate$Machine;" "AccessGate" ∈ lw_tbl := List.mem_of_getElem? (i := 562) rfl
set_option maxRecDepth 100000 in
theorem kw518 : Jvm.Cond.fieldLink "AccessGate$Right" (17 : Nat) "AccessGate$Right" "begin" "I" ∈ lw_tbl := List.mem_of_getElem? (i := 563) rfl
set_option maxRecDepth 100000 in
theorem kw519 : Jvm.Cond.fieldLink "AccessGate$Right" (21 : Nat) "AccessGate$Right" "end" "I" ∈ lw_tbl := List.mem_of_getElem? (i := 564) rfl
set_option maxRecDepth 100000 in
theorem kw520 : Jvm.Cond.fieldLinkNest "AccessGate" (296 : Nat) "AccessGate$Right" "end" "I" "AccessGate" ∈ lw_tbl := List.mem_of_getElem? (i := 565) rfl
set_option maxRecDepth 100000 in
theorem kw530 : Jvm.Cond.methodLink "AccessGateLaw" (115 : Nat) ({ cls := "AccessGateLaw", name := "deny", desc := "(LAccessGate;II)I" } : Jvm.MethodName) ∈ lw_tbl := List.mem_of_getElem? (i := 575) rfl
set_option maxRecDepth 100000 in
theorem kw531 : Jvm.Cond.static ({ cls := "AccessGateLaw", name := "deny", desc := "(LAccessGate;II)I" } : Jvm.MethodName) ∈ lw_tbl := List.mem_of_getElem? (i := 576) rfl
set_option maxRecDepth 100000 in
theorem kw532 : Jvm.Cond.codeWith ({ cls := "AccessGateLaw", name := "deny", desc := "(LAccessGate;II)I" } : Jvm.MethodName) method_9_code (4 : Nat) (Option.some Jvm.ClassFile.FieldType.int) [((0 : Nat), (6 : Nat), (9 : Nat), (24 : Nat)), ((0 : Nat), (6 : Nat), (12 : Nat), (15 : Nat))] ∈ lw_tbl := List.mem_of_getElem? (i := 577) rfl
set_option maxRecDepth 100000 in
theorem kw533 : Jvm.Cond.methodLink "AccessGateLaw" (38 : Nat) ({ cls := "AccessGate", name := "deny", desc := "(II)V" } : Jvm.MethodName) ∈ lw_tbl := List.mem_of_getElem? (i := 578) rfl
set_option maxRecDepth 100000 in
theorem kw534 : Jvm.Cond.instanceMethod ({ cls := "AccessGate", name := "deny", desc := "(II)V" } : Jvm.MethodName) ∈ lw_tbl := List.mem_of_getElem? (i := 579) rfl
set_option maxRecDepth 100000 in
theorem kw535 : Jvm.Cond.selects "AccessGate" ({ cls := "AccessGate", name := "deny", desc := "(II)V" } : Jvm.MethodName) ({ cls := "AccessGate", name := "deny", desc := "(II)V" } : Jvm.MethodName) ∈ lw_tbl := List.mem_of_getElem? (i := 580) rfl
set_option maxRecDepth 100000 in
theorem kw536 : Jvm.Cond.code ({ cls := "AccessGate", name := "deny", desc := "(II)V" } : Jvm.MethodName) prog_1_method_8_code (5 : Nat) (Option.none : Option Jvm.ClassFile.FieldType) ∈ lw_tbl := List.mem_of_getElem? (i := 581) rfl
set_option maxRecDepth 100000 in
theorem kw537 : Jvm.Cond.methodLink "AccessGateLaw" (119 : Nat) ({ cls := "AccessGateLaw", name := "askState", desc := "(LAccessGate;I[J)I" } : Jvm.MethodName) ∈ lw_tbl := List.mem_of_getElem? (i := 582) rfl
set_option maxRecDepth 100000 in
theorem kw538 : Jvm.Cond.static ({ cls := "AccessGateLaw", name := "askState", desc := "(LAccessGate;I[J)I" } : Jvm.MethodName) ∈ lw_tbl := List.mem_of_getElem? (i := 583) rfl
set_option maxRecDepth 100000 in
theorem kw539 : Jvm.Cond.codeWith ({ cls := "AccessGateLaw", name := "askState", desc := "(LAccessGate;I[J)I" } : Jvm.MethodName) method_10_code (4 : Nat) (Option.some Jvm.ClassFile.FieldType.int) [((0 : Nat), (9 : Nat), (12 : Nat), (24 : Nat))] ∈ lw_tbl := List.mem_of_getElem? (i := 584) rfl
set_option maxRecDepth 100000 in
theorem kw540 : Jvm.Cond.methodLink "AccessGateLaw" (42 : Nat) ({ cls := "AccessGate", name := "askState", desc := "(I)I" } : Jvm.MethodName) ∈ lw_tbl := List.mem_of_getElem? (i := 585) rfl
set_option maxRecDepth 100000 in
theorem kw541 : Jvm.Cond.instanceMethod ({ cls := "AccessGate", name := "askState", desc := "(I)I" } : Jvm.MethodName) ∈ lw_tbl := List.mem_of_getElem? (i := 586) rfl
set_option maxRecDepth 100000 in
theorem kw542 : Jvm.Cond.selects "AccessGate" ({ cls := "AccessGate", name := "askState", desc := "(I)I" } : Jvm.MethodName) ({ cls := "AccessGate", name := "askState", desc := "(I)I" } : Jvm.MethodName) ∈ lw_tbl := List.mem_of_getElem? (i := 587) rfl
set_option maxRecDepth 100000 in
theorem kw543 : Jvm.Cond.code ({ cls := "AccessGate", name := "askState", desc := "(I)I" } : Jvm.MethodName) prog_1_method_9_code (2 : Nat) (Option.some Jvm.ClassFile.FieldType.int) ∈ lw_tbl := List.mem_of_getElem? (i := 588) rfl
set_option maxRecDepth 100000 in
theorem kw544 : Jvm.Cond.methodLink "AccessGateLaw" (122 : Nat) ({ cls := "AccessGateLaw", name := "enter", desc := "(LAccessGate;II[J)I" } : Jvm.MethodName) ∈ lw_tbl := List.mem_of_getElem? (i := 589) rfl
set_option maxRecDepth 100000 in
theorem kw545 : Jvm.Cond.static ({ cls := "AccessGateLaw", name := "enter", desc := "(LAccessGate;II[J)I" } : Jvm.MethodName) ∈ lw_tbl := List.mem_of_getElem? (i := 590) rfl
set_option maxRecDepth 100000 in
theorem kw546 : Jvm.Cond.codeWith ({ cls := "AccessGateLaw", name := "enter", desc := "(LAccessGate;II[J)I" } : Jvm.MethodName) method_11_code (5 : Nat) (Option.some Jvm.ClassFile.FieldType.int) [((0 : Nat), (10 : Nat), (13 : Nat), (24 : Nat)), ((0 : Nat), (10 : Nat), (17 : Nat), (15 : Nat))] ∈ lw_tbl := List.mem_of_getElem? (i := 591) rfl
set_option maxRecDepth 100000 in
theorem kw547 : Jvm.Cond.methodLink "AccessGateLaw" (45 : Nat) ({ cls := "AccessGate", name := "enter", desc := "(II)I" } : Jvm.MethodName) ∈ lw_tbl := List.mem_of_getElem? (i := 592) rfl
set_option maxRecDepth 100000 in
theorem kw548 : Jvm.Cond.instanceMethod ({ cls := "AccessGate", name := "enter", desc := "(II)I" } : Jvm.MethodName) ∈ lw_tbl := List.mem_of_getElem? (i := 593) rfl
set_option maxRecDepth 100000 in
theorem kw549 : Jvm.Cond.selects "AccessGate" ({ cls := "AccessGate", name := "enter", desc := "(II)I" } : Jvm.MethodName) ({ cls := "AccessGate", name := "enter", desc := "(II)I" } : Jvm.MethodName) ∈ lw_tbl := List.mem_of_getElem? (i := 594) rfl
set_option maxRecDepth 100000 in
theorem kw550 : Jvm.Cond.code ({ cls := "AccessGate", name := "enter", desc := "(II)I" } : Jvm.MethodName) prog_1_method_10_code (6 : Nat) (Option.some Jvm.ClassFile.FieldType.int) ∈ lw_tbl := List.mem_of_getElem? (i := 595) rfl
set_option maxRecDepth 100000 in
theorem kw551 : Jvm.Cond.methodLinkNest "AccessGate" (160 : Nat) ({ cls := "AccessGate$Entry", name := "<init>", desc := "(LAccessGate$Person;LAccessGate$Machine;I)V" } : Jvm.MethodName) "AccessGate" ∈ lw_tbl := List.mem_of_getElem? (i := 596) rfl
set_option maxRecDepth 100000 in
theorem kw552 : Jvm.Cond.instanceMethod ({ cls := "AccessGate$Entry", name := "<init>", desc := "(LAccessGate$Person;LAccessGate$Machine;I)V" } : Jvm.MethodName) ∈ lw_tbl := List.mem_of_getElem? (i := 597) rfl
set_option maxRecDepth 100000 in
theorem kw553 : Jvm.Cond.code ({ cls := "AccessGate$Entry", name := "<init>", desc := "(LAccessGate$Person;LAccessGate$Machine;I)V" } : Jvm.MethodName) prog_3_method_1_code (4 : Nat) (Option.none : Option Jvm.ClassFile.FieldType) ∈ lw_tbl := List.mem_of_getElem? (i := 598) rfl
set_option maxRecDepth 100000 in
theorem kw554 : Jvm.Cond.methodLink "AccessGate$Entry" (3 : Nat) ({ cls := "java/lang/Object", name := "<init>", desc := "()V" } : Jvm.MethodName) ∈ lw_tbl := List.mem_of_getElem? (i := 599) rfl
set_option maxRecDepth 100000 in
theorem kw555 : Jvm.Cond.fieldLink "AccessGate$Entry" (15 : Nat) "AccessGate$Entry" "who" "LAccessGate$Person;" ∈ lw_tbl := List.mem_of_getElem? (i := 600) rfl
set_option maxRecDepth 100000 in
theorem kw556 : Jvm.Cond.fieldLinkNest "AccessGate" (176 : Nat) "AccessGate$Entry" "who" "LAccessGate$Person;" "AccessGate" ∈ lw_tbl := List.mem_of_getElem? (i := 601) rfl
set_option maxRecDepth 100000 in
theorem kw557 : Jvm.Cond.fieldLink "AccessGate$Entry" (19 : Nat) "AccessGate$Entry" "where" "LAccessGate$Machine;" ∈ lw_tbl := List.mem_of_getElem? (i := 602) rfl
set_option maxRecDepth 100000 in
theorem kw558 : Jvm.Cond.fieldLinkNest "AccessGate" (179 : Nat) "AccessGate$Entry" "where" "LAccessGate$Machine;" "AccessGate" ∈ lw_tbl := List.mem_of_getElem? (i := 603) rfl
set_option maxRecDepth 100000 in
theorem kw559 : Jvm.Cond.fieldLink "AccessGate$Entry" (23 : Nat) "AccessGate$Entry" "time" "I" ∈ lw_tbl := List.mem_of_getElem? (i := 604) rfl
set_option maxRecDepth 100000 in
theorem kw560 : Jvm.Cond.fieldLinkNest "AccessGate" (180 : Nat) "AccessGate$Entry" "time" "I" "AccessGate" ∈ lw_tbl := List.mem_of_getElem? (i := 605) rfl
set_option maxRecDepth 100000 in
theorem kw561 : Jvm.Cond.fieldLink "AccessGate$Entry" (9 : Nat) "AccessGate$Entry" "lookedAt" "Z" ∈ lw_tbl := List.mem_of_getElem? (i := 606) rfl
set_option maxRecDepth 100000 in
theorem kw562 : Jvm.Cond.fieldLinkNest "AccessGate" (167 : Nat) "AccessGate$Entry" "lookedAt" "Z" "AccessGate" ∈ lw_tbl := List.mem_of_getElem? (i := 607) rfl
set_option maxRecDepth 100000 in
theorem kw572 : Jvm.Cond.methodLink "AccessGateLaw" (125 : Nat) ({ cls := "AccessGateLaw", name := "lookAt", desc := "(LAccessGate;II[J)I" } : Jvm.MethodName) ∈ lw_tbl := List.mem_of_getElem? (i := 617) rfl
set_option maxRecDepth 100000 in
theorem kw573 : Jvm.Cond.static ({ cls := "AccessGateLaw", name := "lookAt", desc := "(LAccessGate;II[J)I" } : Jvm.MethodName) ∈ lw_tbl := List.mem_of_getElem? (i := 618) rfl
set_option maxRecDepth 100000 in
theorem kw574 : Jvm.Cond.codeWith ({ cls := "AccessGateLaw", name := "lookAt", desc := "(LAccessGate;II[J)I" } : Jvm.MethodName) method_12_code (5 : Nat) (Option.some Jvm.ClassFile.FieldType.int) [((0 : Nat), (10 : Nat), (13 : Nat), (24 : Nat)), ((0 : Nat), (10 : Nat), (17 : Nat), (15 : Nat))] ∈ lw_tbl := List.mem_of_getElem? (i := 619) rfl
set_option maxRecDepth 100000 in
theorem kw575 : Jvm.Cond.methodLink "AccessGateLaw" (48 : Nat) ({ cls := "AccessGate", name := "lookAt", desc := "(II)I" } : Jvm.MethodName) ∈ lw_tbl := List.mem_of_getElem? (i := 620) rfl
set_option maxRecDepth 100000 in
theorem kw576 : Jvm.Cond.instanceMethod ({ cls := "AccessGate", name := "lookAt", desc := "(II)I" } : Jvm.MethodName) ∈ lw_tbl := List.mem_of_getElem? (i := 621) rfl
set_option maxRecDepth 100000 in
theorem kw577 : Jvm.Cond.selects "AccessGate" ({ cls := "AccessGate", name := "lookAt", desc := "(II)I" } : Jvm.MethodName) ({ cls := "AccessGate", name := "lookAt", desc := "(II)I" } : Jvm.MethodName) ∈ lw_tbl := List.mem_of_getElem? (i := 622) rfl
set_option maxRecDepth 100000 in
theorem kw578 : Jvm.Cond.code ({ cls := "AccessGate", name := "lookAt", desc := "(II)I" } : Jvm.MethodName) prog_1_method_11_code (5 : Nat) (Option.some Jvm.ClassFile.FieldType.int) ∈ lw_tbl := List.mem_of_getElem? (i := 623) rfl
set_option maxRecDepth 100000 in
theorem kw579 : Jvm.Cond.methodLink "AccessGate" (163 : Nat) ({ cls := "AccessGate", name := "entryAt", desc := "(I)LAccessGate$Entry;" } : Jvm.MethodName) ∈ lw_tbl := List.mem_of_getElem? (i := 624) rfl
set_option maxRecDepth 100000 in
theorem kw581 : Jvm.Cond.instanceMethod ({ cls := "AccessGate", name := "entryAt", desc := "(I)LAccessGate$Entry;" } : Jvm.MethodName) ∈ lw_tbl := List.mem_of_getElem? (i := 626) rfl
set_option maxRecDepth 100000 in
theorem kw582 : Jvm.Cond.code ({ cls := "AccessGate", name := "entryAt", desc := "(I)LAccessGate$Entry;" } : Jvm.MethodName) prog_1_method_28_code (2 : Nat) (Option.some (Jvm.ClassFile.FieldType.object "AccessGate$Entry")) ∈ lw_tbl := List.mem_of_getElem? (i := 627) rfl
set_option maxRecDepth 100000 in
theorem kw586 : Jvm.Cond.methodLink "AccessGateLaw" (128 : Nat) ({ cls := "AccessGateLaw", name := "overdue", desc := "(LAccessGate;I[J)I" } : Jvm.MethodName) ∈ lw_tbl := List.mem_of_getElem? (i := 631) rfl
set_option maxRecDepth 100000 in
theorem kw587 : Jvm.Cond.static ({ cls := "AccessGateLaw", name := "overdue", desc := "(LAccessGate;I[J)I" } : Jvm.MethodName) ∈ lw_tbl := List.mem_of_getElem? (i := 632) rfl
set_option maxRecDepth 100000 in
theorem kw588 : Jvm.Cond.codeWith ({ cls := "AccessGateLaw", name := "overdue", desc := "(LAccessGate;I[J)I" } : Jvm.MethodName) method_13_code (4 : Nat) (Option.some Jvm.ClassFile.FieldType.int) [((0 : Nat), (9 : Nat), (12 : Nat), (24 : Nat))] ∈ lw_tbl := List.mem_of_getElem? (i := 633) rfl
set_option maxRecDepth 100000 in
theorem kw589 : Jvm.Cond.methodLink "AccessGateLaw" (51 : Nat) ({ cls := "AccessGate", name := "overdue", desc := "(I)I" } : Jvm.MethodName) ∈ lw_tbl := List.mem_of_getElem? (i := 634) rfl
set_option maxRecDepth 100000 in
theorem kw590 : Jvm.Cond.instanceMethod ({ cls := "AccessGate", name := "overdue", desc := "(I)I" } : Jvm.MethodName) ∈ lw_tbl := List.mem_of_getElem? (i := 635) rfl
set_option maxRecDepth 100000 in
theorem kw591 : Jvm.Cond.selects "AccessGate" ({ cls := "AccessGate", name := "overdue", desc := "(I)I" } : Jvm.MethodName) ({ cls := "AccessGate", name := "overdue", desc := "(I)I" } : Jvm.MethodName) ∈ lw_tbl := List.mem_of_getElem? (i := 636) rfl
set_option maxRecDepth 100000 in
theorem kw592 : Jvm.Cond.code ({ cls := "AccessGate", name := "overdue", desc := "(I)I" } : Jvm.MethodName) prog_1_method_12_code (2 : Nat) (Option.some Jvm.ClassFile.FieldType.int) ∈ lw_tbl := List.mem_of_getElem? (i := 637) rfl
set_option maxRecDepth 100000 in
theorem kw593 : Jvm.Cond.methodLink "AccessGateLaw" (131 : Nat) ({ cls := "AccessGateLaw", name := "couldEnter", desc := "(LAccessGate;III[J)I" } : Jvm.MethodName) ∈ lw_tbl := List.mem_of_getElem? (i := 638) rfl
set_option maxRecDepth 100000 in
theorem kw594 : Jvm.Cond.static ({ cls := "AccessGateLaw", name := "couldEnter", desc := "(LAccessGate;III[J)I" } : Jvm.MethodName) ∈ lw_tbl := List.mem_of_getElem? (i := 639) rfl
set_option maxRecDepth 100000 in
theorem kw595 : Jvm.Cond.codeWith ({ cls := "AccessGateLaw", name := "couldEnter", desc := "(LAccessGate;III[J)I" } : Jvm.MethodName) method_14_code (6 : Nat) (Option.some Jvm.ClassFile.FieldType.int) [((0 : Nat), (19 : Nat), (22 : Nat), (24 : Nat)), ((0 : Nat), (19 : Nat), (26 : Nat), (13 : Nat))] ∈ lw_tbl := List.mem_of_getElem? (i := 640) rfl
set_option maxRecDepth 100000 in
theorem kw596 : Jvm.Cond.methodLink "AccessGateLaw" (54 : Nat) ({ cls := "AccessGate", name := "couldEnter", desc := "(III)Z" } : Jvm.MethodName) ∈ lw_tbl := List.mem_of_getElem? (i := 641) rfl
set_option maxRecDepth 100000 in
theorem kw597 : Jvm.Cond.instanceMethod ({ cls := "AccessGate", name := "couldEnter", desc := "(III)Z" } : Jvm.MethodName) ∈ lw_tbl := List.mem_of_getElem? (i := 642) rfl
set_option maxRecDepth 100000 in
theorem kw598 : Jvm.Cond.selects "AccessGate" ({ cls := "AccessGate", name := "couldEnter", desc := "(III)Z" } : Jvm.MethodName) ({ cls := "AccessGate", name := "couldEnter", desc := "(III)Z" } : Jvm.MethodName) ∈ lw_tbl := List.mem_of_getElem? (i := 643) rfl
set_option maxRecDepth 100000 in
theorem kw599 : Jvm.Cond.code ({ cls := "AccessGate", name := "couldEnter", desc := "(III)Z" } : Jvm.MethodName) prog_1_method_13_code (6 : Nat) (Option.some Jvm.ClassFile.FieldType.boolean) ∈ lw_tbl := List.mem_of_getElem? (i := 644) rfl
set_option maxRecDepth 100000 in
theorem kw600 : Jvm.Cond.constant "AccessGate" (187 : Nat) (100000 : Int32) ∈ lw_tbl := List.mem_of_getElem? (i := 645) rfl
set_option maxRecDepth 100000 in
theorem kw602 : Jvm.Cond.methodLink "AccessGateLaw" (134 : Nat) ({ cls := "AccessGateLaw", name := "open", desc := "(LAccessGate;II[J)I" } : Jvm.MethodName) ∈ lw_tbl := List.mem_of_getElem? (i := 647) rfl
set_option maxRecDepth 100000 in
theorem kw603 : Jvm.Cond.static ({ cls := "AccessGateLaw", name := "open", desc := "(LAccessGate;II[J)I" } : Jvm.MethodName) ∈ lw_tbl := List.mem_of_getElem? (i := 648) rfl
set_option maxRecDepth 100000 in
theorem kw604 : Jvm.Cond.codeWith ({ cls := "AccessGateLaw", name := "open", desc := "(LAccessGate;II[J)I" } : Jvm.MethodName) method_15_code (5 : Nat) (Option.some Jvm.ClassFile.FieldType.int) [((0 : Nat), (10 : Nat), (13 : Nat), (24 : Nat)), ((0 : Nat), (10 : Nat), (17 : Nat), (15 : Nat))] ∈ lw_tbl := List.mem_of_getElem? (i := 649) rfl
set_option maxRecDepth 100000 in
theorem kw605 : Jvm.Cond.methodLink "AccessGateLaw" (58 : Nat) ({ cls := "AccessGate", name := "open", desc := "(II)I" } : Jvm.MethodName) ∈ lw_tbl := List.mem_of_getElem? (i := 650) rfl
set_option maxRecDepth 100000 in
theorem kw606 : Jvm.Cond.instanceMethod ({ cls := "AccessGate", name := "open", desc := "(II)I" } : Jvm.MethodName) ∈ lw_tbl := List.mem_of_getElem? (i := 651) rfl
set_option maxRecDepth 100000 in
theorem kw607 : Jvm.Cond.selects "AccessGate" ({ cls := "AccessGate", name := "open", desc := "(II)I" } : Jvm.MethodName) ({ cls := "AccessGate", name := "open", desc := "(II)I" } : Jvm.MethodName) ∈ lw_tbl := List.mem_of_getElem? (i := 652) rfl
set_option maxRecDepth 100000 in
theorem kw608 : Jvm.Cond.code ({ cls := "AccessGate", name := "open", desc := "(II)I" } : Jvm.MethodName) prog_1_method_14_code (6 : Nat) (Option.some Jvm.ClassFile.FieldType.int) ∈ lw_tbl := List.mem_of_getElem? (i := 653) rfl
set_option maxRecDepth 100000 in
theorem kw610 : Jvm.Cond.methodLinkNest "AccessGate" (198 : Nat) ({ cls := "AccessGate$Session", name := "<init>", desc := "(LAccessGate$Person;LAccessGate$Machine;I)V" } : Jvm.MethodName) "AccessGate" ∈ lw_tbl := List.mem_of_getElem? (i := 655) rfl
set_option maxRecDepth 100000 in
theorem kw611 : Jvm.Cond.instanceMethod ({ cls := "AccessGate$Session", name := "<init>", desc := "(LAccessGate$Person;LAccessGate$Machine;I)V" } : Jvm.MethodName) ∈ lw_tbl := List.mem_of_getElem? (i := 656) rfl
set_option maxRecDepth 100000 in
theorem kw612 : Jvm.Cond.code ({ cls := "AccessGate$Session", name := "<init>", desc := "(LAccessGate$Person;LAccessGate$Machine;I)V" } : Jvm.MethodName) prog_7_method_1_code (4 : Nat) (Option.none : Option Jvm.ClassFile.FieldType) ∈ lw_tbl := List.mem_of_getElem? (i := 657) rfl
set_option maxRecDepth 100000 in
theorem kw613 : Jvm.Cond.methodLink "AccessGate$Session" (3 : Nat) ({ cls := "java/lang/Object", name := "<init>", desc := "()V" } : Jvm.MethodName) ∈ lw_tbl := List.mem_of_getElem? (i := 658) rfl
set_option maxRecDepth 100000 in
theorem kw614 : Jvm.Cond.fieldLink "AccessGate$Session" (22 : Nat) "AccessGate$Session" "who" "LAccessGate$Person;" ∈ lw_tbl := List.mem_of_getElem? (i := 659) rfl
set_option maxRecDepth 100000 in
theorem kw615 : Jvm.Cond.fieldLinkNest "AccessGate" (215 : Nat) "AccessGate$Session" "who" "LAccessGate$Person;" "AccessGate" ∈ lw_tbl := List.mem_of_getElem? (i := 660) rfl
set_option maxRecDepth 100000 in
theorem kw616 : Jvm.Cond.fieldLink "AccessGate$Session" (26 : Nat) "AccessGate$Session" "where" "LAccessGate$Machine;" ∈ lw_tbl := List.mem_of_getElem? (i := 661) rfl
set_option maxRecDepth 100000 in
theorem kw617 : Jvm.Cond.fieldLinkNest "AccessGate" (216 : Nat) "AccessGate$Session" "where" "LAccessGate$Machine;" "AccessGate" ∈ lw_tbl := List.mem_of_getElem? (i := 662) rfl
set_option maxRecDepth 100000 in
theorem kw618 : Jvm.Cond.fieldLink "AccessGate$Session" (9 : Nat) "AccessGate$Session" "closed" "Z" ∈ lw_tbl := List.mem_of_getElem? (i := 663) rfl
set_option maxRecDepth 100000 in
theorem kw619 : Jvm.Cond.fieldLinkNest "AccessGate" (237 : Nat) "AccessGate$Session" "closed" "Z" "AccessGate" ∈ lw_tbl := List.mem_of_getElem? (i := 664) rfl
set_option maxRecDepth 100000 in
theorem kw620 : Jvm.Cond.fieldLink "AccessGate$Session" (30 : Nat) "AccessGate$Session" "lastLine" "I" ∈ lw_tbl := List.mem_of_getElem? (i := 665) rfl
set_option maxRecDepth 100000 in
theorem kw621 : Jvm.Cond.fieldLinkNest "AccessGate" (217 : Nat) "AccessGate$Session" "lastLine" "I" "AccessGate" ∈ lw_tbl := List.mem_of_getElem? (i := 666) rfl
set_option maxRecDepth 100000 in
theorem kw622 : Jvm.Cond.fieldLink "AccessGate$Session" (15 : Nat) "AccessGate$Session" "heldSince" "I" ∈ lw_tbl := List.mem_of_getElem? (i := 667) rfl
set_option maxRecDepth 100000 in
theorem kw623 : Jvm.Cond.fieldLinkNest "AccessGate" (223 : Nat) "AccessGate$Session" "heldSince" "I" "AccessGate" ∈ lw_tbl := List.mem_of_getElem? (i := 668) rfl
set_option maxRecDepth 100000 in
theorem kw624 : Jvm.Cond.fieldLink "AccessGate$Session" (19 : Nat) "AccessGate$Session" "linesLetThrough" "I" ∈ lw_tbl := List.mem_of_getElem? (i := 669) rfl
set_option maxRecDepth 100000 in
theorem kw625 : Jvm.Cond.fieldLinkNest "AccessGate" (220 : Nat) "AccessGate$Session" "linesLetThrough" "I" "AccessGate" ∈ lw_tbl := List.mem_of_getElem? (i := 670) rfl
set_option maxRecDepth 100000 in
theorem kw639 : Jvm.Cond.methodLink "AccessGateLaw" (137 : Nat) ({ cls := "AccessGateLaw", name := "type", desc := "(LAccessGate;II[J)I" } : Jvm.MethodName) ∈ lw_tbl := List.mem_of_getElem? (i := 684) rfl
set_option maxRecDepth 100000 in
theorem kw640 : Jvm.Cond.static ({ cls := "AccessGateLaw", name := "type", desc := "(LAccessGate;II[J)I" } : Jvm.MethodName) ∈ lw_tbl := List.mem_of_getElem? (i := 685) rfl
set_option maxRecDepth 100000 in
theorem kw641 : Jvm.Cond.codeWith ({ cls := "AccessGateLaw", name := "type", desc := "(LAccessGate;II[J)I" } : Jvm.MethodName) method_16_code (5 : Nat) (Option.some Jvm.ClassFile.FieldType.int) [((0 : Nat), (17 : Nat), (20 : Nat), (24 : Nat)), ((0 : Nat), (17 : Nat), (24 : Nat), (13 : Nat)), ((0 : Nat), (17 : Nat), (28 : Nat), (15 : Nat))] ∈ lw_tbl := List.mem_of_getElem? (i := 686) rfl
set_option maxRecDepth 100000 in
theorem kw642 : Jvm.Cond.methodLink "AccessGateLaw" (61 : Nat) ({ cls := "AccessGate", name := "type", desc := "(II)Z" } : Jvm.MethodName) ∈ lw_tbl := List.mem_of_getElem? (i := 687) rfl
set_option maxRecDepth 100000 in
theorem kw643 : Jvm.Cond.instanceMethod ({ cls := "AccessGate", name := "type", desc := "(II)Z" } : Jvm.MethodName) ∈ lw_tbl := List.mem_of_getElem? (i := 688) rfl
set_option maxRecDepth 100000 in
theorem kw644 : Jvm.Cond.selects "AccessGate" ({ cls := "AccessGate", name := "type", desc := "(II)Z" } : Jvm.MethodName) ({ cls := "AccessGate", name := "type", desc := "(II)Z" } : Jvm.MethodName) ∈ lw_tbl := List.mem_of_getElem? (i := 689) rfl
set_option maxRecDepth 100000 in
theorem kw645 : Jvm.Cond.code ({ cls := "AccessGate", name := "type", desc := "(II)Z" } : Jvm.MethodName) prog_1_method_15_code (4 : Nat) (Option.some Jvm.ClassFile.FieldType.boolean) ∈ lw_tbl := List.mem_of_getElem? (i := 690) rfl
set_option maxRecDepth 100000 in
theorem kw646 : Jvm.Cond.methodLink "AccessGate" (199 : Nat) ({ cls := "AccessGate", name := "sessionAt", desc := "(I)LAccessGate$Session;" } : Jvm.MethodName) ∈ lw_tbl := List.mem_of_getElem? (i := 691) rfl
set_option maxRecDepth 100000 in
theorem kw648 : Jvm.Cond.instanceMethod ({ cls := "AccessGate", name := "sessionAt", desc := "(I)LAccessGate$Session;" } : Jvm.MethodName) ∈ lw_tbl := List.mem_of_getElem? (i := 693) rfl
set_option maxRecDepth 100000 in
theorem kw649 : Jvm.Cond.code ({ cls := "AccessGate", name := "sessionAt", desc := "(I)LAccessGate$Session;" } : Jvm.MethodName) prog_1_method_29_code (2 : Nat) (Option.some (Jvm.ClassFile.FieldType.object "AccessGate$Session")) ∈ lw_tbl := List.mem_of_getElem? (i := 694) rfl
set_option maxRecDepth 100000 in
theorem kw652 : Jvm.Cond.methodLink "AccessGate" (205 : Nat) ({ cls := "AccessGate", name := "requireOpen", desc := "(LAccessGate$Session;)V" } : Jvm.MethodName) ∈ lw_tbl := List.mem_of_getElem? (i := 697) rfl
set_option maxRecDepth 100000 in
theorem kw653 : Jvm.Cond.static ({ cls := "AccessGate", name := "requireOpen", desc := "(LAccessGate$Session;)V" } : Jvm.MethodName) ∈ lw_tbl := List.mem_of_getElem? (i := 698) rfl
set_option maxRecDepth 100000 in
theorem kw654 : Jvm.Cond.code ({ cls := "AccessGate", name := "requireOpen", desc := "(LAccessGate$Session;)V" } : Jvm.MethodName) prog_1_method_33_code (1 : Nat) (Option.none : Option Jvm.ClassFile.FieldType) ∈ lw_tbl := List.mem_of_getElem? (i := 699) rfl
set_option maxRecDepth 100000 in
theorem kw656 : Jvm.Cond.methodLinkNest "AccessGate" (209 : Nat) ({ cls := "AccessGate$Session", name := "holdsLine", desc := "()Z" } : Jvm.MethodName) "AccessGate" ∈ lw_tbl := List.mem_of_getElem? (i := 701) rfl
set_option maxRecDepth 100000 in
theorem kw658 : Jvm.Cond.instanceMethod ({ cls := "AccessGate$Session", name := "holdsLine", desc := "()Z" } : Jvm.MethodName) ∈ lw_tbl := List.mem_of_getElem? (i := 703) rfl
set_option maxRecDepth 100000 in
theorem kw659 : Jvm.Cond.code ({ cls := "AccessGate$Session", name := "holdsLine", desc := "()Z" } : Jvm.MethodName) prog_7_method_2_code (1 : Nat) (Option.some Jvm.ClassFile.FieldType.boolean) ∈ lw_tbl := List.mem_of_getElem? (i := 704) rfl
set_option maxRecDepth 100000 in
theorem kw661 : Jvm.Cond.methodLink "AccessGateLaw" (140 : Nat) ({ cls := "AccessGateLaw", name := "letThrough", desc := "(LAccessGate;II[J)I" } : Jvm.MethodName) ∈ lw_tbl := List.mem_of_getElem? (i := 706) rfl
set_option maxRecDepth 100000 in
theorem kw662 : Jvm.Cond.static ({ cls := "AccessGateLaw", name := "letThrough", desc := "(LAccessGate;II[J)I" } : Jvm.MethodName) ∈ lw_tbl := List.mem_of_getElem? (i := 707) rfl
set_option maxRecDepth 100000 in
theorem kw663 : Jvm.Cond.codeWith ({ cls := "AccessGateLaw", name := "letThrough", desc := "(LAccessGate;II[J)I" } : Jvm.MethodName) method_17_code (5 : Nat) (Option.some Jvm.ClassFile.FieldType.int) [((0 : Nat), (10 : Nat), (13 : Nat), (24 : Nat)), ((0 : Nat), (10 : Nat), (17 : Nat), (15 : Nat))] ∈ lw_tbl := List.mem_of_getElem? (i := 708) rfl
set_option maxRecDepth 100000 in
theorem kw664 : Jvm.Cond.methodLink "AccessGateLaw" (64 : Nat) ({ cls := "AccessGate", name := "letThrough", desc := "(II)I" } : Jvm.MethodName) ∈ lw_tbl := List.mem_of_getElem? (i := 709) rfl
set_option maxRecDepth 100000 in
theorem kw665 : Jvm.Cond.instanceMethod ({ cls := "AccessGate", name := "letThrough", desc := "(II)I" } : Jvm.MethodName) ∈ lw_tbl := List.mem_of_getElem? (i := 710) rfl
set_option maxRecDepth 100000 in
theorem kw666 : Jvm.Cond.selects "AccessGate" ({ cls := "AccessGate", name := "letThrough", desc := "(II)I" } : Jvm.MethodName) ({ cls := "AccessGate", name := "letThrough", desc := "(II)I" } : Jvm.MethodName) ∈ lw_tbl := List.mem_of_getElem? (i := 711) rfl
set_option maxRecDepth 100000 in
theorem kw667 : Jvm.Cond.code ({ cls := "AccessGate", name := "letThrough", desc := "(II)I" } : Jvm.MethodName) prog_1_method_16_code (6 : Nat) (Option.some Jvm.ClassFile.FieldType.int) ∈ lw_tbl := List.mem_of_getElem? (i := 712) rfl
set_option maxRecDepth 100000 in
theorem kw670 : Jvm.Cond.methodLink "AccessGateLaw" (143 : Nat) ({ cls := "AccessGateLaw", name := "close", desc := "(LAccessGate;I[J)I" } : Jvm.MethodName) ∈ lw_tbl := List.mem_of_getElem? (i := 715) rfl
set_option maxRecDepth 100000 in
theorem kw671 : Jvm.Cond.static ({ cls := "AccessGateLaw", name := "close", desc := "(LAccessGate;I[J)I" } : Jvm.MethodName) ∈ lw_tbl := List.mem_of_getElem? (i := 716) rfl
set_option maxRecDepth 100000 in
theorem kw672 : Jvm.Cond.codeWith ({ cls := "AccessGateLaw", name := "close", desc := "(LAccessGate;I[J)I" } : Jvm.MethodName) method_18_code (4 : Nat) (Option.some Jvm.ClassFile.FieldType.int) [((0 : Nat), (9 : Nat), (12 : Nat), (24 : Nat)), ((0 : Nat), (9 : Nat), (15 : Nat), (15 : Nat))] ∈ lw_tbl := List.mem_of_getElem? (i := 717) rfl
set_option maxRecDepth 100000 in
theorem kw673 : Jvm.Cond.methodLink "AccessGateLaw" (67 : Nat) ({ cls := "AccessGate", name := "close", desc := "(I)I" } : Jvm.MethodName) ∈ lw_tbl := List.mem_of_getElem? (i := 718) rfl
set_option maxRecDepth 100000 in
theorem kw674 : Jvm.Cond.instanceMethod ({ cls := "AccessGate", name := "close", desc := "(I)I" } : Jvm.MethodName) ∈ lw_tbl := List.mem_of_getElem? (i := 719) rfl
set_option maxRecDepth 100000 in
theorem kw675 : Jvm.Cond.selects "AccessGate" ({ cls := "AccessGate", name := "close", desc := "(I)I" } : Jvm.MethodName) ({ cls := "AccessGate", name := "close", desc := "(I)I" } : Jvm.MethodName) ∈ lw_tbl := List.mem_of_getElem? (i := 720) rfl
set_option maxRecDepth 100000 in
theorem kw676 : Jvm.Cond.code ({ cls := "AccessGate", name := "close", desc := "(I)I" } : Jvm.MethodName) prog_1_method_17_code (3 : Nat) (Option.some Jvm.ClassFile.FieldType.int) ∈ lw_tbl := List.mem_of_getElem? (i := 721) rfl
set_option maxRecDepth 100000 in
theorem kw677 : Jvm.Cond.methodLink "AccessGateLaw" (146 : Nat) ({ cls := "AccessGateLaw", name := "isOpen", desc := "(LAccessGate;I[J)I" } : Jvm.MethodName) ∈ lw_tbl := List.mem_of_getElem? (i := 722) rfl
set_option maxRecDepth 100000 in
theorem kw678 : Jvm.Cond.static ({ cls := "AccessGateLaw", name := "isOpen", desc := "(LAccessGate;I[J)I" } : Jvm.MethodName) ∈ lw_tbl := List.mem_of_getElem? (i := 723) rfl
set_option maxRecDepth 100000 in
theorem kw679 : Jvm.Cond.codeWith ({ cls := "AccessGateLaw", name := "isOpen", desc := "(LAccessGate;I[J)I" } : Jvm.MethodName) method_19_code (4 : Nat) (Option.some Jvm.ClassFile.FieldType.int) [((0 : Nat), (16 : Nat), (19 : Nat), (24 : Nat))] ∈ lw_tbl := List.mem_of_getElem? (i := 724) rfl
set_option maxRecDepth 100000 in
theorem kw680 : Jvm.Cond.methodLink "AccessGateLaw" (70 : Nat) ({ cls := "AccessGate", name := "isOpen", desc := "(I)Z" } : Jvm.MethodName) ∈ lw_tbl := List.mem_of_getElem? (i := 725) rfl
set_option maxRecDepth 100000 in
theorem kw681 : Jvm.Cond.instanceMethod ({ cls := "AccessGate", name := "isOpen", desc := "(I)Z" } : Jvm.MethodName) ∈ lw_tbl := List.mem_of_getElem? (i := 726) rfl
set_option maxRecDepth 100000 in
theorem kw682 : Jvm.Cond.selects "AccessGate" ({ cls := "AccessGate", name := "isOpen", desc := "(I)Z" } : Jvm.MethodName) ({ cls := "AccessGate", name := "isOpen", desc := "(I)Z" } : Jvm.MethodName) ∈ lw_tbl := List.mem_of_getElem? (i := 727) rfl
set_option maxRecDepth 100000 in
theorem kw683 : Jvm.Cond.code ({ cls := "AccessGate", name := "isOpen", desc := "(I)Z" } : Jvm.MethodName) prog_1_method_18_code (2 : Nat) (Option.some Jvm.ClassFile.FieldType.boolean) ∈ lw_tbl := List.mem_of_getElem? (i := 728) rfl
set_option maxRecDepth 100000 in
theorem kw684 : Jvm.Cond.methodLink "AccessGateLaw" (153 : Nat) ({ cls := "AccessGateLaw", name := "pass", desc := "(LAccessGate;I[J)I" } : Jvm.MethodName) ∈ lw_tbl := List.mem_of_getElem? (i := 729) rfl
set_option maxRecDepth 100000 in
theorem kw685 : Jvm.Cond.static ({ cls := "AccessGateLaw", name := "pass", desc := "(LAccessGate;I[J)I" } : Jvm.MethodName) ∈ lw_tbl := List.mem_of_getElem? (i := 730) rfl
set_option maxRecDepth 100000 in
theorem kw686 : Jvm.Cond.codeWith ({ cls := "AccessGateLaw", name := "pass", desc := "(LAccessGate;I[J)I" } : Jvm.MethodName) method_20_code (4 : Nat) (Option.some Jvm.ClassFile.FieldType.int) [((0 : Nat), (9 : Nat), (12 : Nat), (13 : Nat)), ((0 : Nat), (9 : Nat), (15 : Nat), (15 : Nat))] ∈ lw_tbl := List.mem_of_getElem? (i := 731) rfl
set_option maxRecDepth 100000 in
theorem kw687 : Jvm.Cond.methodLink "AccessGateLaw" (74 : Nat) ({ cls := "AccessGate", name := "pass", desc := "(I)I" } : Jvm.MethodName) ∈ lw_tbl := List.mem_of_getElem? (i := 732) rfl
set_option maxRecDepth 100000 in
theorem kw688 : Jvm.Cond.instanceMethod ({ cls := "AccessGate", name := "pass", desc := "(I)I" } : Jvm.MethodName) ∈ lw_tbl := List.mem_of_getElem? (i := 733) rfl
set_option maxRecDepth 100000 in
theorem kw689 : Jvm.Cond.selects "AccessGate" ({ cls := "AccessGate", name := "pass", desc := "(I)I" } : Jvm.MethodName) ({ cls := "AccessGate", name := "pass", desc := "(I)I" } : Jvm.MethodName) ∈ lw_tbl := List.mem_of_getElem? (i := 734) rfl
set_option maxRecDepth 100000 in
theorem kw690 : Jvm.Cond.code ({ cls := "AccessGate", name := "pass", desc := "(I)I" } : Jvm.MethodName) prog_1_method_20_code (5 : Nat) (Option.some Jvm.ClassFile.FieldType.int) ∈ lw_tbl := List.mem_of_getElem? (i := 735) rfl
set_option maxRecDepth 100000 in
theorem kw692 : Jvm.Cond.methodLink "AccessGateLaw" (164 : Nat) ({ cls := "AccessGateLaw", name := "kind", desc := "(LAccessGate;I[J)I" } : Jvm.MethodName) ∈ lw_tbl := List.mem_of_getElem? (i := 737) rfl
set_option maxRecDepth 100000 in
theorem kw693 : Jvm.Cond.static ({ cls := "AccessGateLaw", name := "kind", desc := "(LAccessGate;I[J)I" } : Jvm.MethodName) ∈ lw_tbl := List.mem_of_getElem? (i := 738) rfl
set_option maxRecDepth 100000 in
theorem kw694 : Jvm.Cond.codeWith ({ cls := "AccessGateLaw", name := "kind", desc := "(LAccessGate;I[J)I" } : Jvm.MethodName) method_21_code (4 : Nat) (Option.some Jvm.ClassFile.FieldType.int) [((0 : Nat), (9 : Nat), (12 : Nat), (24 : Nat))] ∈ lw_tbl := List.mem_of_getElem? (i := 739) rfl
set_option maxRecDepth 100000 in
theorem kw695 : Jvm.Cond.methodLink "AccessGateLaw" (77 : Nat) ({ cls := "AccessGate", name := "kind", desc := "(I)I" } : Jvm.MethodName) ∈ lw_tbl := List.mem_of_getElem? (i := 740) rfl
set_option maxRecDepth 100000 in
theorem kw696 : Jvm.Cond.instanceMethod ({ cls := "AccessGate", name := "kind", desc := "(I)I" } : Jvm.MethodName) ∈ lw_tbl := List.mem_of_getElem? (i := 741) rfl
set_option maxRecDepth 100000 in
theorem kw697 : Jvm.Cond.selects "AccessGate" ({ cls := "AccessGate", name := "kind", desc := "(I)I" } : Jvm.MethodName) ({ cls := "AccessGate", name := "kind", desc := "(I)I" } : Jvm.MethodName) ∈ lw_tbl := List.mem_of_getElem? (i := 742) rfl
set_option maxRecDepth 100000 in
theorem kw698 : Jvm.Cond.code ({ cls := "AccessGate", name := "kind", desc := "(I)I" } : Jvm.MethodName) prog_1_method_23_code (2 : Nat) (Option.some Jvm.ClassFile.FieldType.int) ∈ lw_tbl := List.mem_of_getElem? (i := 743) rfl
set_option maxRecDepth 100000 in
theorem kw699 : Jvm.Cond.methodLink "AccessGate" (245 : Nat) ({ cls := "AccessGate", name := "requireStep", desc := "(I)V" } : Jvm.MethodName) ∈ lw_tbl := List.mem_of_getElem? (i := 744) rfl
set_option maxRecDepth 100000 in
theorem kw701 : Jvm.Cond.instanceMethod ({ cls := "AccessGate", name := "requireStep", desc := "(I)V" } : Jvm.MethodName) ∈ lw_tbl := List.mem_of_getElem? (i := 746) rfl
set_option maxRecDepth 100000 in
theorem kw702 : Jvm.Cond.code ({ cls := "AccessGate", name := "requireStep", desc := "(I)V" } : Jvm.MethodName) prog_1_method_30_code (2 : Nat) (Option.none : Option Jvm.ClassFile.FieldType) ∈ lw_tbl := List.mem_of_getElem? (i := 747) rfl
set_option maxRecDepth 100000 in
theorem kw704 : Jvm.Cond.methodLink "AccessGateLaw" (167 : Nat) ({ cls := "AccessGateLaw", name := "seal", desc := "(LAccessGate;I[J)I" } : Jvm.MethodName) ∈ lw_tbl := List.mem_of_getElem? (i := 749) rfl
set_option maxRecDepth 100000 in
theorem kw705 : Jvm.Cond.static ({ cls := "AccessGateLaw", name := "seal", desc := "(LAccessGate;I[J)I" } : Jvm.MethodName) ∈ lw_tbl := List.mem_of_getElem? (i := 750) rfl
set_option maxRecDepth 100000 in
theorem kw706 : Jvm.Cond.codeWith ({ cls := "AccessGateLaw", name := "seal", desc := "(LAccessGate;I[J)I" } : Jvm.MethodName) method_22_code (4 : Nat) (Option.some Jvm.ClassFile.FieldType.int) [((0 : Nat), (9 : Nat), (12 : Nat), (24 : Nat))] ∈ lw_tbl := List.mem_of_getElem? (i := 751) rfl
set_option maxRecDepth 100000 in
theorem kw707 : Jvm.Cond.methodLink "AccessGateLaw" (80 : Nat) ({ cls := "AccessGate", name := "seal", desc := "(I)I" } : Jvm.MethodName) ∈ lw_tbl := List.mem_of_getElem? (i := 752) rfl
set_option maxRecDepth 100000 in
theorem kw708 : Jvm.Cond.instanceMethod ({ cls := "AccessGate", name := "seal", desc := "(I)I" } : Jvm.MethodName) ∈ lw_tbl := List.mem_of_getElem? (i := 753) rfl
set_option maxRecDepth 100000 in
theorem kw709 : Jvm.Cond.selects "AccessGate" ({ cls := "AccessGate", name := "seal", desc := "(I)I" } : Jvm.MethodName) ({ cls := "AccessGate", name := "seal", desc := "(I)I" } : Jvm.MethodName) ∈ lw_tbl := List.mem_of_getElem? (i := 754) rfl
set_option maxRecDepth 100000 in
theorem kw710 : Jvm.Cond.code ({ cls := "AccessGate", name := "seal", desc := "(I)I" } : Jvm.MethodName) prog_1_method_24_code (2 : Nat) (Option.some Jvm.ClassFile.FieldType.int) ∈ lw_tbl := List.mem_of_getElem? (i := 755) rfl
set_option maxRecDepth 100000 in
theorem kw711 : Jvm.Cond.classLink "AccessGateLaw" (84 : Nat) "AccessGateModel" ∈ lw_tbl := List.mem_of_getElem? (i := 756) rfl
set_option maxRecDepth 100000 in
theorem kw712 : Jvm.Cond.instantiable "AccessGateModel" (34 : Nat) ∈ lw_tbl := List.mem_of_getElem? (i := 757) rfl
set_option maxRecDepth 100000 in
theorem kw713 : Jvm.Cond.methodLink "AccessGateLaw" (86 : Nat) ({ cls := "AccessGateModel", name := "<init>", desc := "()V" } : Jvm.MethodName) ∈ lw_tbl := List.mem_of_getElem? (i := 758) rfl
set_option maxRecDepth 100000 in
theorem kw714 : Jvm.Cond.instanceMethod ({ cls := "AccessGateModel", name := "<init>", desc := "()V" } : Jvm.MethodName) ∈ lw_tbl := List.mem_of_getElem? (i := 759) rfl
set_option maxRecDepth 100000 in
theorem kw715 : Jvm.Cond.code ({ cls := "AccessGateModel", name := "<init>", desc := "()V" } : Jvm.MethodName) prog_10_method_1_code (1 : Nat) (Option.none : Option Jvm.ClassFile.FieldType) ∈ lw_tbl := List.mem_of_getElem? (i := 760) rfl
set_option maxRecDepth 100000 in
theorem kw716 : Jvm.Cond.methodLink "AccessGateModel" (1 : Nat) ({ cls := "java/lang/Object", name := "<init>", desc := "()V" } : Jvm.MethodName) ∈ lw_tbl := List.mem_of_getElem? (i := 761) rfl
set_option maxRecDepth 100000 in
theorem kw717 : Jvm.Cond.fieldLink "AccessGateModel" (7 : Nat) "AccessGateModel" "teams" "[I" ∈ lw_tbl := List.mem_of_getElem? (i := 762) rfl
set_option maxRecDepth 100000 in
theorem kw718 : Jvm.Cond.fieldLink "AccessGateModel" (13 : Nat) "AccessGateModel" "labels" "[Z" ∈ lw_tbl := List.mem_of_getElem? (i := 763) rfl
set_option maxRecDepth 100000 in
theorem kw719 : Jvm.Cond.fieldLink "AccessGateModel" (90 : Nat) "AccessGateModel" "people" "I" ∈ lw_tbl := List.mem_of_getElem? (i := 764) rfl
set_option maxRecDepth 100000 in
theorem kw720 : Jvm.Cond.fieldLink "AccessGateModel" (17 : Nat) "AccessGateModel" "labelOf" "[I" ∈ lw_tbl := List.mem_of_getElem? (i := 765) rfl
set_option maxRecDepth 100000 in
theorem kw721 : Jvm.Cond.fieldLink "AccessGateModel" (97 : Nat) "AccessGateModel" "machines" "I" ∈ lw_tbl := List.mem_of_getElem? (i := 766) rfl
set_option maxRecDepth 100000 in
theorem kw722 : Jvm.Cond.fieldLink "AccessGateModel" (119 : Nat) "AccessGateModel" "clock" "I" ∈ lw_tbl := List.mem_of_getElem? (i := 767) rfl
set_option maxRecDepth 100000 in
theorem kw723 : Jvm.Cond.fieldLink "AccessGateModel" (20 : Nat) "AccessGateModel" "rightPeople" "[I" ∈ lw_tbl := List.mem_of_getElem? (i := 768) rfl
set_option maxRecDepth 100000 in
theorem kw724 : Jvm.Cond.fieldLink "AccessGateModel" (23 : Nat) "AccessGateModel" "rightMachines" "[I" ∈ lw_tbl := List.mem_of_getElem? (i := 769) rfl
set_option maxRecDepth 100000 in
theorem kw725 : Jvm.Cond.fieldLink "AccessGateModel" (26 : Nat) "AccessGateModel" "begins" "[I" ∈ lw_tbl := List.mem_of_getElem? (i := 770) rfl
set_option maxRecDepth 100000 in
theorem kw726 : Jvm.Cond.fieldLink "AccessGateModel" (29 : Nat) "AccessGateModel" "ends" "[I" ∈ lw_tbl := List.mem_of_getElem? (i := 771) rfl
set_option maxRecDepth 100000 in
theorem kw727 : Jvm.Cond.fieldLink "AccessGateModel" (127 : Nat) "AccessGateModel" "rights" "I" ∈ lw_tbl := List.mem_of_getElem? (i := 772) rfl
set_option maxRecDepth 100000 in
theorem kw728 : Jvm.Cond.fieldLink "AccessGateModel" (32 : Nat) "AccessGateModel" "askPeople" "[I" ∈ lw_tbl := List.mem_of_getElem? (i := 773) rfl
set_option maxRecDepth 100000 in
theorem kw729 : Jvm.Cond.fieldLink "AccessGateModel" (35 : Nat) "AccessGateModel" "askMachines" "[I" ∈ lw_tbl := List.mem_of_getElem? (i := 774) rfl
set_option maxRecDepth 100000 in
theorem kw730 : Jvm.Cond.fieldLink "AccessGateModel" (38 : Nat) "AccessGateModel" "askMinutes" "[I" ∈ lw_tbl := List.mem_of_getElem? (i := 775) rfl
set_option maxRecDepth 100000 in
theorem kw731 : Jvm.Cond.fieldLink "AccessGateModel" (41 : Nat) "AccessGateModel" "askTimes" "[I" ∈ lw_tbl := List.mem_of_getElem? (i := 776) rfl
set_option maxRecDepth 100000 in
theorem kw732 : Jvm.Cond.fieldLink "AccessGateModel" (44 : Nat) "AccessGateModel" "askStates" "[I" ∈ lw_tbl := List.mem_of_getElem? (i := 777) rfl
set_option maxRecDepth 100000 in
theorem kw733 : Jvm.Cond.fieldLink "AccessGateModel" (47 : Nat) "AccessGateModel" "firstBy" "[I" ∈ lw_tbl := List.mem_of_getElem? (i := 778) rfl
set_option maxRecDepth 100000 in
theorem kw734 : Jvm.Cond.fieldLink "AccessGateModel" (107 : Nat) "AccessGateModel" "asks" "I" ∈ lw_tbl := List.mem_of_getElem? (i := 779) rfl
set_option maxRecDepth 100000 in
theorem kw735 : Jvm.Cond.fieldLink "AccessGateModel" (50 : Nat) "AccessGateModel" "entryPeople" "[I" ∈ lw_tbl := List.mem_of_getElem? (i := 780) rfl
set_option maxRecDepth 100000 in
theorem kw736 : Jvm.Cond.fieldLink "AccessGateModel" (53 : Nat) "AccessGateModel" "entryMachines" "[I" ∈ lw_tbl := List.mem_of_getElem? (i := 781) rfl
set_option maxRecDepth 100000 in
theorem kw737 : Jvm.Cond.fieldLink "AccessGateModel" (56 : Nat) "AccessGateModel" "entryTimes" "[I" ∈ lw_tbl := List.mem_of_getElem? (i := 782) rfl
set_option maxRecDepth 100000 in
theorem kw738 : Jvm.Cond.fieldLink "AccessGateModel" (59 : Nat) "AccessGateModel" "looked" "[Z" ∈ lw_tbl := List.mem_of_getElem? (i := 783) rfl
set_option maxRecDepth 100000 in
theorem kw739 : Jvm.Cond.fieldLink "AccessGateModel" (110 : Nat) "AccessGateModel" "entries" "I" ∈ lw_tbl := List.mem_of_getElem? (i := 784) rfl
set_option maxRecDepth 100000 in
theorem kw740 : Jvm.Cond.fieldLink "AccessGateModel" (62 : Nat) "AccessGateModel" "sessionPeople" "[I" ∈ lw_tbl := List.mem_of_getElem? (i := 785) rfl
set_option maxRecDepth 100000 in
theorem kw741 : Jvm.Cond.fieldLink "AccessGateModel" (65 : Nat) "AccessGateModel" "sessionMachines" "[I" ∈ lw_tbl := List.mem_of_getElem? (i := 786) rfl
set_option maxRecDepth 100000 in
theorem kw742 : Jvm.Cond.fieldLink "AccessGateModel" (68 : Nat) "AccessGateModel" "opens" "[Z" ∈ lw_tbl := List.mem_of_getElem? (i := 787) rfl
set_option maxRecDepth 100000 in
theorem kw743 : Jvm.Cond.fieldLink "AccessGateModel" (71 : Nat) "AccessGateModel" "typed" "[I" ∈ lw_tbl := List.mem_of_getElem? (i := 788) rfl
set_option maxRecDepth 100000 in
theorem kw744 : Jvm.Cond.fieldLink "AccessGateModel" (74 : Nat) "AccessGateModel" "held" "[I" ∈ lw_tbl := List.mem_of_getElem? (i := 789) rfl
set_option maxRecDepth 100000 in
theorem kw745 : Jvm.Cond.fieldLink "AccessGateModel" (77 : Nat) "AccessGateModel" "through" "[I" ∈ lw_tbl := List.mem_of_getElem? (i := 790) rfl
set_option maxRecDepth 100000 in
theorem kw746 : Jvm.Cond.fieldLink "AccessGateModel" (113 : Nat) "AccessGateModel" "sessions" "I" ∈ lw_tbl := List.mem_of_getElem? (i := 791) rfl
set_option maxRecDepth 100000 in
theorem kw747 : Jvm.Cond.fieldLink "AccessGateModel" (80 : Nat) "AccessGateModel" "kinds" "[I" ∈ lw_tbl := List.mem_of_getElem? (i := 792) rfl
set_option maxRecDepth 100000 in
theorem kw748 : Jvm.Cond.fieldLink "AccessGateModel" (83 : Nat) "AccessGateModel" "seals" "[I" ∈ lw_tbl := List.mem_of_getElem? (i := 793) rfl
set_option maxRecDepth 100000 in
theorem kw749 : Jvm.Cond.fieldLink "AccessGateModel" (116 : Nat) "AccessGateModel" "steps" "I" ∈ lw_tbl := List.mem_of_getElem? (i := 794) rfl
set_option maxRecDepth 100000 in
theorem kw750 : Jvm.Cond.fieldLink "AccessGateModel" (86 : Nat) "AccessGateModel" "last" "I" ∈ lw_tbl := List.mem_of_getElem? (i := 795) rfl
set_option maxRecDepth 100000 in
theorem kw820 : Jvm.Cond.arrayClass Jvm.ClassFile.FieldType.boolean ∈ lw_tbl := List.mem_of_getElem? (i := 865) rfl
set_option maxRecDepth 100000 in
theorem kw821 : Jvm.Cond.methodLink "AccessGateLaw" (93 : Nat) ({ cls := "AccessGateModel", name := "thrown", desc := "()I" } : Jvm.MethodName) ∈ lw_tbl := List.mem_of_getElem? (i := 866) rfl
set_option maxRecDepth 100000 in
theorem kw822 : Jvm.Cond.instanceMethod ({ cls := "AccessGateModel", name := "thrown", desc := "()I" } : Jvm.MethodName) ∈ lw_tbl := List.mem_of_getElem? (i := 867) rfl
set_option maxRecDepth 100000 in
theorem kw823 : Jvm.Cond.selects "AccessGateModel" ({ cls := "AccessGateModel", name := "thrown", desc := "()I" } : Jvm.MethodName) ({ cls := "AccessGateModel", name := "thrown", desc := "()I" } : Jvm.MethodName) ∈ lw_tbl := List.mem_of_getElem? (i := 868) rfl
set_option maxRecDepth 100000 in
theorem kw824 : Jvm.Cond.code ({ cls := "AccessGateModel", name := "thrown", desc := "()I" } : Jvm.MethodName) prog_10_method_2_code (1 : Nat) (Option.some Jvm.ClassFile.FieldType.int) ∈ lw_tbl := List.mem_of_getElem? (i := 869) rfl
set_option maxRecDepth 100000 in
theorem kw825 : Jvm.Cond.methodLink "AccessGateLaw" (92 : Nat) ({ cls := "AccessGateModel", name := "addPerson", desc := "(I)I" } : Jvm.MethodName) ∈ lw_tbl := List.mem_of_getElem? (i := 870) rfl
set_option maxRecDepth 100000 in
theorem kw826 : Jvm.Cond.instanceMethod ({ cls := "AccessGateModel", name := "addPerson", desc := "(I)I" } : Jvm.MethodName) ∈ lw_tbl := List.mem_of_getElem? (i := 871) rfl
set_option maxRecDepth 100000 in
theorem kw827 : Jvm.Cond.selects "AccessGateModel" ({ cls := "AccessGateModel", name := "addPerson", desc := "(I)I" } : Jvm.MethodName) ({ cls := "AccessGateModel", name := "addPerson", desc := "(I)I" } : Jvm.MethodName) ∈ lw_tbl := List.mem_of_getElem? (i := 872) rfl
set_option maxRecDepth 100000 in
theorem kw828 : Jvm.Cond.code ({ cls := "AccessGateModel", name := "addPerson", desc := "(I)I" } : Jvm.MethodName) prog_10_method_12_code (2 : Nat) (Option.some Jvm.ClassFile.FieldType.int) ∈ lw_tbl := List.mem_of_getElem? (i := 873) rfl
set_option maxRecDepth 100000 in
theorem kw829 : Jvm.Cond.methodLink "AccessGateModel" (93 : Nat) ({ cls := "AccessGateModel", name := "in", desc := "(III)Z" } : Jvm.MethodName) ∈ lw_tbl := List.mem_of_getElem? (i := 874) rfl
set_option maxRecDepth 100000 in
theorem kw830 : Jvm.Cond.static ({ cls := "AccessGateModel", name := "in", desc := "(III)Z" } : Jvm.MethodName) ∈ lw_tbl := List.mem_of_getElem? (i := 875) rfl
set_option maxRecDepth 100000 in
theorem kw831 : Jvm.Cond.code ({ cls := "AccessGateModel", name := "in", desc := "(III)Z" } : Jvm.MethodName) prog_10_method_3_code (3 : Nat) (Option.some Jvm.ClassFile.FieldType.boolean) ∈ lw_tbl := List.mem_of_getElem? (i := 876) rfl
set_option maxRecDepth 100000 in
theorem kw832 : Jvm.Cond.methodLink "AccessGateModel" (123 : Nat) ({ cls := "AccessGateModel", name := "goes", desc := "(ZZZ)Z" } : Jvm.MethodName) ∈ lw_tbl := List.mem_of_getElem? (i := 877) rfl
set_option maxRecDepth 100000 in
theorem kw834 : Jvm.Cond.instanceMethod ({ cls := "AccessGateModel", name := "goes", desc := "(ZZZ)Z" } : Jvm.MethodName) ∈ lw_tbl := List.mem_of_getElem? (i := 879) rfl
set_option maxRecDepth 100000 in
theorem kw835 : Jvm.Cond.code ({ cls := "AccessGateModel", name := "goes", desc := "(ZZZ)Z" } : Jvm.MethodName) prog_10_method_4_code (4 : Nat) (Option.some Jvm.ClassFile.FieldType.boolean) ∈ lw_tbl := List.mem_of_getElem? (i := 880) rfl
set_option maxRecDepth 100000 in
theorem kw836 : Jvm.Cond.methodLink "AccessGateLaw" (99 : Nat) ({ cls := "AccessGateModel", name := "addMachine", desc := "(I)I" } : Jvm.MethodName) ∈ lw_tbl := List.mem_of_getElem? (i := 881) rfl
set_option maxRecDepth 100000 in
theorem kw837 : Jvm.Cond.instanceMethod ({ cls := "AccessGateModel", name := "addMachine", desc := "(I)I" } : Jvm.MethodName) ∈ lw_tbl := List.mem_of_getElem? (i := 882) rfl
set_option maxRecDepth 100000 in
theorem kw838 : Jvm.Cond.selects "AccessGateModel" ({ cls := "AccessGateModel", name := "addMachine", desc := "(I)I" } : Jvm.MethodName) ({ cls := "AccessGateModel", name := "addMachine", desc := "(I)I" } : Jvm.MethodName) ∈ lw_tbl := List.mem_of_getElem? (i := 883) rfl
set_option maxRecDepth 100000 in
theorem kw839 : Jvm.Cond.code ({ cls := "AccessGateModel", name := "addMachine", desc := "(I)I" } : Jvm.MethodName) prog_10_method_13_code (2 : Nat) (Option.some Jvm.ClassFile.FieldType.int) ∈ lw_tbl := List.mem_of_getElem? (i := 884) rfl
set_option maxRecDepth 100000 in
theorem kw840 : Jvm.Cond.methodLink "AccessGateLaw" (103 : Nat) ({ cls := "AccessGateModel", name := "setLabel", desc := "(IIZ)I" } : Jvm.MethodName) ∈ lw_tbl := List.mem_of_getElem? (i := 885) rfl
set_option maxRecDepth 100000 in
theorem kw841 : Jvm.Cond.instanceMethod ({ cls := "AccessGateModel", name := "setLabel", desc := "(IIZ)I" } : Jvm.MethodName) ∈ lw_tbl := List.mem_of_getElem? (i := 886) rfl
set_option maxRecDepth 100000 in
theorem kw842 : Jvm.Cond.selects "AccessGateModel" ({ cls := "AccessGateModel", name := "setLabel", desc := "(IIZ)I" } : Jvm.MethodName) ({ cls := "AccessGateModel", name := "setLabel", desc := "(IIZ)I" } : Jvm.MethodName) ∈ lw_tbl := List.mem_of_getElem? (i := 887) rfl
set_option maxRecDepth 100000 in
theorem kw843 : Jvm.Cond.code ({ cls := "AccessGateModel", name := "setLabel", desc := "(IIZ)I" } : Jvm.MethodName) prog_10_method_21_code (5 : Nat) (Option.some Jvm.ClassFile.FieldType.int) ∈ lw_tbl := List.mem_of_getElem? (i := 888) rfl
set_option maxRecDepth 100000 in
theorem kw844 : Jvm.Cond.methodLink "AccessGateModel" (100 : Nat) ({ cls := "AccessGateModel", name := "isPerson", desc := "(I)Z" } : Jvm.MethodName) ∈ lw_tbl := List.mem_of_getElem? (i := 889) rfl
set_option maxRecDepth 100000 in
theorem kw846 : Jvm.Cond.instanceMethod ({ cls := "AccessGateModel", name := "isPerson", desc := "(I)Z" } : Jvm.MethodName) ∈ lw_tbl := List.mem_of_getElem? (i := 891) rfl
set_option maxRecDepth 100000 in
theorem kw847 : Jvm.Cond.code ({ cls := "AccessGateModel", name := "isPerson", desc := "(I)Z" } : Jvm.MethodName) prog_10_method_5_code (2 : Nat) (Option.some Jvm.ClassFile.FieldType.boolean) ∈ lw_tbl := List.mem_of_getElem? (i := 892) rfl
set_option maxRecDepth 100000 in
theorem kw848 : Jvm.Cond.methodLink "AccessGateModel" (141 : Nat) ({ cls := "AccessGateModel", name := "endsRights", desc := "(II)V" } : Jvm.MethodName) ∈ lw_tbl := List.mem_of_getElem? (i := 893) rfl
set_option maxRecDepth 100000 in
theorem kw850 : Jvm.Cond.instanceMethod ({ cls := "AccessGateModel", name := "endsRights", desc := "(II)V" } : Jvm.MethodName) ∈ lw_tbl := List.mem_of_getElem? (i := 895) rfl
set_option maxRecDepth 100000 in
theorem kw851 : Jvm.Cond.code ({ cls := "AccessGateModel", name := "endsRights", desc := "(II)V" } : Jvm.MethodName) prog_10_method_17_code (5 : Nat) (Option.none : Option Jvm.ClassFile.FieldType) ∈ lw_tbl := List.mem_of_getElem? (i := 896) rfl
set_option maxRecDepth 100000 in
theorem kw852 : Jvm.Cond.methodLink "AccessGateModel" (145 : Nat) ({ cls := "AccessGateModel", name := "deniesAsks", desc := "(II)V" } : Jvm.MethodName) ∈ lw_tbl := List.mem_of_getElem? (i := 897) rfl
set_option maxRecDepth 100000 in
theorem kw854 : Jvm.Cond.instanceMethod ({ cls := "AccessGateModel", name := "deniesAsks", desc := "(II)V" } : Jvm.MethodName) ∈ lw_tbl := List.mem_of_getElem? (i := 899) rfl
set_option maxRecDepth 100000 in
theorem kw855 : Jvm.Cond.code ({ cls := "AccessGateModel", name := "deniesAsks", desc := "(II)V" } : Jvm.MethodName) prog_10_method_18_code (5 : Nat) (Option.none : Option Jvm.ClassFile.FieldType) ∈ lw_tbl := List.mem_of_getElem? (i := 900) rfl
set_option maxRecDepth 100000 in
theorem kw856 : Jvm.Cond.methodLink "AccessGateModel" (148 : Nat) ({ cls := "AccessGateModel", name := "closes", desc := "(I)I" } : Jvm.MethodName) ∈ lw_tbl := List.mem_of_getElem? (i := 901) rfl
set_option maxRecDepth 100000 in
theorem kw858 : Jvm.Cond.instanceMethod ({ cls := "AccessGateModel", name := "closes", desc := "(I)I" } : Jvm.MethodName) ∈ lw_tbl := List.mem_of_getElem? (i := 903) rfl
set_option maxRecDepth 100000 in
theorem kw859 : Jvm.Cond.code ({ cls := "AccessGateModel", name := "closes", desc := "(I)I" } : Jvm.MethodName) prog_10_method_20_code (4 : Nat) (Option.some Jvm.ClassFile.FieldType.int) ∈ lw_tbl := List.mem_of_getElem? (i := 904) rfl
set_option maxRecDepth 100000 in
theorem kw860 : Jvm.Cond.methodLink "AccessGateModel" (134 : Nat) ({ cls := "AccessGateModel", name := "holdsAt", desc := "(III)Z" } : Jvm.MethodName) ∈ lw_tbl := List.mem_of_getElem? (i := 905) rfl
set_option maxRecDepth 100000 in
theorem kw862 : Jvm.Cond.instanceMethod ({ cls := "AccessGateModel", name := "holdsAt", desc := "(III)Z" } : Jvm.MethodName) ∈ lw_tbl := List.mem_of_getElem? (i := 907) rfl
set_option maxRecDepth 100000 in
theorem kw863 : Jvm.Cond.code ({ cls := "AccessGateModel", name := "holdsAt", desc := "(III)Z" } : Jvm.MethodName) prog_10_method_15_code (6 : Nat) (Option.some Jvm.ClassFile.FieldType.boolean) ∈ lw_tbl := List.mem_of_getElem? (i := 908) rfl
set_option maxRecDepth 100000 in
theorem kw864 : Jvm.Cond.methodLink "AccessGateModel" (137 : Nat) ({ cls := "AccessGateModel", name := "shuts", desc := "(I)V" } : Jvm.MethodName) ∈ lw_tbl := List.mem_of_getElem? (i := 909) rfl
set_option maxRecDepth 100000 in
theorem kw866 : Jvm.Cond.instanceMethod ({ cls := "AccessGateModel", name := "shuts", desc := "(I)V" } : Jvm.MethodName) ∈ lw_tbl := List.mem_of_getElem? (i := 911) rfl
set_option maxRecDepth 100000 in
theorem kw867 : Jvm.Cond.code ({ cls := "AccessGateModel", name := "shuts", desc := "(I)V" } : Jvm.MethodName) prog_10_method_19_code (2 : Nat) (Option.none : Option Jvm.ClassFile.FieldType) ∈ lw_tbl := List.mem_of_getElem? (i := 912) rfl
set_option maxRecDepth 100000 in
theorem kw868 : Jvm.Cond.methodLink "AccessGateModel" (130 : Nat) ({ cls := "AccessGateModel", name := "writes", desc := "(III)V" } : Jvm.MethodName) ∈ lw_tbl := List.mem_of_getElem? (i := 913) rfl
set_option maxRecDepth 100000 in
theorem kw870 : Jvm.Cond.instanceMethod ({ cls := "AccessGateModel", name := "writes", desc := "(III)V" } : Jvm.MethodName) ∈ lw_tbl := List.mem_of_getElem? (i := 915) rfl
set_option maxRecDepth 100000 in
theorem kw871 : Jvm.Cond.code ({ cls := "AccessGateModel", name := "writes", desc := "(III)V" } : Jvm.MethodName) prog_10_method_11_code (5 : Nat) (Option.none : Option Jvm.ClassFile.FieldType) ∈ lw_tbl := List.mem_of_getElem? (i := 916) rfl
set_option maxRecDepth 100000 in
theorem kw872 : Jvm.Cond.constant "AccessGateModel" (122 : Nat) (1000003 : Int32) ∈ lw_tbl := List.mem_of_getElem? (i := 917) rfl
set_option maxRecDepth 100000 in
theorem kw873 : Jvm.Cond.methodLink "AccessGateLaw" (107 : Nat) ({ cls := "AccessGateModel", name := "takeAway", desc := "(II)I" } : Jvm.MethodName) ∈ lw_tbl := List.mem_of_getElem? (i := 918) rfl
set_option maxRecDepth 100000 in
theorem kw874 : Jvm.Cond.instanceMethod ({ cls := "AccessGateModel", name := "takeAway", desc := "(II)I" } : Jvm.MethodName) ∈ lw_tbl := List.mem_of_getElem? (i := 919) rfl
set_option maxRecDepth 100000 in
theorem kw875 : Jvm.Cond.selects "AccessGateModel" ({ cls := "AccessGateModel", name := "takeAway", desc := "(II)I" } : Jvm.MethodName) ({ cls := "AccessGateModel", name := "takeAway", desc := "(II)I" } : Jvm.MethodName) ∈ lw_tbl := List.mem_of_getElem? (i := 920) rfl
set_option maxRecDepth 100000 in
theorem kw876 : Jvm.Cond.code ({ cls := "AccessGateModel", name := "takeAway", desc := "(II)I" } : Jvm.MethodName) prog_10_method_22_code (3 : Nat) (Option.some Jvm.ClassFile.FieldType.int) ∈ lw_tbl := List.mem_of_getElem? (i := 921) rfl
set_option maxRecDepth 100000 in
theorem kw877 : Jvm.Cond.methodLink "AccessGateModel" (152 : Nat) ({ cls := "AccessGateModel", name := "areBoth", desc := "(II)Z" } : Jvm.MethodName) ∈ lw_tbl := List.mem_of_getElem? (i := 922) rfl
set_option maxRecDepth 100000 in
theorem kw879 : Jvm.Cond.instanceMethod ({ cls := "AccessGateModel", name := "areBoth", desc := "(II)Z" } : Jvm.MethodName) ∈ lw_tbl := List.mem_of_getElem? (i := 924) rfl
set_option maxRecDepth 100000 in
theorem kw880 : Jvm.Cond.code ({ cls := "AccessGateModel", name := "areBoth", desc := "(II)Z" } : Jvm.MethodName) prog_10_method_7_code (3 : Nat) (Option.some Jvm.ClassFile.FieldType.boolean) ∈ lw_tbl := List.mem_of_getElem? (i := 925) rfl
set_option maxRecDepth 100000 in
theorem kw881 : Jvm.Cond.methodLink "AccessGateModel" (104 : Nat) ({ cls := "AccessGateModel", name := "isMachine", desc := "(I)Z" } : Jvm.MethodName) ∈ lw_tbl := List.mem_of_getElem? (i := 926) rfl
set_option maxRecDepth 100000 in
theorem kw883 : Jvm.Cond.instanceMethod ({ cls := "AccessGateModel", name := "isMachine", desc := "(I)Z" } : Jvm.MethodName) ∈ lw_tbl := List.mem_of_getElem? (i := 928) rfl
set_option maxRecDepth 100000 in
theorem kw884 : Jvm.Cond.code ({ cls := "AccessGateModel", name := "isMachine", desc := "(I)Z" } : Jvm.MethodName) prog_10_method_6_code (2 : Nat) (Option.some Jvm.ClassFile.FieldType.boolean) ∈ lw_tbl := List.mem_of_getElem? (i := 929) rfl
set_option maxRecDepth 100000 in
theorem kw885 : Jvm.Cond.methodLink "AccessGateLaw" (111 : Nat) ({ cls := "AccessGateModel", name := "ask", desc := "(III)I" } : Jvm.MethodName) ∈ lw_tbl := List.mem_of_getElem? (i := 930) rfl
set_option maxRecDepth 100000 in
theorem kw886 : Jvm.Cond.instanceMethod ({ cls := "AccessGateModel", name := "ask", desc := "(III)I" } : Jvm.MethodName) ∈ lw_tbl := List.mem_of_getElem? (i := 931) rfl
set_option maxRecDepth 100000 in
theorem kw887 : Jvm.Cond.selects "AccessGateModel" ({ cls := "AccessGateModel", name := "ask", desc := "(III)I" } : Jvm.MethodName) ({ cls := "AccessGateModel", name := "ask", desc := "(III)I" } : Jvm.MethodName) ∈ lw_tbl := List.mem_of_getElem? (i := 932) rfl
set_option maxRecDepth 100000 in
theorem kw888 : Jvm.Cond.code ({ cls := "AccessGateModel", name := "ask", desc := "(III)I" } : Jvm.MethodName) prog_10_method_25_code (4 : Nat) (Option.some Jvm.ClassFile.FieldType.int) ∈ lw_tbl := List.mem_of_getElem? (i := 933) rfl
set_option maxRecDepth 100000 in
theorem kw889 : Jvm.Cond.methodLink "AccessGateModel" (162 : Nat) ({ cls := "AccessGateModel", name := "canAsk", desc := "(II)Z" } : Jvm.MethodName) ∈ lw_tbl := List.mem_of_getElem? (i := 934) rfl
set_option maxRecDepth 100000 in
theorem kw891 : Jvm.Cond.instanceMethod ({ cls := "AccessGateModel", name := "canAsk", desc := "(II)Z" } : Jvm.MethodName) ∈ lw_tbl := List.mem_of_getElem? (i := 936) rfl
set_option maxRecDepth 100000 in
theorem kw892 : Jvm.Cond.code ({ cls := "AccessGateModel", name := "canAsk", desc := "(II)Z" } : Jvm.MethodName) prog_10_method_24_code (3 : Nat) (Option.some Jvm.ClassFile.FieldType.boolean) ∈ lw_tbl := List.mem_of_getElem? (i := 937) rfl
set_option maxRecDepth 100000 in
theorem kw893 : Jvm.Cond.methodLink "AccessGateModel" (156 : Nat) ({ cls := "AccessGateModel", name := "hasLabel", desc := "(II)Z" } : Jvm.MethodName) ∈ lw_tbl := List.mem_of_getElem? (i := 938) rfl
set_option maxRecDepth 100000 in
theorem kw895 : Jvm.Cond.instanceMethod ({ cls := "AccessGateModel", name := "hasLabel", desc := "(II)Z" } : Jvm.MethodName) ∈ lw_tbl := List.mem_of_getElem? (i := 940) rfl
set_option maxRecDepth 100000 in
theorem kw896 : Jvm.Cond.code ({ cls := "AccessGateModel", name := "hasLabel", desc := "(II)Z" } : Jvm.MethodName) prog_10_method_14_code (3 : Nat) (Option.some Jvm.ClassFile.FieldType.boolean) ∈ lw_tbl := List.mem_of_getElem? (i := 941) rfl
set_option maxRecDepth 100000 in
theorem kw897 : Jvm.Cond.methodLink "AccessGateModel" (159 : Nat) ({ cls := "AccessGateModel", name := "overdues", desc := "(I)I" } : Jvm.MethodName) ∈ lw_tbl := List.mem_of_getElem? (i := 942) rfl
set_option maxRecDepth 100000 in
theorem kw899 : Jvm.Cond.instanceMethod ({ cls := "AccessGateModel", name := "overdues", desc := "(I)I" } : Jvm.MethodName) ∈ lw_tbl := List.mem_of_getElem? (i := 944) rfl
set_option maxRecDepth 100000 in
theorem kw900 : Jvm.Cond.code ({ cls := "AccessGateModel", name := "overdues", desc := "(I)I" } : Jvm.MethodName) prog_10_method_23_code (4 : Nat) (Option.some Jvm.ClassFile.FieldType.int) ∈ lw_tbl := List.mem_of_getElem? (i := 945) rfl
set_option maxRecDepth 100000 in
theorem kw901 : Jvm.Cond.methodLink "AccessGateLaw" (114 : Nat) ({ cls := "AccessGateModel", name := "approve", desc := "(II)Z" } : Jvm.MethodName) ∈ lw_tbl := List.mem_of_getElem? (i := 946) rfl
set_option maxRecDepth 100000 in
theorem kw902 : Jvm.Cond.instanceMethod ({ cls := "AccessGateModel", name := "approve", desc := "(II)Z" } : Jvm.MethodName) ∈ lw_tbl := List.mem_of_getElem? (i := 947) rfl
set_option maxRecDepth 100000 in
theorem kw903 : Jvm.Cond.selects "AccessGateModel" ({ cls := "AccessGateModel", name := "approve", desc := "(II)Z" } : Jvm.MethodName) ({ cls := "AccessGateModel", name := "approve", desc := "(II)Z" } : Jvm.MethodName) ∈ lw_tbl := List.mem_of_getElem? (i := 948) rfl
set_option maxRecDepth 100000 in
theorem kw904 : Jvm.Cond.code ({ cls := "AccessGateModel", name := "approve", desc := "(II)Z" } : Jvm.MethodName) prog_10_method_27_code (4 : Nat) (Option.some Jvm.ClassFile.FieldType.boolean) ∈ lw_tbl := List.mem_of_getElem? (i := 949) rfl
set_option maxRecDepth 100000 in
theorem kw905 : Jvm.Cond.methodLink "AccessGateModel" (168 : Nat) ({ cls := "AccessGateModel", name := "canJudge", desc := "(II)Z" } : Jvm.MethodName) ∈ lw_tbl := List.mem_of_getElem? (i := 950) rfl
set_option maxRecDepth 100000 in
theorem kw907 : Jvm.Cond.instanceMethod ({ cls := "AccessGateModel", name := "canJudge", desc := "(II)Z" } : Jvm.MethodName) ∈ lw_tbl := List.mem_of_getElem? (i := 952) rfl
set_option maxRecDepth 100000 in
theorem kw908 : Jvm.Cond.code ({ cls := "AccessGateModel", name := "canJudge", desc := "(II)Z" } : Jvm.MethodName) prog_10_method_26_code (3 : Nat) (Option.some Jvm.ClassFile.FieldType.boolean) ∈ lw_tbl := List.mem_of_getElem? (i := 953) rfl
set_option maxRecDepth 100000 in
theorem kw909 : Jvm.Cond.methodLink "AccessGateModel" (165 : Nat) ({ cls := "AccessGateModel", name := "isAsk", desc := "(I)Z" } : Jvm.MethodName) ∈ lw_tbl := List.mem_of_getElem? (i := 954) rfl
set_option maxRecDepth 100000 in
theorem kw911 : Jvm.Cond.instanceMethod ({ cls := "AccessGateModel", name := "isAsk", desc := "(I)Z" } : Jvm.MethodName) ∈ lw_tbl := List.mem_of_getElem? (i := 956) rfl
set_option maxRecDepth 100000 in
theorem kw912 : Jvm.Cond.code ({ cls := "AccessGateModel", name := "isAsk", desc := "(I)Z" } : Jvm.MethodName) prog_10_method_8_code (2 : Nat) (Option.some Jvm.ClassFile.FieldType.boolean) ∈ lw_tbl := List.mem_of_getElem? (i := 957) rfl
set_option maxRecDepth 100000 in
theorem kw913 : Jvm.Cond.methodLink "AccessGateModel" (171 : Nat) ({ cls := "AccessGateModel", name := "grants", desc := "(III)V" } : Jvm.MethodName) ∈ lw_tbl := List.mem_of_getElem? (i := 958) rfl
set_option maxRecDepth 100000 in
theorem kw915 : Jvm.Cond.instanceMethod ({ cls := "AccessGateModel", name := "grants", desc := "(III)V" } : Jvm.MethodName) ∈ lw_tbl := List.mem_of_getElem? (i := 960) rfl
set_option maxRecDepth 100000 in
theorem kw916 : Jvm.Cond.code ({ cls := "AccessGateModel", name := "grants", desc := "(III)V" } : Jvm.MethodName) prog_10_method_16_code (4 : Nat) (Option.none : Option Jvm.ClassFile.FieldType) ∈ lw_tbl := List.mem_of_getElem? (i := 961) rfl
set_option maxRecDepth 100000 in
theorem kw917 : Jvm.Cond.methodLink "AccessGateLaw" (118 : Nat) ({ cls := "AccessGateModel", name := "deny", desc := "(II)V" } : Jvm.MethodName) ∈ lw_tbl := List.mem_of_getElem? (i := 962) rfl
set_option maxRecDepth 100000 in
theorem kw918 : Jvm.Cond.instanceMethod ({ cls := "AccessGateModel", name := "deny", desc := "(II)V" } : Jvm.MethodName) ∈ lw_tbl := List.mem_of_getElem? (i := 963) rfl
set_option maxRecDepth 100000 in
theorem kw919 : Jvm.Cond.selects "AccessGateModel" ({ cls := "AccessGateModel", name := "deny", desc := "(II)V" } : Jvm.MethodName) ({ cls := "AccessGateModel", name := "deny", desc := "(II)V" } : Jvm.MethodName) ∈ lw_tbl := List.mem_of_getElem? (i := 964) rfl
set_option maxRecDepth 100000 in
theorem kw920 : Jvm.Cond.code ({ cls := "AccessGateModel", name := "deny", desc := "(II)V" } : Jvm.MethodName) prog_10_method_28_code (3 : Nat) (Option.none : Option Jvm.ClassFile.FieldType) ∈ lw_tbl := List.mem_of_getElem? (i := 965) rfl
set_option maxRecDepth 100000 in
theorem kw921 : Jvm.Cond.methodLink "AccessGateLaw" (121 : Nat) ({ cls := "AccessGateModel", name := "askState", desc := "(I)I" } : Jvm.MethodName) ∈ lw_tbl := List.mem_of_getElem? (i := 966) rfl
set_option maxRecDepth 100000 in
theorem kw922 : Jvm.Cond.instanceMethod ({ cls := "AccessGateModel", name := "askState", desc := "(I)I" } : Jvm.MethodName) ∈ lw_tbl := List.mem_of_getElem? (i := 967) rfl
set_option maxRecDepth 100000 in
theorem kw923 : Jvm.Cond.selects "AccessGateModel" ({ cls := "AccessGateModel", name := "askState", desc := "(I)I" } : Jvm.MethodName) ({ cls := "AccessGateModel", name := "askState", desc := "(I)I" } : Jvm.MethodName) ∈ lw_tbl := List.mem_of_getElem? (i := 968) rfl
set_option maxRecDepth 100000 in
theorem kw924 : Jvm.Cond.code ({ cls := "AccessGateModel", name := "askState", desc := "(I)I" } : Jvm.MethodName) prog_10_method_29_code (2 : Nat) (Option.some Jvm.ClassFile.FieldType.int) ∈ lw_tbl := List.mem_of_getElem? (i := 969) rfl
set_option maxRecDepth 100000 in
theorem kw925 : Jvm.Cond.methodLink "AccessGateLaw" (124 : Nat) ({ cls := "AccessGateModel", name := "enter", desc := "(II)I" } : Jvm.MethodName) ∈ lw_tbl := List.mem_of_getElem? (i := 970) rfl
set_option maxRecDepth 100000 in
theorem kw926 : Jvm.Cond.instanceMethod ({ cls := "AccessGateModel", name := "enter", desc := "(II)I" } : Jvm.MethodName) ∈ lw_tbl := List.mem_of_getElem? (i := 971) rfl
set_option maxRecDepth 100000 in
theorem kw927 : Jvm.Cond.selects "AccessGateModel" ({ cls := "AccessGateModel", name := "enter", desc := "(II)I" } : Jvm.MethodName) ({ cls := "AccessGateModel", name := "enter", desc := "(II)I" } : Jvm.MethodName) ∈ lw_tbl := List.mem_of_getElem? (i := 972) rfl
set_option maxRecDepth 100000 in
theorem kw928 : Jvm.Cond.code ({ cls := "AccessGateModel", name := "enter", desc := "(II)I" } : Jvm.MethodName) prog_10_method_30_code (3 : Nat) (Option.some Jvm.ClassFile.FieldType.int) ∈ lw_tbl := List.mem_of_getElem? (i := 973) rfl
set_option maxRecDepth 100000 in
theorem kw929 : Jvm.Cond.methodLink "AccessGateLaw" (127 : Nat) ({ cls := "AccessGateModel", name := "lookAt", desc := "(II)I" } : Jvm.MethodName) ∈ lw_tbl := List.mem_of_getElem? (i := 974) rfl
set_option maxRecDepth 100000 in
theorem kw930 : Jvm.Cond.instanceMethod ({ cls := "AccessGateModel", name := "lookAt", desc := "(II)I" } : Jvm.MethodName) ∈ lw_tbl := List.mem_of_getElem? (i := 975) rfl
set_option maxRecDepth 100000 in
theorem kw931 : Jvm.Cond.selects "AccessGateModel" ({ cls := "AccessGateModel", name := "lookAt", desc := "(II)I" } : Jvm.MethodName) ({ cls := "AccessGateModel", name := "lookAt", desc := "(II)I" } : Jvm.MethodName) ∈ lw_tbl := List.mem_of_getElem? (i := 976) rfl
set_option maxRecDepth 100000 in
theorem kw932 : Jvm.Cond.code ({ cls := "AccessGateModel", name := "lookAt", desc := "(II)I" } : Jvm.MethodName) prog_10_method_31_code (4 : Nat) (Option.some Jvm.ClassFile.FieldType.int) ∈ lw_tbl := List.mem_of_getElem? (i := 977) rfl
set_option maxRecDepth 100000 in
theorem kw933 : Jvm.Cond.methodLink "AccessGateModel" (174 : Nat) ({ cls := "AccessGateModel", name := "isEntry", desc := "(I)Z" } : Jvm.MethodName) ∈ lw_tbl := List.mem_of_getElem? (i := 978) rfl
set_option maxRecDepth 100000 in
theorem kw935 : Jvm.Cond.instanceMethod ({ cls := "AccessGateModel", name := "isEntry", desc := "(I)Z" } : Jvm.MethodName) ∈ lw_tbl := List.mem_of_getElem? (i := 980) rfl
set_option maxRecDepth 100000 in
theorem kw936 : Jvm.Cond.code ({ cls := "AccessGateModel", name := "isEntry", desc := "(I)Z" } : Jvm.MethodName) prog_10_method_9_code (2 : Nat) (Option.some Jvm.ClassFile.FieldType.boolean) ∈ lw_tbl := List.mem_of_getElem? (i := 981) rfl
set_option maxRecDepth 100000 in
theorem kw937 : Jvm.Cond.methodLink "AccessGateLaw" (130 : Nat) ({ cls := "AccessGateModel", name := "overdue", desc := "(I)I" } : Jvm.MethodName) ∈ lw_tbl := List.mem_of_getElem? (i := 982) rfl
set_option maxRecDepth 100000 in
theorem kw938 : Jvm.Cond.instanceMethod ({ cls := "AccessGateModel", name := "overdue", desc := "(I)I" } : Jvm.MethodName) ∈ lw_tbl := List.mem_of_getElem? (i := 983) rfl
set_option maxRecDepth 100000 in
theorem kw939 : Jvm.Cond.selects "AccessGateModel" ({ cls := "AccessGateModel", name := "overdue", desc := "(I)I" } : Jvm.MethodName) ({ cls := "AccessGateModel", name := "overdue", desc := "(I)I" } : Jvm.MethodName) ∈ lw_tbl := List.mem_of_getElem? (i := 984) rfl
set_option maxRecDepth 100000 in
theorem kw940 : Jvm.Cond.code ({ cls := "AccessGateModel", name := "overdue", desc := "(I)I" } : Jvm.MethodName) prog_10_method_32_code (2 : Nat) (Option.some Jvm.ClassFile.FieldType.int) ∈ lw_tbl := List.mem_of_getElem? (i := 985) rfl
set_option maxRecDepth 100000 in
theorem kw941 : Jvm.Cond.methodLink "AccessGateLaw" (133 : Nat) ({ cls := "AccessGateModel", name := "couldEnter", desc := "(III)Z" } : Jvm.MethodName) ∈ lw_tbl := List.mem_of_getElem? (i := 986) rfl
set_option maxRecDepth 100000 in
theorem kw942 : Jvm.Cond.instanceMethod ({ cls := "AccessGateModel", name := "couldEnter", desc := "(III)Z" } : Jvm.MethodName) ∈ lw_tbl := List.mem_of_getElem? (i := 987) rfl
set_option maxRecDepth 100000 in
theorem kw943 : Jvm.Cond.selects "AccessGateModel" ({ cls := "AccessGateModel", name := "couldEnter", desc := "(III)Z" } : Jvm.MethodName) ({ cls := "AccessGateModel", name := "couldEnter", desc := "(III)Z" } : Jvm.MethodName) ∈ lw_tbl := List.mem_of_getElem? (i := 988) rfl
set_option maxRecDepth 100000 in
theorem kw944 : Jvm.Cond.code ({ cls := "AccessGateModel", name := "couldEnter", desc := "(III)Z" } : Jvm.MethodName) prog_10_method_33_code (4 : Nat) (Option.some Jvm.ClassFile.FieldType.boolean) ∈ lw_tbl := List.mem_of_getElem? (i := 989) rfl
set_option maxRecDepth 100000 in
theorem kw945 : Jvm.Cond.constant "AccessGateModel" (177 : Nat) (100000 : Int32) ∈ lw_tbl := List.mem_of_getElem? (i := 990) rfl
set_option maxRecDepth 100000 in
theorem kw946 : Jvm.Cond.methodLink "AccessGateLaw" (136 : Nat) ({ cls := "AccessGateModel", name := "open", desc := "(II)I" } : Jvm.MethodName) ∈ lw_tbl := List.mem_of_getElem? (i := 991) rfl
set_option maxRecDepth 100000 in
theorem kw947 : Jvm.Cond.instanceMethod ({ cls := "AccessGateModel", name := "open", desc := "(II)I" } : Jvm.MethodName) ∈ lw_tbl := List.mem_of_getElem? (i := 992) rfl
set_option maxRecDepth 100000 in
theorem kw948 : Jvm.Cond.selects "AccessGateModel" ({ cls := "AccessGateModel", name := "open", desc := "(II)I" } : Jvm.MethodName) ({ cls := "AccessGateModel", name := "open", desc := "(II)I" } : Jvm.MethodName) ∈ lw_tbl := List.mem_of_getElem? (i := 993) rfl
set_option maxRecDepth 100000 in
theorem kw949 : Jvm.Cond.code ({ cls := "AccessGateModel", name := "open", desc := "(II)I" } : Jvm.MethodName) prog_10_method_34_code (4 : Nat) (Option.some Jvm.ClassFile.FieldType.int) ∈ lw_tbl := List.mem_of_getElem? (i := 994) rfl
set_option maxRecDepth 100000 in
theorem kw950 : Jvm.Cond.methodLink "AccessGateLaw" (139 : Nat) ({ cls := "AccessGateModel", name := "type", desc := "(II)Z" } : Jvm.MethodName) ∈ lw_tbl := List.mem_of_getElem? (i := 995) rfl
set_option maxRecDepth 100000 in
theorem kw951 : Jvm.Cond.instanceMethod ({ cls := "AccessGateModel", name := "type", desc := "(II)Z" } : Jvm.MethodName) ∈ lw_tbl := List.mem_of_getElem? (i := 996) rfl
set_option maxRecDepth 100000 in
theorem kw952 : Jvm.Cond.selects "AccessGateModel" ({ cls := "AccessGateModel", name := "type", desc := "(II)Z" } : Jvm.MethodName) ({ cls := "AccessGateModel", name := "type", desc := "(II)Z" } : Jvm.MethodName) ∈ lw_tbl := List.mem_of_getElem? (i := 997) rfl
set_option maxRecDepth 100000 in
theorem kw953 : Jvm.Cond.code ({ cls := "AccessGateModel", name := "type", desc := "(II)Z" } : Jvm.MethodName) prog_10_method_35_code (4 : Nat) (Option.some Jvm.ClassFile.FieldType.boolean) ∈ lw_tbl := List.mem_of_getElem? (i := 998) rfl
set_option maxRecDepth 100000 in
theorem kw954 : Jvm.Cond.methodLink "AccessGateModel" (178 : Nat) ({ cls := "AccessGateModel", name := "isSession", desc := "(I)Z" } : Jvm.MethodName) ∈ lw_tbl := List.mem_of_getElem? (i := 999) rfl
set_option maxRecDepth 100000 in
theorem kw956 : Jvm.Cond.instanceMethod ({ cls := "AccessGateModel", name := "isSession", desc := "(I)Z" } : Jvm.MethodName) ∈ lw_tbl := List.mem_of_getElem? (i := 1001) rfl
set_option maxRecDepth 100000 in
theorem kw957 : Jvm.Cond.code ({ cls := "AccessGateModel", name := "isSession", desc := "(I)Z" } : Jvm.MethodName) prog_10_method_10_code (2 : Nat) (Option.some Jvm.ClassFile.FieldType.boolean) ∈ lw_tbl := List.mem_of_getElem? (i := 1002) rfl
set_option maxRecDepth 100000 in
theorem kw958 : Jvm.Cond.methodLink "AccessGateLaw" (142 : Nat) ({ cls := "AccessGateModel", name := "letThrough", desc := "(II)I" } : Jvm.MethodName) ∈ lw_tbl := List.mem_of_getElem? (i := 1003) rfl
set_option maxRecDepth 100000 in
theorem kw959 : Jvm.Cond.instanceMethod ({ cls := "AccessGateModel", name := "letThrough", desc := "(II)I" } : Jvm.MethodName) ∈ lw_tbl := List.mem_of_getElem? (i := 1004) rfl
set_option maxRecDepth 100000 in
theorem kw960 : Jvm.Cond.selects "AccessGateModel" ({ cls := "AccessGateModel", name := "letThrough", desc := "(II)I" } : Jvm.MethodName) ({ cls := "AccessGateModel", name := "letThrough", desc := "(II)I" } : Jvm.MethodName) ∈ lw_tbl := List.mem_of_getElem? (i := 1005) rfl
set_option maxRecDepth 100000 in
theorem kw961 : Jvm.Cond.code ({ cls := "AccessGateModel", name := "letThrough", desc := "(II)I" } : Jvm.MethodName) prog_10_method_36_code (6 : Nat) (Option.some Jvm.ClassFile.FieldType.int) ∈ lw_tbl := List.mem_of_getElem? (i := 1006) rfl
set_option maxRecDepth 100000 in
theorem kw962 : Jvm.Cond.methodLink "AccessGateLaw" (145 : Nat) ({ cls := "AccessGateModel", name := "close", desc := "(I)I" } : Jvm.MethodName) ∈ lw_tbl := List.mem_of_getElem? (i := 1007) rfl
set_option maxRecDepth 100000 in
theorem kw963 : Jvm.Cond.instanceMethod ({ cls := "AccessGateModel", name := "close", desc := "(I)I" } : Jvm.MethodName) ∈ lw_tbl := List.mem_of_getElem? (i := 1008) rfl
set_option maxRecDepth 100000 in
theorem kw964 : Jvm.Cond.selects "AccessGateModel" ({ cls := "AccessGateModel", name := "close", desc := "(I)I" } : Jvm.MethodName) ({ cls := "AccessGateModel", name := "close", desc := "(I)I" } : Jvm.MethodName) ∈ lw_tbl := List.mem_of_getElem? (i := 1009) rfl
set_option maxRecDepth 100000 in
theorem kw965 : Jvm.Cond.code ({ cls := "AccessGateModel", name := "close", desc := "(I)I" } : Jvm.MethodName) prog_10_method_37_code (3 : Nat) (Option.some Jvm.ClassFile.FieldType.int) ∈ lw_tbl := List.mem_of_getElem? (i := 1010) rfl
set_option maxRecDepth 100000 in
theorem kw966 : Jvm.Cond.methodLink "AccessGateLaw" (148 : Nat) ({ cls := "AccessGateModel", name := "isOpen", desc := "(I)Z" } : Jvm.MethodName) ∈ lw_tbl := List.mem_of_getElem? (i := 1011) rfl
set_option maxRecDepth 100000 in
theorem kw967 : Jvm.Cond.instanceMethod ({ cls := "AccessGateModel", name := "isOpen", desc := "(I)Z" } : Jvm.MethodName) ∈ lw_tbl := List.mem_of_getElem? (i := 1012) rfl
set_option maxRecDepth 100000 in
theorem kw968 : Jvm.Cond.selects "AccessGateModel" ({ cls := "AccessGateModel", name := "isOpen", desc := "(I)Z" } : Jvm.MethodName) ({ cls := "AccessGateModel", name := "isOpen", desc := "(I)Z" } : Jvm.MethodName) ∈ lw_tbl := List.mem_of_getElem? (i := 1013) rfl
set_option maxRecDepth 100000 in
theorem kw969 : Jvm.Cond.code ({ cls := "AccessGateModel", name := "isOpen", desc := "(I)Z" } : Jvm.MethodName) prog_10_method_38_code (2 : Nat) (Option.some Jvm.ClassFile.FieldType.boolean) ∈ lw_tbl := List.mem_of_getElem? (i := 1014) rfl
set_option maxRecDepth 100000 in
theorem kw970 : Jvm.Cond.methodLink "AccessGateLaw" (152 : Nat) ({ cls := "AccessGateModel", name := "openSessions", desc := "()I" } : Jvm.MethodName) ∈ lw_tbl := List.mem_of_getElem? (i := 1015) rfl
set_option maxRecDepth 100000 in
theorem kw971 : Jvm.Cond.instanceMethod ({ cls := "AccessGateModel", name := "openSessions", desc := "()I" } : Jvm.MethodName) ∈ lw_tbl := List.mem_of_getElem? (i := 1016) rfl
set_option maxRecDepth 100000 in
theorem kw972 : Jvm.Cond.selects "AccessGateModel" ({ cls := "AccessGateModel", name := "openSessions", desc := "()I" } : Jvm.MethodName) ({ cls := "AccessGateModel", name := "openSessions", desc := "()I" } : Jvm.MethodName) ∈ lw_tbl := List.mem_of_getElem? (i := 1017) rfl
set_option maxRecDepth 100000 in
theorem kw973 : Jvm.Cond.code ({ cls := "AccessGateModel", name := "openSessions", desc := "()I" } : Jvm.MethodName) prog_10_method_39_code (3 : Nat) (Option.some Jvm.ClassFile.FieldType.int) ∈ lw_tbl := List.mem_of_getElem? (i := 1018) rfl
set_option maxRecDepth 100000 in
theorem kw974 : Jvm.Cond.methodLink "AccessGateLaw" (155 : Nat) ({ cls := "AccessGateModel", name := "pass", desc := "(I)I" } : Jvm.MethodName) ∈ lw_tbl := List.mem_of_getElem? (i := 1019) rfl
set_option maxRecDepth 100000 in
theorem kw975 : Jvm.Cond.instanceMethod ({ cls := "AccessGateModel", name := "pass", desc := "(I)I" } : Jvm.MethodName) ∈ lw_tbl := List.mem_of_getElem? (i := 1020) rfl
set_option maxRecDepth 100000 in
theorem kw976 : Jvm.Cond.selects "AccessGateModel" ({ cls := "AccessGateModel", name := "pass", desc := "(I)I" } : Jvm.MethodName) ({ cls := "AccessGateModel", name := "pass", desc := "(I)I" } : Jvm.MethodName) ∈ lw_tbl := List.mem_of_getElem? (i := 1021) rfl
set_option maxRecDepth 100000 in
theorem kw977 : Jvm.Cond.code ({ cls := "AccessGateModel", name := "pass", desc := "(I)I" } : Jvm.MethodName) prog_10_method_40_code (5 : Nat) (Option.some Jvm.ClassFile.FieldType.int) ∈ lw_tbl := List.mem_of_getElem? (i := 1022) rfl
set_option maxRecDepth 100000 in
theorem kw978 : Jvm.Cond.methodLink "AccessGateLaw" (159 : Nat) ({ cls := "AccessGateModel", name := "clock", desc := "()I" } : Jvm.MethodName) ∈ lw_tbl := List.mem_of_getElem? (i := 1023) rfl
set_option maxRecDepth 100000 in
theorem kw979 : Jvm.Cond.instanceMethod ({ cls := "AccessGateModel", name := "clock", desc := "()I" } : Jvm.MethodName) ∈ lw_tbl := List.mem_of_getElem? (i := 1024) rfl
set_option maxRecDepth 100000 in
theorem kw980 : Jvm.Cond.selects "AccessGateModel" ({ cls := "AccessGateModel", name := "clock", desc := "()I" } : Jvm.MethodName) ({ cls := "AccessGateModel", name := "clock", desc := "()I" } : Jvm.MethodName) ∈ lw_tbl := List.mem_of_getElem? (i := 1025) rfl
set_option maxRecDepth 100000 in
theorem kw981 : Jvm.Cond.code ({ cls := "AccessGateModel", name := "clock", desc := "()I" } : Jvm.MethodName) prog_10_method_41_code (1 : Nat) (Option.some Jvm.ClassFile.FieldType.int) ∈ lw_tbl := List.mem_of_getElem? (i := 1026) rfl
set_option maxRecDepth 100000 in
theorem kw982 : Jvm.Cond.methodLink "AccessGateLaw" (163 : Nat) ({ cls := "AccessGateModel", name := "steps", desc := "()I" } : Jvm.MethodName) ∈ lw_tbl := List.mem_of_getElem? (i := 1027) rfl
set_option maxRecDepth 100000 in
theorem kw983 : Jvm.Cond.instanceMethod ({ cls := "AccessGateModel", name := "steps", desc := "()I" } : Jvm.MethodName) ∈ lw_tbl := List.mem_of_getElem? (i := 1028) rfl
set_option maxRecDepth 100000 in
theorem kw984 : Jvm.Cond.selects "AccessGateModel" ({ cls := "AccessGateModel", name := "steps", desc := "()I" } : Jvm.MethodName) ({ cls := "AccessGateModel", name := "steps", desc := "()I" } : Jvm.MethodName) ∈ lw_tbl := List.mem_of_getElem? (i := 1029) rfl
set_option maxRecDepth 100000 in
theorem kw985 : Jvm.Cond.code ({ cls := "AccessGateModel", name := "steps", desc := "()I" } : Jvm.MethodName) prog_10_method_42_code (1 : Nat) (Option.some Jvm.ClassFile.FieldType.int) ∈ lw_tbl := List.mem_of_getElem? (i := 1030) rfl
set_option maxRecDepth 100000 in
theorem kw986 : Jvm.Cond.methodLink "AccessGateLaw" (166 : Nat) ({ cls := "AccessGateModel", name := "kind", desc := "(I)I" } : Jvm.MethodName) ∈ lw_tbl := List.mem_of_getElem? (i := 1031) rfl
set_option maxRecDepth 100000 in
theorem kw987 : Jvm.Cond.instanceMethod ({ cls := "AccessGateModel", name := "kind", desc := "(I)I" } : Jvm.MethodName) ∈ lw_tbl := List.mem_of_getElem? (i := 1032) rfl
set_option maxRecDepth 100000 in
theorem kw988 : Jvm.Cond.selects "AccessGateModel" ({ cls := "AccessGateModel", name := "kind", desc := "(I)I" } : Jvm.MethodName) ({ cls := "AccessGateModel", name := "kind", desc := "(I)I" } : Jvm.MethodName) ∈ lw_tbl := List.mem_of_getElem? (i := 1033) rfl
set_option maxRecDepth 100000 in
theorem kw989 : Jvm.Cond.code ({ cls := "AccessGateModel", name := "kind", desc := "(I)I" } : Jvm.MethodName) prog_10_method_43_code (2 : Nat) (Option.some Jvm.ClassFile.FieldType.int) ∈ lw_tbl := List.mem_of_getElem? (i := 1034) rfl
set_option maxRecDepth 100000 in
theorem kw990 : Jvm.Cond.methodLink "AccessGateLaw" (169 : Nat) ({ cls := "AccessGateModel", name := "seal", desc := "(I)I" } : Jvm.MethodName) ∈ lw_tbl := List.mem_of_getElem? (i := 1035) rfl
set_option maxRecDepth 100000 in
theorem kw991 : Jvm.Cond.instanceMethod ({ cls := "AccessGateModel", name := "seal", desc := "(I)I" } : Jvm.MethodName) ∈ lw_tbl := List.mem_of_getElem? (i := 1036) rfl
set_option maxRecDepth 100000 in
theorem kw992 : Jvm.Cond.selects "AccessGateModel" ({ cls := "AccessGateModel", name := "seal", desc := "(I)I" } : Jvm.MethodName) ({ cls := "AccessGateModel", name := "seal", desc := "(I)I" } : Jvm.MethodName) ∈ lw_tbl := List.mem_of_getElem? (i := 1037) rfl
set_option maxRecDepth 100000 in
theorem kw993 : Jvm.Cond.code ({ cls := "AccessGateModel", name := "seal", desc := "(I)I" } : Jvm.MethodName) prog_10_method_44_code (2 : Nat) (Option.some Jvm.ClassFile.FieldType.int) ∈ lw_tbl := List.mem_of_getElem? (i := 1038) rfl
set_option maxRecDepth 100000 in
theorem kw994 : Jvm.Cond.arrayClass Jvm.ClassFile.FieldType.long ∈ lw_tbl := List.mem_of_getElem? (i := 1039) rfl
set_option maxRecDepth 100000 in
theorem kw996 : Jvm.Cond.castable "AccessGate" "java/lang/Object" ∈ lw_tbl := List.mem_of_getElem? (i := 1041) rfl
set_option maxRecDepth 100000 in
theorem kw997 : Jvm.Cond.castable "java/util/ArrayList" "java/lang/Object" ∈ lw_tbl := List.mem_of_getElem? (i := 1042) rfl
set_option maxRecDepth 100000 in
theorem kw998 : Jvm.Cond.castable "AccessGate$StepRecord" "java/lang/Object" ∈ lw_tbl := List.mem_of_getElem? (i := 1043) rfl
set_option maxRecDepth 100000 in
theorem kw999 : Jvm.Cond.castable "AccessGateModel" "java/lang/Object" ∈ lw_tbl := List.mem_of_getElem? (i := 1044) rfl
set_option maxRecDepth 100000 in
theorem kw1000 : Jvm.Cond.castable "java/lang/IllegalArgumentException" "java/lang/Object" ∈ lw_tbl := List.mem_of_getElem? (i := 1045) rfl
set_option maxRecDepth 100000 in
theorem kw1001 : Jvm.Cond.castable "java/lang/IllegalStateException" "java/lang/Object" ∈ lw_tbl := List.mem_of_getElem? (i := 1046) rfl
set_option maxRecDepth 100000 in
theorem kw1002 : Jvm.Cond.castable "AccessGate$Person" "java/lang/Object" ∈ lw_tbl := List.mem_of_getElem? (i := 1047) rfl
set_option maxRecDepth 100000 in
theorem kw1003 : Jvm.Cond.castable "AccessGate$Machine" "java/lang/Object" ∈ lw_tbl := List.mem_of_getElem? (i := 1048) rfl
set_option maxRecDepth 100000 in
theorem kw1004 : Jvm.Cond.castable "java/lang/IndexOutOfBoundsException" "java/lang/Object" ∈ lw_tbl := List.mem_of_getElem? (i := 1049) rfl
set_option maxRecDepth 100000 in
theorem kw1005 : Jvm.Cond.castable "AccessGate$Ask" "java/lang/Object" ∈ lw_tbl := List.mem_of_getElem? (i := 1050) rfl
set_option maxRecDepth 100000 in
theorem kw1006 : Jvm.Cond.castable "AccessGate$Right" "java/lang/Object" ∈ lw_tbl := List.mem_of_getElem? (i := 1051) rfl
set_option maxRecDepth 100000 in
theorem kw1007 : Jvm.Cond.castable "AccessGate$Entry" "java/lang/Object" ∈ lw_tbl := List.mem_of_getElem? (i := 1052) rfl
set_option maxRecDepth 100000 in
theorem kw1008 : Jvm.Cond.castable "AccessGate$Session" "java/lang/Object" ∈ lw_tbl := List.mem_of_getElem? (i := 1053) rfl
set_option maxRecDepth 100000 in
theorem kw1009 : Jvm.Cond.castable "java/lang/Throwable" "java/lang/Object" ∈ lw_tbl := List.mem_of_getElem? (i := 1054) rfl
set_option maxRecDepth 100000 in
theorem kw1010 : Jvm.Cond.castable "java/lang/String" "java/lang/Object" ∈ lw_tbl := List.mem_of_getElem? (i := 1055) rfl
set_option maxRecDepth 100000 in
theorem kw1012 : Jvm.Cond.selects "[Ljava/lang/Object;" ({ cls := "java/lang/Object", name := "getClass", desc := "()Ljava/lang/Class;" } : Jvm.MethodName) ({ cls := "java/lang/Object", name := "getClass", desc := "()Ljava/lang/Class;" } : Jvm.MethodName) ∈ lw_tbl := List.mem_of_getElem? (i := 1057) rfl
set_option maxRecDepth 100000 in
theorem kw1013 : Jvm.Cond.declares ({ cls := "java/lang/Object", name := "getClass", desc := "()Ljava/lang/Class;" } : Jvm.MethodName) ∈ lw_tbl := List.mem_of_getElem? (i := 1058) rfl
set_option maxRecDepth 100000 in
theorem kw1014 : Jvm.Cond.castable "[I" "java/lang/Object" ∈ lw_tbl := List.mem_of_getElem? (i := 1059) rfl
set_option maxRecDepth 100000 in
theorem kw1015 : Jvm.Cond.castable "[B" "java/lang/Object" ∈ lw_tbl := List.mem_of_getElem? (i := 1060) rfl
set_option maxRecDepth 100000 in
theorem kw1016 : Jvm.Cond.castable "[Ljava/lang/Object;" "java/lang/Object" ∈ lw_tbl := List.mem_of_getElem? (i := 1061) rfl
set_option maxRecDepth 100000 in
theorem kw1017 : Jvm.Cond.castable "[Z" "java/lang/Object" ∈ lw_tbl := List.mem_of_getElem? (i := 1062) rfl
set_option maxRecDepth 100000 in
theorem kw1018 : Jvm.Cond.castable "[J" "java/lang/Object" ∈ lw_tbl := List.mem_of_getElem? (i := 1063) rfl
theorem kp0 : Jvm.Cond.selects "java/lang/Throwable" (⟨"java/lang/Throwable", "fillInStackTrace", "(I)Ljava/lang/Throwable;"⟩ : Jvm.MethodName) (⟨"java/lang/Throwable", "fillInStackTrace", "(I)Ljava/lang/Throwable;"⟩ : Jvm.MethodName) ∈ lw_tbl := List.mem_of_getElem? (i := 0) rfl
theorem kp1 : Jvm.Cond.selects "java/util/ArrayList" (⟨"java/util/ArrayList", "add", "(Ljava/lang/Object;[Ljava/lang/Object;I)V"⟩ : Jvm.MethodName) (⟨"java/util/ArrayList", "add", "(Ljava/lang/Object;[Ljava/lang/Object;I)V"⟩ : Jvm.MethodName) ∈ lw_tbl := List.mem_of_getElem? (i := 1) rfl
theorem kp2 : Jvm.Cond.selects "java/util/ArrayList" (⟨"java/util/ArrayList", "grow", "()[Ljava/lang/Object;"⟩ : Jvm.MethodName) (⟨"java/util/ArrayList", "grow", "()[Ljava/lang/Object;"⟩ : Jvm.MethodName) ∈ lw_tbl := List.mem_of_getElem? (i := 2) rfl
theorem kp3 : Jvm.Cond.selects "java/util/ArrayList" (⟨"java/util/ArrayList", "grow", "(I)[Ljava/lang/Object;"⟩ : Jvm.MethodName) (⟨"java/util/ArrayList", "grow", "(I)[Ljava/lang/Object;"⟩ : Jvm.MethodName) ∈ lw_tbl := List.mem_of_getElem? (i := 3) rfl
theorem kp4 : Jvm.Cond.selects "AccessGate" (⟨"AccessGate", "personAt", "(I)LAccessGate$Person;"⟩ : Jvm.MethodName) (⟨"AccessGate", "personAt", "(I)LAccessGate$Person;"⟩ : Jvm.MethodName) ∈ lw_tbl := List.mem_of_getElem? (i := 4) rfl
theorem kp5 : Jvm.Cond.selects "AccessGate$Person" (⟨"AccessGate$Person", "keepLabel", "(IZ)V"⟩ : Jvm.MethodName) (⟨"AccessGate$Person", "keepLabel", "(IZ)V"⟩ : Jvm.MethodName) ∈ lw_tbl := List.mem_of_getElem? (i := 5) rfl
theorem kp6 : Jvm.Cond.selects "AccessGate" (⟨"AccessGate", "endRights", "(LAccessGate$Person;LAccessGate$Machine;)V"⟩ : Jvm.MethodName) (⟨"AccessGate", "endRights", "(LAccessGate$Person;LAccessGate$Machine;)V"⟩ : Jvm.MethodName) ∈ lw_tbl := List.mem_of_getElem? (i := 6) rfl
theorem kp7 : Jvm.Cond.selects "AccessGate$Right" (⟨"AccessGate$Right", "holdsAt", "(I)Z"⟩ : Jvm.MethodName) (⟨"AccessGate$Right", "holdsAt", "(I)Z"⟩ : Jvm.MethodName) ∈ lw_tbl := List.mem_of_getElem? (i := 7) rfl
theorem kp8 : Jvm.Cond.selects "AccessGate" (⟨"AccessGate", "denyWaitingAsks", "(LAccessGate$Person;LAccessGate$Machine;)V"⟩ : Jvm.MethodName) (⟨"AccessGate", "denyWaitingAsks", "(LAccessGate$Person;LAccessGate$Machine;)V"⟩ : Jvm.MethodName) ∈ lw_tbl := List.mem_of_getElem? (i := 8) rfl
theorem kp9 : Jvm.Cond.selects "AccessGate$Ask" (⟨"AccessGate$Ask", "stateAt", "(I)I"⟩ : Jvm.MethodName) (⟨"AccessGate$Ask", "stateAt", "(I)I"⟩ : Jvm.MethodName) ∈ lw_tbl := List.mem_of_getElem? (i := 9) rfl
theorem kp10 : Jvm.Cond.selects "AccessGate" (⟨"AccessGate", "closeEndedSessions", "()I"⟩ : Jvm.MethodName) (⟨"AccessGate", "closeEndedSessions", "()I"⟩ : Jvm.MethodName) ∈ lw_tbl := List.mem_of_getElem? (i := 10) rfl
theorem kp11 : Jvm.Cond.selects "AccessGate$Session" (⟨"AccessGate$Session", "restsAt", "(I)Z"⟩ : Jvm.MethodName) (⟨"AccessGate$Session", "restsAt", "(I)Z"⟩ : Jvm.MethodName) ∈ lw_tbl := List.mem_of_getElem? (i := 11) rfl
theorem kp12 : Jvm.Cond.selects "AccessGate" (⟨"AccessGate", "rightHolds", "(LAccessGate$Person;LAccessGate$Machine;I)Z"⟩ : Jvm.MethodName) (⟨"AccessGate", "rightHolds", "(LAccessGate$Person;LAccessGate$Machine;I)Z"⟩ : Jvm.MethodName) ∈ lw_tbl := List.mem_of_getElem? (i := 12) rfl
theorem kp13 : Jvm.Cond.selects "AccessGate" (⟨"AccessGate", "endSession", "(LAccessGate$Session;)V"⟩ : Jvm.MethodName) (⟨"AccessGate", "endSession", "(LAccessGate$Session;)V"⟩ : Jvm.MethodName) ∈ lw_tbl := List.mem_of_getElem? (i := 13) rfl
theorem kp14 : Jvm.Cond.selects "AccessGate$StepRecord" (⟨"AccessGate$StepRecord", "add", "(ILAccessGate$Person;LAccessGate$Machine;I)V"⟩ : Jvm.MethodName) (⟨"AccessGate$StepRecord", "add", "(ILAccessGate$Person;LAccessGate$Machine;I)V"⟩ : Jvm.MethodName) ∈ lw_tbl := List.mem_of_getElem? (i := 14) rfl
theorem kp15 : Jvm.Cond.selects "AccessGate" (⟨"AccessGate", "machineAt", "(I)LAccessGate$Machine;"⟩ : Jvm.MethodName) (⟨"AccessGate", "machineAt", "(I)LAccessGate$Machine;"⟩ : Jvm.MethodName) ∈ lw_tbl := List.mem_of_getElem? (i := 15) rfl
theorem kp16 : Jvm.Cond.selects "AccessGate" (⟨"AccessGate", "requireMayAskOrEnter", "(LAccessGate$Person;LAccessGate$Machine;)V"⟩ : Jvm.MethodName) (⟨"AccessGate", "requireMayAskOrEnter", "(LAccessGate$Person;LAccessGate$Machine;)V"⟩ : Jvm.MethodName) ∈ lw_tbl := List.mem_of_getElem? (i := 16) rfl
theorem kp17 : Jvm.Cond.selects "AccessGate$Person" (⟨"AccessGate$Person", "hasLabel", "(I)Z"⟩ : Jvm.MethodName) (⟨"AccessGate$Person", "hasLabel", "(I)Z"⟩ : Jvm.MethodName) ∈ lw_tbl := List.mem_of_getElem? (i := 17) rfl
theorem kp18 : Jvm.Cond.selects "AccessGate" (⟨"AccessGate", "countOverdue", "(LAccessGate$Person;)I"⟩ : Jvm.MethodName) (⟨"AccessGate", "countOverdue", "(LAccessGate$Person;)I"⟩ : Jvm.MethodName) ∈ lw_tbl := List.mem_of_getElem? (i := 18) rfl
theorem kp19 : Jvm.Cond.selects "AccessGate$Entry" (⟨"AccessGate$Entry", "isOverdueAt", "(I)Z"⟩ : Jvm.MethodName) (⟨"AccessGate$Entry", "isOverdueAt", "(I)Z"⟩ : Jvm.MethodName) ∈ lw_tbl := List.mem_of_getElem? (i := 19) rfl
theorem kp20 : Jvm.Cond.selects "AccessGate" (⟨"AccessGate", "askAt", "(I)LAccessGate$Ask;"⟩ : Jvm.MethodName) (⟨"AccessGate", "askAt", "(I)LAccessGate$Ask;"⟩ : Jvm.MethodName) ∈ lw_tbl := List.mem_of_getElem? (i := 20) rfl
theorem kp21 : Jvm.Cond.selects "AccessGate" (⟨"AccessGate", "requireMayJudge", "(LAccessGate$Ask;LAccessGate$Person;)V"⟩ : Jvm.MethodName) (⟨"AccessGate", "requireMayJudge", "(LAccessGate$Ask;LAccessGate$Person;)V"⟩ : Jvm.MethodName) ∈ lw_tbl := List.mem_of_getElem? (i := 21) rfl
theorem kp22 : Jvm.Cond.selects "AccessGate$Person" (⟨"AccessGate$Person", "mayJudge", "(LAccessGate$Person;LAccessGate$Machine;)Z"⟩ : Jvm.MethodName) (⟨"AccessGate$Person", "mayJudge", "(LAccessGate$Person;LAccessGate$Machine;)Z"⟩ : Jvm.MethodName) ∈ lw_tbl := List.mem_of_getElem? (i := 22) rfl
theorem kp23 : Jvm.Cond.selects "AccessGate" (⟨"AccessGate", "entryAt", "(I)LAccessGate$Entry;"⟩ : Jvm.MethodName) (⟨"AccessGate", "entryAt", "(I)LAccessGate$Entry;"⟩ : Jvm.MethodName) ∈ lw_tbl := List.mem_of_getElem? (i := 23) rfl
theorem kp24 : Jvm.Cond.selects "AccessGate" (⟨"AccessGate", "sessionAt", "(I)LAccessGate$Session;"⟩ : Jvm.MethodName) (⟨"AccessGate", "sessionAt", "(I)LAccessGate$Session;"⟩ : Jvm.MethodName) ∈ lw_tbl := List.mem_of_getElem? (i := 24) rfl
theorem kp25 : Jvm.Cond.selects "AccessGate$Session" (⟨"AccessGate$Session", "holdsLine", "()Z"⟩ : Jvm.MethodName) (⟨"AccessGate$Session", "holdsLine", "()Z"⟩ : Jvm.MethodName) ∈ lw_tbl := List.mem_of_getElem? (i := 25) rfl
theorem kp26 : Jvm.Cond.selects "AccessGate" (⟨"AccessGate", "requireStep", "(I)V"⟩ : Jvm.MethodName) (⟨"AccessGate", "requireStep", "(I)V"⟩ : Jvm.MethodName) ∈ lw_tbl := List.mem_of_getElem? (i := 26) rfl
theorem kp27 : Jvm.Cond.selects "AccessGateModel" (⟨"AccessGateModel", "goes", "(ZZZ)Z"⟩ : Jvm.MethodName) (⟨"AccessGateModel", "goes", "(ZZZ)Z"⟩ : Jvm.MethodName) ∈ lw_tbl := List.mem_of_getElem? (i := 27) rfl
theorem kp28 : Jvm.Cond.selects "AccessGateModel" (⟨"AccessGateModel", "isPerson", "(I)Z"⟩ : Jvm.MethodName) (⟨"AccessGateModel", "isPerson", "(I)Z"⟩ : Jvm.MethodName) ∈ lw_tbl := List.mem_of_getElem? (i := 28) rfl
theorem kp29 : Jvm.Cond.selects "AccessGateModel" (⟨"AccessGateModel", "endsRights", "(II)V"⟩ : Jvm.MethodName) (⟨"AccessGateModel", "endsRights", "(II)V"⟩ : Jvm.MethodName) ∈ lw_tbl := List.mem_of_getElem? (i := 29) rfl
theorem kp30 : Jvm.Cond.selects "AccessGateModel" (⟨"AccessGateModel", "deniesAsks", "(II)V"⟩ : Jvm.MethodName) (⟨"AccessGateModel", "deniesAsks", "(II)V"⟩ : Jvm.MethodName) ∈ lw_tbl := List.mem_of_getElem? (i := 30) rfl
theorem kp31 : Jvm.Cond.selects "AccessGateModel" (⟨"AccessGateModel", "closes", "(I)I"⟩ : Jvm.MethodName) (⟨"AccessGateModel", "closes", "(I)I"⟩ : Jvm.MethodName) ∈ lw_tbl := List.mem_of_getElem? (i := 31) rfl
theorem kp32 : Jvm.Cond.selects "AccessGateModel" (⟨"AccessGateModel", "holdsAt", "(III)Z"⟩ : Jvm.MethodName) (⟨"AccessGateModel", "holdsAt", "(III)Z"⟩ : Jvm.MethodName) ∈ lw_tbl := List.mem_of_getElem? (i := 32) rfl
theorem kp33 : Jvm.Cond.selects "AccessGateModel" (⟨"AccessGateModel", "shuts", "(I)V"⟩ : Jvm.MethodName) (⟨"AccessGateModel", "shuts", "(I)V"⟩ : Jvm.MethodName) ∈ lw_tbl := List.mem_of_getElem? (i := 33) rfl
theorem kp34 : Jvm.Cond.selects "AccessGateModel" (⟨"AccessGateModel", "writes", "(III)V"⟩ : Jvm.MethodName) (⟨"AccessGateModel", "writes", "(III)V"⟩ : Jvm.MethodName) ∈ lw_tbl := List.mem_of_getElem? (i := 34) rfl
theorem kp35 : Jvm.Cond.selects "AccessGateModel" (⟨"AccessGateModel", "areBoth", "(II)Z"⟩ : Jvm.MethodName) (⟨"AccessGateModel", "areBoth", "(II)Z"⟩ : Jvm.MethodName) ∈ lw_tbl := List.mem_of_getElem? (i := 35) rfl
theorem kp36 : Jvm.Cond.selects "AccessGateModel" (⟨"AccessGateModel", "isMachine", "(I)Z"⟩ : Jvm.MethodName) (⟨"AccessGateModel", "isMachine", "(I)Z"⟩ : Jvm.MethodName) ∈ lw_tbl := List.mem_of_getElem? (i := 36) rfl
theorem kp37 : Jvm.Cond.selects "AccessGateModel" (⟨"AccessGateModel", "canAsk", "(II)Z"⟩ : Jvm.MethodName) (⟨"AccessGateModel", "canAsk", "(II)Z"⟩ : Jvm.MethodName) ∈ lw_tbl := List.mem_of_getElem? (i := 37) rfl
theorem kp38 : Jvm.Cond.selects "AccessGateModel" (⟨"AccessGateModel", "hasLabel", "(II)Z"⟩ : Jvm.MethodName) (⟨"AccessGateModel", "hasLabel", "(II)Z"⟩ : Jvm.MethodName) ∈ lw_tbl := List.mem_of_getElem? (i := 38) rfl
theorem kp39 : Jvm.Cond.selects "AccessGateModel" (⟨"AccessGateModel", "overdues", "(I)I"⟩ : Jvm.MethodName) (⟨"AccessGateModel", "overdues", "(I)I"⟩ : Jvm.MethodName) ∈ lw_tbl := List.mem_of_getElem? (i := 39) rfl
theorem kp40 : Jvm.Cond.selects "AccessGateModel" (⟨"AccessGateModel", "canJudge", "(II)Z"⟩ : Jvm.MethodName) (⟨"AccessGateModel", "canJudge", "(II)Z"⟩ : Jvm.MethodName) ∈ lw_tbl := List.mem_of_getElem? (i := 40) rfl
theorem kp41 : Jvm.Cond.selects "AccessGateModel" (⟨"AccessGateModel", "isAsk", "(I)Z"⟩ : Jvm.MethodName) (⟨"AccessGateModel", "isAsk", "(I)Z"⟩ : Jvm.MethodName) ∈ lw_tbl := List.mem_of_getElem? (i := 41) rfl
theorem kp42 : Jvm.Cond.selects "AccessGateModel" (⟨"AccessGateModel", "grants", "(III)V"⟩ : Jvm.MethodName) (⟨"AccessGateModel", "grants", "(III)V"⟩ : Jvm.MethodName) ∈ lw_tbl := List.mem_of_getElem? (i := 42) rfl
theorem kp43 : Jvm.Cond.selects "AccessGateModel" (⟨"AccessGateModel", "isEntry", "(I)Z"⟩ : Jvm.MethodName) (⟨"AccessGateModel", "isEntry", "(I)Z"⟩ : Jvm.MethodName) ∈ lw_tbl := List.mem_of_getElem? (i := 43) rfl
theorem kp44 : Jvm.Cond.selects "AccessGateModel" (⟨"AccessGateModel", "isSession", "(I)Z"⟩ : Jvm.MethodName) (⟨"AccessGateModel", "isSession", "(I)Z"⟩ : Jvm.MethodName) ∈ lw_tbl := List.mem_of_getElem? (i := 44) rfl
end
section
/-! WORLDS AS MAPS: a partial map of cells (an address, what lies there); one set of facts of the tables; rows over it. -/
abbrev mw_M : Type := Nat → Option va_E
abbrev mw_G : Type := va_G × (Nat → ClassId) × Nat
def mw_tys (G : mw_G) : List (ClassId × FieldType) := [(G.2.1 0, .int), (G.2.1 1, .boolean), (G.2.1 2, .object "java/lang/Object"), (G.2.1 3, .long)]
/-- words of the tables that stay: what the kit calls good, and links of nest mates, casts, declarations -/
def mw_ok (w : Cond) : Bool := match w with
  | .fieldLinkNest .. => true
  | .methodLinkNest .. => true
  | .castable .. => true
  | .declares _ => true
  | w => goodWord w
def mw_W (U : State) : Prop := ∀ w ∈ lw_tbl, mw_ok w = true → w.before #[] U = true
theorem mw_use {U : State} {w : Cond} (h : mw_W U) (hm : w ∈ lw_tbl) (hk : mw_ok w = true) {A : Array Value} : w.before A U = true := by
  have h1 := h w hm hk
  unfold mw_ok at hk
  split at hk
  · exact va_Nw.use rfl h1
  · exact va_Nw.use rfl h1
  · exact va_Nw.use rfl h1
  · exact va_Nw.use rfl h1
  · exact word_at (State.WarmedH.refl U) (good_of_word hk) h1
theorem mw_W.warm {s U : State} (hW : s.WarmedH U.vm) (h : mw_W s) : mw_W U := by
  intro w hm hk
  have h1 := h w hm hk
  unfold mw_ok at hk
  split at hk
  · exact va_Nw.warmF hW h1
  · exact va_Nw.warmM hW h1
  · exact va_Nw.warmC hW h1
  · exact va_Nw.warmD hW h1
  · exact word_at hW (good_of_word hk) h1
/-- the written texts: some class, its entry, the text -/
def mw_Sr (q : String × Nat × String) (U : State) : Prop := ∃ a : Nat, vk_R q.1 q.2.1 q.2.2 a U
/-- all that a method knows of the tables -/
def mw_K (S : List (String × Nat × String)) (G : mw_G) (U : State) : Prop := mw_W U ∧ va_K G.1 vwCl (mw_tys G) U ∧ va_AO "java/lang/Object" U ∧ (∀ q ∈ S, mw_Sr q U) ∧ ∃ mi : Nat, va_Mi "[Ljava/lang/Object;" mi U
theorem mw_K.warm {S : List (String × Nat × String)} {G : mw_G} {s U : State} (hW : s.WarmedH U.vm) (h : mw_K S G s) : mw_K S G U := by
  obtain ⟨h1, h2, h3, h4, mi, h5⟩ := h
  refine ⟨h1.warm hW, va_K.moved hW.alike h2, va_AO.moved hW.alike h3, fun q hq => ?_, mi, va_Mi.moved hW.alike h5⟩
  obtain ⟨a, ha⟩ := h4 q hq
  exact ⟨a, vk_R.warm hW ha⟩
theorem mw_K.calling {S : List (String × Nat × String)} {G : mw_G} {U : State} {g : JFrame} {mk : MethodId} {a : Array Value} (h : mw_K S G U) : mw_K S G (U.calling g mk a) := mw_K.warm (s := U) (State.WarmedH.refl U) h
/-- what a method knows of cells that nobody writes -/
def mw_Z (G : mw_G) (A : Nat → Prop) (U : State) (H : Heap) : Prop :=
  va_Z "java/util/ArrayList" "DEFAULTCAPACITY_EMPTY_ELEMENTDATA" "[Ljava/lang/Object;" (.ref G.2.2) A U H ∧ (G.2.2 < H.size ∧ ¬ A G.2.2 ∧ va_at G.1 vwCl (G.2.2, .inl (G.2.1 2, 0, .inr (.inr (.inr (.inr (fun _ => none)))))) H) ∧
  vx_Zq Bundle.tN "UNASSIGNED_STACK" Bundle.steD A U H ∧ vx_Zq Bundle.tN "SUPPRESSED_SENTINEL" Bundle.listD A U H
theorem mw_Z.moved {G : mw_G} {A : Nat → Prop} {u U : State} {H : Heap} (hvm : u.vm.Alike U.vm) (h : mw_Z G A u H) : mw_Z G A U H := ⟨h.1.moved hvm, h.2.1, h.2.2.1.moved hvm, h.2.2.2.moved hvm⟩
theorem mw_Z.kept {G : mw_G} {A : Nat → Prop} {U : State} {H H1 : Heap} (h : mw_Z G A U H) (hz : H.size ≤ H1.size) (hq : ∀ a : Nat, a < H.size → ¬ A a → H1[a]? = H[a]?) : mw_Z G A U H1 :=
  ⟨h.1.kept hq, ⟨Nat.lt_of_lt_of_le h.2.1.1 hz, h.2.1.2.1, h.2.1.2.2.kept (hq _ h.2.1.1 h.2.1.2.1)⟩, h.2.2.1.kept hq, h.2.2.2.kept hq⟩
theorem mw_Z.narrow {G : mw_G} {A B : Nat → Prop} {U : State} {H : Heap} (h : mw_Z G A U H) (hAB : ∀ q, B q → A q) : mw_Z G B U H :=
  ⟨h.1.narrow hAB, ⟨h.2.1.1, fun z => h.2.1.2.1 (hAB _ z), h.2.1.2.2⟩, h.2.2.1.narrow hAB, h.2.2.2.narrow hAB⟩
theorem mw_Z.narrowH {G : mw_G} {A B : Nat → Prop} {U : State} {H : Heap} (h : mw_Z G A U H) (hAB : ∀ q, q < H.size → B q → A q) : mw_Z G B U H := by
  have hZ : ∀ {C n d : String} {v : Value}, va_Z C n d v A U H → va_Z C n d v B U H := fun h => by
    obtain ⟨cf, kf, fi, f, a, cell, h1, h2, h3, h4, h5, h6, h7, h8⟩ := h
    exact ⟨cf, kf, fi, f, a, cell, h1, h2, h3, h4, h5, h6, h7, fun z => h8 (hAB a (Array.getElem?_eq_some_iff.mp h5).1 z)⟩
  have hL : ∀ {C n d : String}, vx_L C n d A U H → vx_L C n d B U H := fun h => by
    obtain ⟨c, k, i, f, a, cell, h1, h2, h3, h4, h5, h6, h7, h8, h9, h10⟩ := h
    exact ⟨c, k, i, f, a, cell, h1, h2, h3, h4, h5, h6, h7, h8, h9, fun z => h10 (hAB a (Array.getElem?_eq_some_iff.mp h5).1 z)⟩
  have hQ : ∀ {C n d : String}, vx_Zq C n d A U H → vx_Zq C n d B U H := fun h => ⟨h.1.elim (fun h => Or.inl (hZ h)) (fun ⟨t, h⟩ => Or.inr ⟨t, hZ h⟩), hL h.2⟩
  exact ⟨hZ h.1, ⟨h.2.1.1, fun z => h.2.1.2.1 (hAB _ h.2.1.1 z), h.2.1.2.2⟩, hQ h.2.2.1, hQ h.2.2.2⟩
/-- the cells that a method may write: those of its map, and new ones -/
def mw_A (M : mw_M) (sz : Nat) : Nat → Prop := fun q => M q ≠ none ∨ sz ≤ q
def mw_P (G : mw_G) (M : mw_M) (H : Heap) : Prop := ∀ (a : Nat) (e : va_E), M a = some e → va_at G.1 vwCl (a, e) H
theorem mw_P.lt {G : mw_G} {M : mw_M} {H : Heap} (h : mw_P G M H) {a : Nat} {e : va_E} (hM : M a = some e) : a < H.size := (h a e hM).lt
theorem mw_P.kept {G : mw_G} {M : mw_M} {H H1 : Heap} (h : mw_P G M H) (hq : ∀ a : Nat, M a ≠ none → H1[a]? = H[a]?) : mw_P G M H1 := fun a e hM => (h a e hM).kept (hq a (by rw [hM]; exact fun z => by cases z))
/-- where a method stands: its map holds in the heap, the map is its own, nothing else has changed -/
def mw_T (G : mw_G) (A : Nat → Prop) (s : State) (M : mw_M) (H : Heap) (locs : List Loc) : Prop := mw_P G M H ∧ (∀ a : Nat, M a ≠ none → A a) ∧ va_S A s.heap H locs
theorem mw_T.set {G : mw_G} {A : Nat → Prop} {s : State} {M : mw_M} {H H1 : Heap} {locs : List Loc} {a k : Nat} {e0 e : va_E} (h : mw_T G A s M H locs) (hM : M a = some e0) (he : va_at G.1 vwCl (a, e) H1) (z : H1.size = H.size) (oq : ∀ q : Nat, q ≠ a → H1[q]? = H[q]?) : mw_T G A s (va_up M a (some e)) H1 (locs ++ [⟨a, k⟩]) := by
  have hA : A a := h.2.1 a (by rw [hM]; exact fun z => by cases z)
  refine ⟨fun b e1 hb => ?_, fun b hb => ?_, h.2.2.put z oq hA⟩
  · by_cases hba : b = a
    · subst hba
      rw [va_up_self] at hb
      cases hb
      exact he
    · rw [va_up_ne _ _ hba] at hb
      exact (h.1 b e1 hb).kept (oq b hba)
  · by_cases hba : b = a
    · rw [hba]; exact hA
    · rw [va_up_ne _ _ hba] at hb
      exact h.2.1 b hb
theorem mw_T.push {G : mw_G} {A : Nat → Prop} {s : State} {M : mw_M} {H H1 : Heap} {locs : List Loc} {e : va_E} (h : mw_T G A s M H locs) (hA : ∀ q, s.heap.size ≤ q → A q) (he : va_at G.1 vwCl (H.size, e) H1) (z : H1.size = H.size + 1) (oq : ∀ q : Nat, q < H.size → H1[q]? = H[q]?) : M H.size = none ∧ mw_T G A s (va_up M H.size (some e)) H1 locs := by
  have hn : M H.size = none := by
    cases hM : M H.size with
    | none => rfl
    | some e1 => exact absurd (h.1.lt hM) (Nat.lt_irrefl _)
  refine ⟨hn, fun b e1 hb => ?_, fun b hb => ?_, ⟨Nat.le_trans h.2.2.1 (by omega), fun q h1 h2 => (oq q (Nat.lt_of_lt_of_le h1 h.2.2.1)).trans (h.2.2.2.1 q h1 h2), h.2.2.2.2⟩⟩
  · by_cases hba : b = H.size
    · subst hba
      rw [va_up_self] at hb
      cases hb
      exact he
    · rw [va_up_ne _ _ hba] at hb
      exact (h.1 b e1 hb).kept (oq b (h.1.lt hb))
  · by_cases hba : b = H.size
    · rw [hba]; exact hA _ h.2.2.1
    · rw [va_up_ne _ _ hba] at hb
      exact h.2.1 b hb
theorem mw_ne {M : mw_M} {a b : Nat} {e f : va_E} (ha : M a = some e) (hb : M b = some f) (h : e ≠ f) : a ≠ b := fun q => h (Option.some.inj ((q ▸ ha).symm.trans hb))
theorem mw_old {M : mw_M} {a b : Nat} {e : va_E} (ha : M a = some e) (hb : M b = none) : a ≠ b := fun q => by rw [q, hb] at ha; cases ha
end
section
/-- the written texts of the class -/
def mw_S : List (String × Nat × String) := [("AccessGate", 47, "team is out of range"), ("AccessGate", 58, "there are no more people than 12"), ("AccessGate", 74, "there are no more machines than 8"), ("AccessGate", 108, "minutes is out of range"), ("AccessGate", 136, "the person has approved it"), ("AccessGate", 171, "somebody has looked at the entry"), ("AccessGate", 177, "the person is of the team of the one who entered"), ("AccessGate", 188, "time is out of range"), ("AccessGate", 194, "no right of the person for the machine holds"), ("AccessGate", 203, "kind is out of range"), ("AccessGate", 213, "the session holds a line"), ("AccessGate", 226, "the session holds no line"), ("AccessGate", 232, "the person cannot let the line through"), ("AccessGate", 240, "the clock would be above 100000"), ("AccessGate", 257, "no such person"), ("AccessGate", 260, "no such machine"), ("AccessGate", 262, "no such ask"), ("AccessGate", 264, "no such entry"), ("AccessGate", 266, "no such session"), ("AccessGate", 268, "no such step"), ("AccessGate", 270, "label is out of range"), ("AccessGate", 272, "the object has been used for more than 512 calls"), ("AccessGate", 274, "the session is closed"), ("AccessGate", 280, "the person does not have the label of the machine"), ("AccessGate", 282, "the person has an overdue entry"), ("AccessGate", 284, "the ask does not wait"), ("AccessGate", 286, "the person cannot approve the ask")]

def mw_FL (own : String) (index ci k : Nat) : Prop := ∃ (C : String) (T : u_T) (N : Nat) (ref : String), vwCl[ci]? = some (C, T, N) ∧ k < N ∧ (∀ w ∈ u_ws C T N, w ∈ lw_tbl) ∧ (∀ (U : State) (A : Array Value), mw_W U → (Cond.fieldLink own index ref (T k).2.1 (T k).2.2.1).before A U = true ∨ ∃ host : String, (Cond.fieldLinkNest own index ref (T k).2.1 (T k).2.2.1 host).before A U = true) ∧ (∀ (U : State) (x : ClassId × Class × Nat × Field), mw_W U → U.fieldFound? (T k).1 (T k).2.1 (T k).2.2.1 = some x → U.fieldFound? ref (T k).2.1 (T k).2.2.1 = some x)
def mw_FP (own : String) (index ci k : Nat) (ty : FieldType) (fin : Bool) : Prop := ∃ (C : String) (T : u_T) (N : Nat) (ref : String) (ty0 : Nat → FieldType), vwCl[ci]? = some (C, T, N) ∧ k < N ∧ (∀ w ∈ u_ws C T N, w ∈ lw_tbl) ∧ (∀ (U : State) (A : Array Value), mw_W U → (Cond.fieldLink own index ref (T k).2.1 (T k).2.2.1).before A U = true ∨ (fin = false ∧ ∃ host : String, (Cond.fieldLinkNest own index ref (T k).2.1 (T k).2.2.1 host).before A U = true)) ∧ (∀ (U : State) (x : ClassId × Class × Nat × Field), mw_W U → U.fieldFound? (T k).1 (T k).2.1 (T k).2.2.1 = some x → U.fieldFound? ref (T k).2.1 (T k).2.2.1 = some x) ∧
  (∀ j, j < N → parseFieldDescriptor (T j).2.2.1 = some (ty0 j)) ∧ (∀ a, a < N → ∀ b, b < N → a ≠ b → (T a).2.1 ≠ (T b).2.1) ∧ parseFieldDescriptor (T k).2.2.1 = some ty ∧ (T k).2.2.2 = fin ∧ (fin = true → (T k).1 = own)
/-- what holds all through a method's body -/
def mw_B (p : Program) (l : Launch) (s : State) (m : MethodId) (meth : Method) (c : Code) (cc : ByteArray) (maxL : Nat) (own : String) (G : mw_G) (A : Nat → Prop) : Prop :=
  p.tables.exec = Jvm.exec ∧ c.code = cc ∧ c.maxLocals = maxL ∧ s.vm.findClass own = some m.cls ∧ mw_K mw_S G s ∧ mw_Z G A s s.heap ∧ (∀ q : Nat, s.heap.size ≤ q → A q) ∧ meth.locks = false ∧ l.stackTraces = false
theorem mw_tbl {s : State} {args : Array Value} (h : mw_W s) {ws : List Cond} (hin : ∀ w ∈ ws, w ∈ lw_tbl) (hg : ws.all mw_ok = true) : ∀ w ∈ ws, w.before args s = true := fun w hw => mw_use h (hin w hw) (List.all_eq_true.mp hg w hw)
section MR
variable {p : Program} {l : Launch} {e : Env} {R : Room} {s : State} {m : MethodId} {args : Array Value} {below : List Frame} {meth : Method} {c : Code} {H : Heap} {locs : List Loc} {cells slots : Nat} {Q : State → Prop}
variable {cc : ByteArray} {pc maxL : Nat} {own : String} {ls : Array Slot} {rest : List Value} {A : Nat → Prop} {a : Nat} {G : mw_G} {M : mw_M}
theorem u_ws_ok {C : String} {T : u_T} {N : Nat} : ∀ w ∈ u_ws C T N, mw_ok w = true := by
  intro w hw
  have h1 := hw
  unfold u_ws at h1
  simp only [List.mem_append, List.mem_map, List.mem_range, List.mem_cons, List.mem_singleton, List.not_mem_nil, or_false] at h1
  first
    | (rcases h1 with ⟨k, -, rfl⟩ | rfl <;> first | rfl | (unfold u_lay; split <;> rfl))
    | (rcases h1 with ⟨k, -, rfl⟩ <;> first | rfl | (unfold u_lay; split <;> rfl))
theorem mr_uws (X : mw_B p l s m meth c cc maxL own G A) {C : String} {T : u_T} {N : Nat} (hin : ∀ w ∈ u_ws C T N, w ∈ lw_tbl) : ∀ w ∈ u_ws C T N, w.before args s = true := fun w hw => mw_use X.2.2.2.2.1.1 (hin w hw) (u_ws_ok w hw)
/-- getfield -/
theorem mr_get (X : mw_B p l s m meth c cc maxL own G A) (hT : mw_T G A s M H locs) {index ci k : Nat} (hF : mw_FL own index ci k) {fs : List Value} (he : M a = some (.inr (ci, fs))) {v : Value} (hv : fs[k]? = some v) (hdg : decode cc pc = .ok (.getfield index, 3))
    (kk : W p l e R s m args below meth c H locs cells slots Q (F0 m (pc + 3) ls (v :: rest))) : W p l e R s m args below meth c H locs cells slots Q (F0 m pc ls (.ref a :: rest)) := by
  obtain ⟨C, T, N, ref, hc, hk, hin, hlink, hsame⟩ := hF
  have hW := X.2.2.2.2.1.1
  have hP : va_P G.1 vwCl [(a, .inr (ci, fs))] H := fun j q hj => by
    have hz : j < 1 := (List.getElem?_eq_some_iff.mp hj).1
    rw [show j = 0 by omega] at hj
    cases hj
    exact hT.1 _ _ he
  rcases hlink s args hW with hl | ⟨host, hl⟩
  · exact va_get (D := G.1) (ci := ci) (v := v) (C := C) (T := T) (N := N) X.1 X.2.1 (Ts := u_ws C T N) (mr_uws X hin) (fun _ h => h) X.2.2.2.1 X.2.2.2.2.1.2.1 hP 0 rfl hc k hk hl (fun x hx => hsame s x hW hx) hv hdg kk
  · exact va_getN (D := G.1) (ci := ci) (v := v) (C := C) (T := T) (N := N) X.1 X.2.1 (Ts := u_ws C T N) (mr_uws X hin) (fun _ h => h) X.2.2.2.1 X.2.2.2.2.1.2.1 hP 0 rfl hc k hk hl (fun x hx => hsame s x hW hx) hv hdg kk
/-- putfield -/
theorem mr_put (X : mw_B p l s m meth c cc maxL own G A) (hT : mw_T G A s M H locs) {index ci k : Nat} {ty : FieldType} {fin : Bool} (hF : mw_FP own index ci k ty fin) (hin2 : fin = true → meth.name = "<init>") {fs : List Value} (he : M a = some (.inr (ci, fs))) {v : Value} (hn : narrow ty v = v) (hfit : fits ty v = true) (hlen : k < fs.length) (hdg : decode cc pc = .ok (.putfield index, 3))
    (kk : ∀ (H1 : Heap) (locs1 : List Loc), mw_T G A s (va_up M a (some (.inr (ci, fs.set k v)))) H1 locs1 → W p l e R s m args below meth c H1 locs1 cells slots Q (F0 m (pc + 3) ls rest)) : W p l e R s m args below meth c H locs cells slots Q (F0 m pc ls (v :: .ref a :: rest)) := by
  obtain ⟨C, T, N, ref, ty0, hc, hk, hin, hlink, hsame, hty, hnm, hd, hfin, hdecl⟩ := hF
  have hW := X.2.2.2.2.1.1
  have hK := X.2.2.2.2.1.2.1
  have hts := mr_uws (args := args) X hin
  have hap := va_apart (own := own) hts (fun _ h => h) ty0 hty hnm hK hc
  obtain ⟨r, h1, cell, q1, q2, q3, q4⟩ := hT.1 _ _ he
  have hr : r = (C, T, N) := Option.some.inj (h1.symm.trans hc)
  subst hr
  obtain ⟨hS, hfc, kC, hkC, hkind⟩ := hK.1 ci _ hc
  obtain ⟨cf, kf, fi, f, hi, hsl⟩ := hS k hk
  have hlay := hts _ (u_in_lay hk)
  have hst := (u_facts hfc hkC (u_lays hts (fun _ h => h) hk) hi).1
  cases fin with
  | false =>
    unfold u_lay at hlay
    rw [if_neg (by rw [hfin]; decide)] at hlay
    have h6 := u_store hfc hkC hkind hlay hi hd hn hfit
    rcases hlink s args hW with hl | ⟨-, host, hl⟩
    · refine W.putK X.1 X.2.1 (f := f) ⟨X.2.2.2.1, hl, ⟨_, _, _, hsame s _ hW hi⟩, hst⟩ (by rw [q2]; exact h6) q1 q3 (by rw [hsl]; exact k2_hasslot (q4 k hk)) rfl rfl hdg fun H' e1 e2 e3 => ?_
      rw [hsl] at e1 ⊢
      exact kk H' _ (hT.set he ⟨_, hc, t_OB.to (V := updV (vp_V fs) k v) ⟨_, e1, q2, q3, t_set q4 hap hk v⟩ (fun j _ => vp_updV_set hlen v j)⟩ e2 e3)
    · refine va_WputK X.1 X.2.1 (f := f) X.2.2.2.1 hl (hsame s _ hW hi) hst (by rw [q2]; exact h6) q1 q3 (by rw [hsl]; exact k2_hasslot (q4 k hk)) rfl rfl hdg fun H' e1 e2 e3 => ?_
      rw [hsl] at e1 ⊢
      exact kk H' _ (hT.set he ⟨_, hc, t_OB.to (V := updV (vp_V fs) k v) ⟨_, e1, q2, q3, t_set q4 hap hk v⟩ (fun j _ => vp_updV_set hlen v j)⟩ e2 e3)
  | true =>
    unfold u_lay at hlay
    rw [if_pos hfin] at hlay
    have hcf : m.cls = cf := by
      obtain ⟨_, _, c', _, _, _, -, -, hf', -, -, -, hown2, -⟩ := Cond.laysFinal_spec hlay
      have e1 : c' = cf := by have := hi.symm.trans hf'; simp at this; exact this.1.symm
      rw [hdecl rfl] at hown2
      rw [← e1]; exact Option.some.inj (X.2.2.2.1.symm.trans hown2)
    have h6 := u_fits hfc hkC hkind (Or.inr hlay) hi hd hn hfit
    rcases hlink s args hW with hl | ⟨hno, -⟩
    · refine W.putFinK X.1 X.2.1 X.2.2.2.1 hl (hsame s _ hW hi) hst hcf (hin2 rfl) (by rw [q2]; exact h6) q1 q3 (by rw [hsl]; exact k2_hasslot (q4 k hk)) rfl rfl hdg fun H' e1 e2 e3 => ?_
      rw [hsl] at e1 ⊢
      exact kk H' _ (hT.set he ⟨_, hc, t_OB.to (V := updV (vp_V fs) k v) ⟨_, e1, q2, q3, t_set q4 hap hk v⟩ (fun j _ => vp_updV_set hlen v j)⟩ e2 e3)
    · cases hno
theorem mr_one (hT : mw_T G A s M H locs) {e0 : va_E} (he : M a = some e0) : va_P G.1 vwCl [(a, e0)] H := fun j q hj => by
  have hz : j < 1 := (List.getElem?_eq_some_iff.mp hj).1
  rw [show j = 0 by omega] at hj
  cases hj
  exact hT.1 _ _ he
/-- arrays of ints: a read, a write -/
theorem mr_iald (X : mw_B p l s m meth c cc maxL own G A) (hT : mw_T G A s M H locs) {n : Nat} {f : Nat → Int32} (he : M a = some (.inl (G.2.1 0, n, .inl f))) {i : Int32} (hin : vp_in i n) (hdg : decode cc pc = .ok (.iaload, 1))
    (kk : W p l e R s m args below meth c H locs cells slots Q (F0 m (pc + 1) ls (.int (f i.toNatClampNeg) :: rest))) : W p l e R s m args below meth c H locs cells slots Q (F0 m pc ls (.int i :: .ref a :: rest)) :=
  va_iald X.1 X.2.1 X.2.2.2.2.1.2.1 (mr_one hT he) 0 0 rfl rfl hin hdg kk
theorem mr_zald (X : mw_B p l s m meth c cc maxL own G A) (hT : mw_T G A s M H locs) {n : Nat} {f : Nat → Int32} (he : M a = some (.inl (G.2.1 1, n, .inl f))) {i : Int32} (hin : vp_in i n) (hdg : decode cc pc = .ok (.baload, 1))
    (kk : W p l e R s m args below meth c H locs cells slots Q (F0 m (pc + 1) ls (.int (f i.toNatClampNeg) :: rest))) : W p l e R s m args below meth c H locs cells slots Q (F0 m pc ls (.int i :: .ref a :: rest)) :=
  va_zald X.1 X.2.1 X.2.2.2.2.1.2.1 (mr_one hT he) 0 1 rfl rfl hin hdg kk
theorem mr_lald (X : mw_B p l s m meth c cc maxL own G A) (hT : mw_T G A s M H locs) {n : Nat} {f : Nat → Int64} (he : M a = some (.inl (G.2.1 3, n, .inr (.inl f)))) {i : Int32} (hin : vp_in i n) (hdg : decode cc pc = .ok (.laload, 1))
    (kk : W p l e R s m args below meth c H locs cells slots Q (F0 m (pc + 1) ls (.long (f i.toNatClampNeg) :: rest))) : W p l e R s m args below meth c H locs cells slots Q (F0 m pc ls (.int i :: .ref a :: rest)) :=
  va_lald X.1 X.2.1 X.2.2.2.2.1.2.1 (mr_one hT he) 0 3 rfl rfl hin hdg kk
theorem mr_aald (X : mw_B p l s m meth c cc maxL own G A) (hT : mw_T G A s M H locs) {n : Nat} {f : Nat → Option Nat} (he : M a = some (.inl (G.2.1 2, n, .inr (.inr (.inr (.inr f)))))) {i : Int32} (hin : vp_in i n) (hdg : decode cc pc = .ok (.aaload, 1))
    (kk : W p l e R s m args below meth c H locs cells slots Q (F0 m (pc + 1) ls (va_rf (f i.toNatClampNeg) :: rest))) : W p l e R s m args below meth c H locs cells slots Q (F0 m pc ls (.int i :: .ref a :: rest)) :=
  va_aldq X.1 X.2.1 X.2.2.2.2.1.2.1 (mr_one hT he) 0 2 rfl rfl hin hdg kk
theorem mr_alen (X : mw_B p l s m meth c cc maxL own G A) (hT : mw_T G A s M H locs) {k n : Nat} {x : (Nat → Int32) ⊕ (Nat → Int64) ⊕ (Nat → UInt32) ⊕ (Nat → UInt64) ⊕ (Nat → Option Nat)} (he : M a = some (.inl (G.2.1 k, n, x))) (hk : k < 4) (hdg : decode cc pc = .ok (.arraylength, 1))
    (kk : W p l e R s m args below meth c H locs cells slots Q (F0 m (pc + 1) ls (.int (nI n) :: rest))) : W p l e R s m args below meth c H locs cells slots Q (F0 m pc ls (.ref a :: rest)) := by
  obtain ⟨ty, hty⟩ : ∃ ty : FieldType, (mw_tys G)[k]? = some (G.2.1 k, ty) := by
    rcases (show k = 0 ∨ k = 1 ∨ k = 2 ∨ k = 3 by omega) with rfl | rfl | rfl | rfl <;> exact ⟨_, rfl⟩
  exact va_alen X.1 X.2.1 X.2.2.2.2.1.2.1 (mr_one hT he) 0 k rfl hty rfl hdg kk
theorem mr_alen0 (X : mw_B p l s m meth c cc maxL own G A) (hT : mw_T G A s M H locs) (hdg : decode cc pc = .ok (.arraylength, 1))
    (kk : W p l e R s m args below meth c H locs cells slots Q (F0 m (pc + 1) ls (.int (nI 0) :: rest))) : W p l e R s m args below meth c H locs cells slots Q (F0 m pc ls (.ref G.2.2 :: rest)) := by
  obtain ⟨hzl, hzA, hzv⟩ := X.2.2.2.2.2.1.2.1
  have hP : va_P G.1 vwCl [(G.2.2, .inl (G.2.1 2, 0, .inr (.inr (.inr (.inr (fun _ => none))))))] H := fun j q hj => by
    have hz : j < 1 := (List.getElem?_eq_some_iff.mp hj).1
    rw [show j = 0 by omega] at hj
    cases hj
    exact hzv.kept (hT.2.2.2.1 _ hzl hzA)
  exact va_alen X.1 X.2.1 X.2.2.2.2.1.2.1 hP 0 2 rfl rfl rfl hdg kk

theorem mr_iast (X : mw_B p l s m meth c cc maxL own G A) (hT : mw_T G A s M H locs) {n : Nat} {f : Nat → Int32} (he : M a = some (.inl (G.2.1 0, n, .inl f))) {i : Int32} {x : Int32} (hin : vp_in i n) (hdg : decode cc pc = .ok (.iastore, 1))
    (kk : ∀ (H1 : Heap) (locs1 : List Loc), mw_T G A s (va_up M a (some (.inl (G.2.1 0, n, .inl (upd f i.toNatClampNeg x))))) H1 locs1 → W p l e R s m args below meth c H1 locs1 cells slots Q (F0 m (pc + 1) ls rest)) : W p l e R s m args below meth c H locs cells slots Q (F0 m pc ls (.int x :: .int i :: .ref a :: rest)) := by
  refine W.iast X.1 X.2.1 (hT.1 _ _ he) ((X.2.2.2.2.1.2.1.2 0 _ rfl).1 n (fun j => .int (f j))) (fun q => by cases q) (by show ¬ (i < 0 ∨ (arrV _ _ _).slots.size ≤ _); rw [arrV_size]; exact hin) rfl rfl hdg fun H1 e z oq => ?_
  refine kk H1 _ (hT.set he ?_ z oq)
  show H1[a]? = some (vp_cell _ _)
  rw [e]
  rw [vp_cell_i, vp_cell_i, arrV_store]
  congr 2
  funext q
  by_cases hq : q = i.toNatClampNeg
  · subst hq
    (first | (simp [updV, upd]; done) | (simp [updV, upd, vp_nar]; try rfl))
  · simp [updV, upd, hq]
theorem mr_zast (X : mw_B p l s m meth c cc maxL own G A) (hT : mw_T G A s M H locs) {n : Nat} {f : Nat → Int32} (he : M a = some (.inl (G.2.1 1, n, .inl f))) {i : Int32} {x : Int32} (hin : vp_in i n) (hdg : decode cc pc = .ok (.bastore, 1))
    (kk : ∀ (H1 : Heap) (locs1 : List Loc), mw_T G A s (va_up M a (some (.inl (G.2.1 1, n, .inl (upd f i.toNatClampNeg (vp_nar .boolean x)))))) H1 locs1 → W p l e R s m args below meth c H1 locs1 cells slots Q (F0 m (pc + 1) ls rest)) : W p l e R s m args below meth c H locs cells slots Q (F0 m pc ls (.int x :: .int i :: .ref a :: rest)) := by
  refine W.zast X.1 X.2.1 (hT.1 _ _ he) ((X.2.2.2.2.1.2.1.2 1 _ rfl).1 n (fun j => .int (f j))) (fun q => by cases q) (by show ¬ (i < 0 ∨ (arrV _ _ _).slots.size ≤ _); rw [arrV_size]; exact hin) rfl rfl hdg fun H1 e z oq => ?_
  refine kk H1 _ (hT.set he ?_ z oq)
  show H1[a]? = some (vp_cell _ _)
  rw [e]
  rw [vp_cell_i, vp_cell_i, arrV_store]
  congr 2
  funext q
  by_cases hq : q = i.toNatClampNeg
  · subst hq
    (first | (simp [updV, upd]; done) | (simp [updV, upd, vp_nar]; try rfl))
  · simp [updV, upd, hq]
theorem mr_last (X : mw_B p l s m meth c cc maxL own G A) (hT : mw_T G A s M H locs) {n : Nat} {f : Nat → Int64} (he : M a = some (.inl (G.2.1 3, n, .inr (.inl f)))) {i : Int32} {x : Int64} (hin : vp_in i n) (hdg : decode cc pc = .ok (.lastore, 1))
    (kk : ∀ (H1 : Heap) (locs1 : List Loc), mw_T G A s (va_up M a (some (.inl (G.2.1 3, n, .inr (.inl (vp_updL f i.toNatClampNeg x)))))) H1 locs1 → W p l e R s m args below meth c H1 locs1 cells slots Q (F0 m (pc + 1) ls rest)) : W p l e R s m args below meth c H locs cells slots Q (F0 m pc ls (.long x :: .int i :: .ref a :: rest)) := by
  refine W.last X.1 X.2.1 (hT.1 _ _ he) ((X.2.2.2.2.1.2.1.2 3 _ rfl).1 n (fun j => .long (f j))) (fun q => by cases q) (by show ¬ (i < 0 ∨ (arrV _ _ _).slots.size ≤ _); rw [arrV_size]; exact hin) rfl rfl hdg fun H1 e z oq => ?_
  refine kk H1 _ (hT.set he ?_ z oq)
  show H1[a]? = some (vp_cell _ _)
  rw [e]
  rw [vp_cell_l, vp_cell_l, arrV_store]
  congr 2
  funext q
  by_cases hq : q = i.toNatClampNeg
  · subst hq
    simp [updV, vp_updL]
  · simp [updV, vp_updL, hq]
/-- an object into an array of objects -/
theorem mr_aast (X : mw_B p l s m meth c cc maxL own G A) (hT : mw_T G A s M H locs) {n v ci : Nat} {vs : List Value} {f : Nat → Option Nat} (he : M a = some (.inl (G.2.1 2, n, .inr (.inr (.inr (.inr f)))))) {C : String} {T : u_T} {N : Nat} (hc : vwCl[ci]? = some (C, T, N)) (hca : Cond.castable C "java/lang/Object" ∈ lw_tbl) (hv : M v = some (.inr (ci, vs))) {i : Int32} (hin : vp_in i n) (hdg : decode cc pc = .ok (.aastore, 1))
    (kk : ∀ (H1 : Heap) (locs1 : List Loc), mw_T G A s (va_up M a (some (.inl (G.2.1 2, n, .inr (.inr (.inr (.inr (va_up f i.toNatClampNeg (some v))))))))) H1 locs1 → W p l e R s m args below meth c H1 locs1 cells slots Q (F0 m (pc + 1) ls rest)) : W p l e R s m args below meth c H locs cells slots Q (F0 m pc ls (.ref v :: .int i :: .ref a :: rest)) := by
  have hlt : i.toNatClampNeg < n := Nat.not_le.mp fun q => hin (Or.inr q)
  have h0 : ¬ i < 0 := fun q => hin (Or.inl q)
  have hK := X.2.2.2.2.1.2.1
  obtain ⟨r', hr', cellV, g1, g2, g3, -⟩ := hT.1 _ _ hv
  have hcls := (hK.1 ci _ hc).2
  obtain ⟨kA, comp, k1, k2, k3, -⟩ := (hK.2 2 _ rfl).2
  obtain ⟨kE, hkE, -⟩ := Vm.findClass_spec k3
  obtain ⟨c0, t1, f1, f2, f3⟩ := Cond.castable_spec (mw_use (A := args) X.2.2.2.2.1.1 hca rfl)
  cases hcls.1.symm.trans f1
  cases k3.symm.trans f2
  obtain ⟨kC, hkC, -⟩ := hcls.2
  refine W.aast X.1 X.2.1 (hT.1 _ _ he) (fun q h => by cases h) (fun h => by cases h) k1 k2 rfl hkE ⟨h0, by show _ < (arrV _ _ _).slots.size; rw [arrV_size]; exact hlt⟩ g1 (fun q h => by rw [g3] at h; cases h) (by rw [g2]; exact hkC) (by rw [g2]; exact f3) rfl rfl hdg fun H1 e z oq => ?_
  refine kk H1 _ (hT.set he ?_ z oq)
  show H1[a]? = some (vp_cell _ _)
  rw [e]
  rw [vp_cell_q, vp_cell_q, arrV_store]
  congr 2
  funext q
  by_cases hq : q = i.toNatClampNeg
  · subst hq
    simp [updV, va_up, va_rf]
  · simp [updV, va_up, hq]
/-- new objects and arrays -/
theorem mr_new (X : mw_B p l s m meth c cc maxL own G A) (hT : mw_T G A s M H locs) {C : String} {T : u_T} {N ci index : Nat} (hc : vwCl[ci]? = some (C, T, N)) (hin : ∀ w ∈ u_ws C T N, w ∈ lw_tbl) (ty : Nat → FieldType) (hty : ∀ k, k < N → parseFieldDescriptor (T k).2.2.1 = some (ty k)) (hcl : Cond.classLink own index C ∈ lw_tbl) (hinst : Cond.instantiable C N ∈ lw_tbl) (hini : Cond.initialized C ∈ lw_tbl)
    {fs : List Value} (hfs : ∀ j, j < N → defaultValue (ty j) = vp_V fs j) (hcells : cells + 1 ≤ R.cells) (hslots : slots + N ≤ R.slots) (hdg : decode cc pc = .ok (.new index, 3))
    (kk : ∀ (q : Nat) (H1 : Heap), M q = none → mw_T G A s (va_up M q (some (.inr (ci, fs)))) H1 locs → W p l e R s m args below meth c H1 locs (cells + 1) (slots + N) Q (F0 m (pc + 3) ls (.ref q :: rest))) : W p l e R s m args below meth c H locs cells slots Q (F0 m pc ls rest) := by
  have hW := X.2.2.2.2.1.1
  have hKn := X.2.2.2.2.1.2.1.1 ci _ hc
  refine W.newcK X.1 X.2.1 X.2.2.2.1 (mw_use hW hcl rfl) (mw_use hW hinst rfl) (mw_use hW hini rfl) rfl hdg hcells hslots hKn.2.1 rfl fun H1 kC hkC e1 z1 o1 => ?_
  obtain ⟨hn, hT1⟩ := hT.push (e := .inr (ci, fs)) X.2.2.2.2.2.2.1 ⟨_, hc, (u_born (args := args) ty (mr_uws X hin) (fun _ h => h) hKn hkC e1 hty).to hfs⟩ z1 o1
  exact kk H.size H1 hn hT1
theorem mr_newa (X : mw_B p l s m meth c cc maxL own G A) (hT : mw_T G A s M H locs) {atype : ArrayType} {k : Nat} (hk : (mw_tys G)[k]? = some (G.2.1 k, newarray.typeOf atype)) (harr : Cond.arrayClass (newarray.typeOf atype) ∈ lw_tbl)
    {n : Int32} {N : Nat} {x : (Nat → Int32) ⊕ (Nat → Int64) ⊕ (Nat → UInt32) ⊕ (Nat → UInt64) ⊕ (Nat → Option Nat)} (ha : ∀ cA : ClassId, vp_cell cA (N, x) = arrV cA N (fun _ => defaultValue (newarray.typeOf atype))) (hn : ¬ n < 0) (hN : n.toNatClampNeg = N) (hbytes : N * componentBytes (newarray.typeOf atype) ≤ 536870912) (hcells : cells + 1 ≤ R.cells) (hslots : slots + N ≤ R.slots) (hdg : decode cc pc = .ok (.newarray atype, 2))
    (kk : ∀ (q : Nat) (H1 : Heap), M q = none → mw_T G A s (va_up M q (some (.inl (G.2.1 k, N, x)))) H1 locs → W p l e R s m args below meth c H1 locs (cells + 1) (slots + N) Q (F0 m (pc + 2) ls (.ref q :: rest))) : W p l e R s m args below meth c H locs cells slots Q (F0 m pc ls (.int n :: rest)) := by
  have hW := X.2.2.2.2.1.1
  refine va_newaK X.1 X.2.1 (mw_use hW harr rfl) rfl hdg rfl hn hN hbytes hcells hslots rfl fun H1 cA e1 z1 o1 hAr hNm => ?_
  have hRA := (X.2.2.2.2.1.2.1.2 k _ hk).2
  have hcA : cA = G.2.1 k := by
    have h2 : s.vm.findClass ("[" ++ (newarray.typeOf atype).toString) = some (G.2.1 k) := by
      cases atype <;> exact hRA
    exact Option.some.inj (hNm.symm.trans h2)
  subst hcA
  obtain ⟨hn, hT1⟩ := hT.push (e := .inl (G.2.1 k, N, x)) X.2.2.2.2.2.2.1 (by show H1[H.size]? = some (vp_cell _ _); rw [ha]; exact e1) z1 o1
  exact kk H.size H1 hn hT1
theorem mr_newq (X : mw_B p l s m meth c cc maxL own G A) (hT : mw_T G A s M H locs) {index : Nat} (hcl : Cond.classLink own index "java/lang/Object" ∈ lw_tbl)
    {n : Int32} {N : Nat} (hn : ¬ n < 0) (hN : n.toNatClampNeg = N) (hbytes : N * 4 ≤ 536870912) (hcells : cells + 1 ≤ R.cells) (hslots : slots + N ≤ R.slots) (hdg : decode cc pc = .ok (.anewarray index, 3))
    (kk : ∀ (q : Nat) (H1 : Heap), M q = none → mw_T G A s (va_up M q (some (.inl (G.2.1 2, N, .inr (.inr (.inr (.inr (fun _ => none)))))))) H1 locs → W p l e R s m args below meth c H1 locs (cells + 1) (slots + N) Q (F0 m (pc + 3) ls (.ref q :: rest))) : W p l e R s m args below meth c H locs cells slots Q (F0 m pc ls (.int n :: rest)) := by
  have hW := X.2.2.2.2.1.1
  subst hN
  refine W.anew X.1 X.2.1 X.2.2.2.1 (mw_use hW hcl rfl) (va_AO.use X.2.2.2.2.1.2.2.1) rfl hdg rfl hn hbytes hcells hslots fun cA kA comp f1 f2 f3 f4 => ?_
  generalize hH1 : H.push ({ cls := cA, slots := Array.replicate n.toNatClampNeg .null, vm := .none } : Cell) = H1
  have z1 : H1.size = H.size + 1 := by rw [← hH1, Array.size_push]
  have e1 : H1[H.size]? = some (arrV cA n.toNatClampNeg (fun _ => .null)) := by rw [← hH1, Array.getElem?_push_size, ← arrV_new]
  have o1 : ∀ q : Nat, q < H.size → H1[q]? = H[q]? := fun q hq => by rw [← hH1, Array.getElem?_push, if_neg (Nat.ne_of_lt hq)]
  obtain ⟨-, -, -, -, -, h4⟩ := (X.2.2.2.2.1.2.1.2 2 _ rfl).2
  have hcA : cA = G.2.1 2 := Option.some.inj (f1.symm.trans h4)
  subst hcA
  obtain ⟨hn, hT1⟩ := hT.push (e := .inl (G.2.1 2, n.toNatClampNeg, .inr (.inr (.inr (.inr (fun _ => none)))))) X.2.2.2.2.2.2.1 (by show H1[H.size]? = some (vp_cell _ _); rw [vp_cell_q]; exact e1) z1 o1
  exact kk H.size H1 hn hT1
theorem mr_cell (X : mw_B p l s m meth c cc maxL own G A) (hT : mw_T G A s M H locs) {ci : Nat} {fs : List Value} (he : M a = some (.inr (ci, fs))) {C : String} {T : u_T} {N : Nat} (hc : vwCl[ci]? = some (C, T, N)) : ∃ cell : Cell, H[a]? = some cell ∧ cell.vm.isStatics = false ∧ s.vm.findClass C = some cell.cls :=
  va_recv X.2.2.2.2.1.2.1 (mr_one hT he) hc (q0 := 0) rfl
theorem mr_cast (X : mw_B p l s m meth c cc maxL own G A) (hT : mw_T G A s M H locs) {ci index : Nat} {fs : List Value} (he : M a = some (.inr (ci, fs))) {C : String} {T : u_T} {N : Nat} (hc : vwCl[ci]? = some (C, T, N)) (hl : Cond.classLink own index C ∈ lw_tbl) (hdg : decode cc pc = .ok (.checkcast index, 3))
    (kk : W p l e R s m args below meth c H locs cells slots Q (F0 m (pc + 3) ls (.ref a :: rest))) : W p l e R s m args below meth c H locs cells slots Q (F0 m pc ls (.ref a :: rest)) :=
  va_castS X.1 X.2.1 X.2.2.2.1 (mw_use X.2.2.2.2.1.1 hl rfl) (X.2.2.2.2.1.2.1.1 ci _ hc).2 (mr_cell X hT he hc) hdg kk
/-- the empty array's static -/
theorem mr_gets (X : mw_B p l s m meth c cc maxL own G A) (hT : mw_T G A s M H locs) {index : Nat} (hl : Cond.fieldLink own index "java/util/ArrayList" "DEFAULTCAPACITY_EMPTY_ELEMENTDATA" "[Ljava/lang/Object;" ∈ lw_tbl) (hdg : decode cc pc = .ok (.getstatic index, 3))
    (kk : W p l e R s m args below meth c H locs cells slots Q (F0 m (pc + 3) ls (.ref G.2.2 :: rest))) : W p l e R s m args below meth c H locs cells slots Q (F0 m pc ls rest) :=
  va_gets X.1 X.2.1 X.2.2.2.2.2.1.1 hT.2.2 X.2.2.2.1 (mw_use X.2.2.2.2.1.1 hl rfl) (fun _ h => h) hdg kk
end MR
end
section
/-! CONTRACTS OVER MAPS, calls and ends. -/
def mw_Pre (G : mw_G) (av : List Value) (M : mw_M) (sz : Nat) : Array Value → State → Prop := va_Pc av (fun U => U.heap.size = sz ∧ mw_K mw_S G U ∧ mw_Z G (mw_A M sz) U U.heap ∧ mw_P G M U.heap)
def mw_Qr (G : mw_G) (M : mw_M) (sz : Nat) (post : Option Value → mw_M → Prop) : Array Value → State → Outcome → State → Prop := fun _ st oc t => ∃ (v : Option Value) (M1 : mw_M), oc = .returned v ∧ post v M1 ∧ mw_P G M1 t.heap ∧ (∀ a : Nat, M1 a ≠ none → mw_A M sz a) ∧ va_F (mw_A M sz) st t
def mw_Xr (G : mw_G) (M : mw_M) (sz : Nat) (px : String → Prop) : String → State → State → Prop := fun E st t => px E ∧ mw_P G M t.heap ∧ va_F (mw_A M sz) st t
/-- a method that returns -/
def mw_Met (l : Launch) (G : mw_G) (y : MethodName) (w : Cond) (rm : Room) (av : List Value) (M : mw_M) (post : Option Value → mw_M → Prop) : Prop := ∀ sz : Nat, Met l y [w] rm (mw_Pre G av M sz) (mw_Qr G M sz post) rm.cells rm.slots (mw_A M sz)
/-- a method that returns or throws; where it throws the map is as it was -/
def mw_MetX (l : Launch) (G : mw_G) (y : MethodName) (w : Cond) (rm : Room) (av : List Value) (M : mw_M) (post : Option Value → mw_M → Prop) (px : String → Prop) : Prop := ∀ sz : Nat, vx_Met l y [w] rm (mw_Pre G av M sz) (mw_Qr G M sz post) (mw_Xr G M sz px) rm.cells rm.slots (mw_A M sz)
abbrev mw_E (below : List Frame) (G : mw_G) (M : mw_M) (rm : Room) (post : Option Value → mw_M → Prop) (args : Array Value) (s : State) : State → Prop := MQ below (mw_Qr G M s.heap.size post) args s rm.cells rm.slots (mw_A M s.heap.size)
abbrev mw_EX (below : List Frame) (G : mw_G) (M : mw_M) (rm : Room) (post : Option Value → mw_M → Prop) (px : String → Prop) (args : Array Value) (s : State) : State → Prop := vx_MQ below (mw_Qr G M s.heap.size post) (mw_Xr G M s.heap.size px) args s rm.cells rm.slots (mw_A M s.heap.size)
/-- answers: nothing, an int, a cell -/
abbrev mw_pv (P : mw_M → Prop) : Option Value → mw_M → Prop := fun v M1 => v = none ∧ P M1
abbrev mw_pi (P : Int32 → mw_M → Prop) : Option Value → mw_M → Prop := fun v M1 => ∃ r : Int32, v = some (.int r) ∧ P r M1
abbrev mw_pr (P : Nat → mw_M → Prop) : Option Value → mw_M → Prop := fun v M1 => ∃ q : Nat, v = some (.ref q) ∧ P q M1
theorem mw_Pre.blind {G : mw_G} {av : List Value} {M : mw_M} {sz : Nat} : FrameBlind (mw_Pre G av M sz) := by
  intro a U g mk ⟨h1, h2, h3, h4, h5⟩
  exact ⟨h1, h2, mw_K.calling h3, mw_Z.moved (u := U) (U := U.calling g mk a) (Vm.Alike.refl U.vm) h4, h5⟩
theorem mw_body {p : Program} {l : Launch} {e : Env} {s s₁ : State} {m : MethodId} {args : Array Value} {below : List Frame} {meth : Method} {c : Code} {G : mw_G} {y : MethodName} {S : Spec} {cc : ByteArray} {maxL : Nat} {ret : Option FieldType} {av : List Value} {M : mw_M} (hfl : l.stackTraces = false) (B : BodyLoose p l y S cc maxL ret e s m args below meth c s₁) (hml : c.maxLocals = maxL) (hv : mw_Pre G av M s.heap.size args s) :
    args = av.toArray ∧ mw_B p l s m meth c cc maxL y.cls G (mw_A M s.heap.size) ∧ meth.name = y.name ∧ meth.sig.returnType = ret ∧ mw_T G (mw_A M s.heap.size) s M s.heap [] := by
  obtain ⟨h1, h2, h3, h4, h5⟩ := hv
  exact ⟨h1, ⟨B.exec, B.bytes, hml, findClass_of_methodNamed B.named, h3, h4, fun q h => Or.inr h, B.notSynchronized, hfl⟩, (name_of_methodNamed B.named B.method).1, B.returns, h5, fun a h => Or.inl h, va_S.rf⟩
theorem mw_of {l : Launch} {G : mw_G} {y : MethodName} {cc : ByteArray} {maxL : Nat} {ret : Option FieldType} {rm : Room} {av : List Value} {M : mw_M} {post : Option Value → mw_M → Prop} (hfl : l.stackTraces = false) (hy : plainName y.cls = true) (hlen : (lg_sl av).length ≤ maxL)
    (body : ∀ (p : Program) (e : Env) (s : State) (m : MethodId) (below : List Frame) (meth : Method) (c : Code) (ls : Array Slot), mw_B p l s m meth c cc maxL y.cls G (mw_A M s.heap.size) → meth.name = y.name → meth.sig.returnType = ret → mw_T G (mw_A M s.heap.size) s M s.heap [] → lv_has ls maxL (lv_args 0 av) →
      W p l e rm s m av.toArray below meth c s.heap [] 0 0 (mw_E below G M rm post av.toArray s) (F0 m 0 ls [])) : mw_Met l G y (.code y cc maxL ret) rm av M post := by
  intro sz
  refine Met.ofW (cc := cc) (maxL := maxL) (ret := ret) hy rfl ?_
  intro p e s m args below meth c s₁ B hml hv
  have hsz : s.heap.size = sz := hv.2.1
  subst hsz
  obtain ⟨rfl, X, h1, h2, hT⟩ := mw_body hfl B hml hv
  have hl := lv_entry av (n := maxL) hlen
  rw [lg_entry_eq]
  exact body p e s m below meth c _ X h1 h2 hT hl
theorem mw_ofX {l : Launch} {G : mw_G} {y : MethodName} {cc : ByteArray} {maxL : Nat} {ret : Option FieldType} {rm : Room} {av : List Value} {M : mw_M} {post : Option Value → mw_M → Prop} {px : String → Prop} (hfl : l.stackTraces = false) (hy : plainName y.cls = true) (hlen : (lg_sl av).length ≤ maxL)
    (body : ∀ (p : Program) (e : Env) (s : State) (m : MethodId) (below : List Frame) (meth : Method) (c : Code) (ls : Array Slot), mw_B p l s m meth c cc maxL y.cls G (mw_A M s.heap.size) → meth.name = y.name → meth.sig.returnType = ret → (∀ x ∈ c.exceptionTable.toList, False) → mw_T G (mw_A M s.heap.size) s M s.heap [] → lv_has ls maxL (lv_args 0 av) →
      W p l e rm s m av.toArray below meth c s.heap [] 0 0 (mw_EX below G M rm post px av.toArray s) (F0 m 0 ls [])) : mw_MetX l G y (.code y cc maxL ret) rm av M post px := by
  intro sz
  refine vx_ofW (cc := cc) (maxL := maxL) (ret := ret) hy rfl ?_
  intro p e s m args below meth c s₁ B hml hexc hv
  have hsz : s.heap.size = sz := hv.2.1
  subst hsz
  obtain ⟨rfl, X, h1, h2, hT⟩ := mw_body hfl B hml hv
  have hl := lv_entry av (n := maxL) hlen
  rw [lg_entry_eq]
  exact body p e s m below meth c _ X h1 h2 hexc hT hl
theorem mw_ofH {l : Launch} {G : mw_G} {y : MethodName} {cc : ByteArray} {maxL : Nat} {ret : Option FieldType} {hh : List (Nat × Nat × Nat × Nat)} {rm : Room} {av : List Value} {M : mw_M} {post : Option Value → mw_M → Prop} {px : String → Prop} (hfl : l.stackTraces = false) (hy : plainName y.cls = true) (hlen : (lg_sl av).length ≤ maxL)
    (body : ∀ (p : Program) (e : Env) (s : State) (m : MethodId) (below : List Frame) (meth : Method) (c : Code) (ls : Array Slot), mw_B p l s m meth c cc maxL y.cls G (mw_A M s.heap.size) → meth.name = y.name → meth.sig.returnType = ret → c.exceptionTable.toList = tableOf hh → mw_T G (mw_A M s.heap.size) s M s.heap [] → lv_has ls maxL (lv_args 0 av) →
      W p l e rm s m av.toArray below meth c s.heap [] 0 0 (mw_EX below G M rm post px av.toArray s) (F0 m 0 ls [])) : mw_MetX l G y (.codeWith y cc maxL ret hh) rm av M post px := by
  intro sz
  refine vx_ofWH (cc := cc) (maxL := maxL) (ret := ret) (hh := hh) hy rfl ?_
  intro p e s m args below meth c s₁ B hml hv
  have hsz : s.heap.size = sz := hv.2.1
  subst hsz
  have htab := vx_table (x := y) B (atoms_spec (ws := [Cond.codeWith y cc maxL ret hh]) B.pre _ List.mem_cons_self)
  obtain ⟨rfl, X, h1, h2, hT⟩ := mw_body hfl B hml hv
  have hl := lv_entry av (n := maxL) hlen
  rw [lg_entry_eq]
  exact body p e s m below meth c _ X h1 h2 htab hT hl
/-! calls -/
def mw_or (M1 M2 : mw_M) : mw_M := fun a => (M1 a).or (M2 a)
def mw_nil : mw_M := fun _ => none
theorem mw_or_nil (M : mw_M) : mw_or M mw_nil = M := by
  funext a
  show (M a).or none = M a
  cases M a <;> rfl
def mw_ds (M1 M2 : mw_M) : Prop := ∀ a : Nat, M1 a ≠ none → M2 a = none
theorem mw_ds_nil (M : mw_M) : mw_ds M mw_nil := fun _ _ => rfl
def mw_CB (own : String) (index : Nat) (y : MethodName) (n : Nat) : Prop := Cond.initialized y.cls ∈ lw_tbl ∧ (y.cls ≠ "java/lang/invoke/MethodHandle" ∧ y.cls ≠ "java/lang/invoke/VarHandle") ∧ (parseMethodDescriptor y.desc).map (fun d => d.parameters.length) = some n ∧ Cond.methodLink own index y ∈ lw_tbl
def mw_CN (own : String) (index : Nat) (y : MethodName) (n : Nat) : Prop := Cond.initialized y.cls ∈ lw_tbl ∧ (y.cls ≠ "java/lang/invoke/MethodHandle" ∧ y.cls ≠ "java/lang/invoke/VarHandle") ∧ (parseMethodDescriptor y.desc).map (fun d => d.parameters.length) = some n ∧ ∃ host : String, Cond.methodLinkNest own index y host ∈ lw_tbl
section MC
variable {p : Program} {l : Launch} {e : Env} {R : Room} {s : State} {m : MethodId} {args : Array Value} {below : List Frame} {meth : Method} {c : Code} {H : Heap} {locs : List Loc} {cells slots : Nat} {Q : State → Prop}
variable {cc : ByteArray} {pc maxL : Nat} {own : String} {ls : Array Slot} {rest st0 : List Value} {A : Nat → Prop} {G : mw_G} {M Mc Mr : mw_M}
variable {y : MethodName} {bytes : ByteArray} {maxL2 index n : Nat} {ret : Option FieldType} {rm : Room} {post : Option Value → mw_M → Prop} {px : String → Prop} {av : List Value}
theorem mr_pre (X : mw_B p l s m meth c cc maxL own G A) (hT : mw_T G A s (mw_or Mc Mr) H locs) (U : State) (hU : U.heap = H) (hW : s.WarmedH U.vm) : mw_Pre G av Mc H.size av.toArray U := by
  have hS := hT.2.2
  refine ⟨rfl, by rw [hU], mw_K.warm hW X.2.2.2.2.1, ?_, ?_⟩
  · have h1 : mw_Z G A s H := X.2.2.2.2.2.1.kept hS.1 (fun q h1 h2 => hS.2.1 q h1 h2)
    have h2 := h1.moved (U := U) hW.alike
    rw [hU]
    refine h2.narrowH (fun q hq hz => ?_)
    rcases hz with hz | hz
    · refine hT.2.1 q ?_
      unfold mw_or
      cases hq2 : Mc q with
      | none => exact absurd hq2 hz
      | some e => exact fun z => by cases z
    · omega
  · rw [hU]
    intro a e ha
    refine hT.1 a e ?_
    unfold mw_or
    rw [ha]
    rfl
theorem mr_cb (X : mw_B p l s m meth c cc maxL own G A) (cb : mw_CB own index y n) (hcode : Cond.code y bytes maxL2 ret ∈ lw_tbl) (hR : rm.frames + 1 ≤ R.frames ∧ 8 + (maxL2 + 11) + rm.locals ≤ R.locals) : CallB R s args own index y bytes maxL2 ret [Cond.code y bytes maxL2 ret] rm rm.cells rm.slots n := by
  have hW := X.2.2.2.2.1.1
  have hc : (Cond.code y bytes maxL2 ret).before args s = true := mw_use hW hcode rfl
  refine ⟨rfl, rfl, hR.1, hR.2, fun w hw a' U hU => ?_, List.mem_cons_self, hc, mw_use hW cb.1 rfl, cb.2.1, fun sig h => ?_, mw_use hW cb.2.2.2 rfl⟩
  · rcases List.mem_singleton.mp hw with rfl
    exact word_at hU (Or.inl rfl) hc
  · have h2 := cb.2.2.1
    rw [h] at h2
    exact (Option.some.inj h2).symm
theorem mr_cn (X : mw_B p l s m meth c cc maxL own G A) (cb : mw_CN own index y n) (hcode : Cond.code y bytes maxL2 ret ∈ lw_tbl) (hR : rm.frames + 1 ≤ R.frames ∧ 8 + (maxL2 + 11) + rm.locals ≤ R.locals) : ∃ host : String, va_CN R s args own index y host bytes maxL2 ret [Cond.code y bytes maxL2 ret] rm rm.cells rm.slots n := by
  have hW := X.2.2.2.2.1.1
  have hc : (Cond.code y bytes maxL2 ret).before args s = true := mw_use hW hcode rfl
  obtain ⟨host, hl⟩ := cb.2.2.2
  refine ⟨host, ⟨rfl, rfl, hR.1, hR.2, fun w hw a' U hU => ?_, List.mem_cons_self⟩, hc, mw_use hW cb.1 rfl, cb.2.1, fun sig h => ?_, mw_use hW hl rfl⟩
  · rcases List.mem_singleton.mp hw with rfl
    exact word_at hU (Or.inl rfl) hc
  · have h2 := cb.2.2.1
    rw [h] at h2
    exact (Option.some.inj h2).symm
abbrev mw_Run (p : Program) (l : Launch) (e : Env) (R : Room) (s : State) (m : MethodId) (args : Array Value) (below : List Frame) (meth : Method) (c : Code) (G : mw_G) (Mc : mw_M) (H : Heap) (locs : List Loc) (cells slots : Nat) (rm : Room) (g : JFrame) (rest : List Value) (post : Option Value → mw_M → Prop) : Prop := ∃ a : Array Value, va_Run p l e R s m args below meth c H locs cells slots rm.cells rm.slots g rest (mw_Qr G Mc H.size post a) (mw_A Mc H.size)
abbrev mw_RunX (p : Program) (l : Launch) (e : Env) (R : Room) (s : State) (m : MethodId) (args : Array Value) (below : List Frame) (meth : Method) (c : Code) (G : mw_G) (Mc : mw_M) (H : Heap) (locs : List Loc) (cells slots : Nat) (rm : Room) (g : JFrame) (rest : List Value) (post : Option Value → mw_M → Prop) (px : String → Prop) : Prop := ∃ a : Array Value, vx_Run p l e R s m args below meth c H locs cells slots rm.cells rm.slots g rest (mw_Qr G Mc H.size post a) (mw_Xr G Mc H.size px) (mw_A Mc H.size)
variable {b : Nat} {As : List Value} {C : String}
theorem mr_runV (X : mw_B p l s m meth c cc maxL own G A) (hT : mw_T G A s (mw_or Mc Mr) H locs) (cb : mw_CB own index y n) (hi : Cond.instanceMethod y ∈ lw_tbl) (hs : Cond.selects C y y ∈ lw_tbl) (hcode : Cond.code y bytes maxL2 ret ∈ lw_tbl) (hM : mw_Met l G y (.code y bytes maxL2 ret) rm (.ref b :: As) Mc post) (hrecv : ∃ cell : Cell, H[b]? = some cell ∧ cell.vm.isStatics = false ∧ s.vm.findClass C = some cell.cls) (hst : st0 = As.reverse ++ .ref b :: rest) (hn : As.length = n) (hsize : ls.size = maxL) (hR : rm.frames + 1 ≤ R.frames ∧ 8 + (maxL2 + 11) + rm.locals ≤ R.locals) (hW : (rest.map fun v => v.category).sum ≤ 8) (hdg : decode cc pc = .ok (.invokevirtual index, 3)) (hf : cells + rm.cells ≤ R.cells ∧ slots + rm.slots ≤ R.slots) :
    mw_Run p l e R s m args below meth c G Mc H locs cells slots rm (F0 m pc ls st0) rest post :=
  ⟨_, va_runV (As := As) (Ts := []) ⟨X.1, X.2.1, X.2.2.1, X.2.2.2.1, fun _ h => nomatch h⟩ (hM H.size) ⟨mr_cb X cb hcode hR, mw_use X.2.2.2.2.1.1 hi rfl, mw_use X.2.2.2.2.1.1 hs rfl⟩ ⟨mw_Pre.blind, hrecv, fun U hU hWU => mr_pre (av := .ref b :: As) X hT U hU hWU⟩ rfl hn hsize hst (lv_room hW) hdg hf⟩
theorem mr_runVN (X : mw_B p l s m meth c cc maxL own G A) (hT : mw_T G A s (mw_or Mc Mr) H locs) (cb : mw_CN own index y n) (hi : Cond.instanceMethod y ∈ lw_tbl) (hs : Cond.selects C y y ∈ lw_tbl) (hcode : Cond.code y bytes maxL2 ret ∈ lw_tbl) (hM : mw_Met l G y (.code y bytes maxL2 ret) rm (.ref b :: As) Mc post) (hrecv : ∃ cell : Cell, H[b]? = some cell ∧ cell.vm.isStatics = false ∧ s.vm.findClass C = some cell.cls) (hst : st0 = As.reverse ++ .ref b :: rest) (hn : As.length = n) (hsize : ls.size = maxL) (hR : rm.frames + 1 ≤ R.frames ∧ 8 + (maxL2 + 11) + rm.locals ≤ R.locals) (hW : (rest.map fun v => v.category).sum ≤ 8) (hdg : decode cc pc = .ok (.invokevirtual index, 3)) (hf : cells + rm.cells ≤ R.cells ∧ slots + rm.slots ≤ R.slots) :
    mw_Run p l e R s m args below meth c G Mc H locs cells slots rm (F0 m pc ls st0) rest post := by
  obtain ⟨host, hcn⟩ := mr_cn (args := args) X cb hcode hR
  exact ⟨_, va_runVN (As := As) (Ts := []) ⟨X.1, X.2.1, X.2.2.1, X.2.2.2.1, fun _ h => nomatch h⟩ (hM H.size) ⟨hcn, mw_use X.2.2.2.2.1.1 hi rfl, mw_use X.2.2.2.2.1.1 hs rfl⟩ ⟨mw_Pre.blind, hrecv, fun U hU hWU => mr_pre (av := .ref b :: As) X hT U hU hWU⟩ rfl hn hsize hst (lv_room hW) hdg hf⟩
theorem mr_runS (X : mw_B p l s m meth c cc maxL own G A) (hT : mw_T G A s (mw_or Mc Mr) H locs) (cb : mw_CB own index y n) (hi : Cond.static y ∈ lw_tbl) (hcode : Cond.code y bytes maxL2 ret ∈ lw_tbl) (hM : mw_Met l G y (.code y bytes maxL2 ret) rm As Mc post) (hst : st0 = As.reverse ++ rest) (hn : As.length = n) (hsize : ls.size = maxL) (hR : rm.frames + 1 ≤ R.frames ∧ 8 + (maxL2 + 11) + rm.locals ≤ R.locals) (hW : (rest.map fun v => v.category).sum ≤ 8) (hdg : decode cc pc = .ok (.invokestatic index, 3)) (hf : cells + rm.cells ≤ R.cells ∧ slots + rm.slots ≤ R.slots) :
    mw_Run p l e R s m args below meth c G Mc H locs cells slots rm (F0 m pc ls st0) rest post :=
  ⟨_, va_runS (As := As) (Ts := []) ⟨X.1, X.2.1, X.2.2.1, X.2.2.2.1, fun _ h => nomatch h⟩ (hM H.size) ⟨mr_cb X cb hcode hR, mw_use X.2.2.2.2.1.1 hi rfl⟩ ⟨mw_Pre.blind, fun U hU hWU => mr_pre (av := As) X hT U hU hWU⟩ rfl hn hsize hst (lv_room hW) hdg hf⟩
theorem mr_runI (X : mw_B p l s m meth c cc maxL own G A) (hT : mw_T G A s (mw_or Mc Mr) H locs) (cb : mw_CB own index y n) (hi : Cond.instanceMethod y ∈ lw_tbl) (hnm : y.name = "<init>") (hcode : Cond.code y bytes maxL2 none ∈ lw_tbl) (hM : mw_Met l G y (.code y bytes maxL2 none) rm (.ref b :: As) Mc post) (hst : st0 = As.reverse ++ .ref b :: rest) (hn : As.length = n) (hsize : ls.size = maxL) (hR : rm.frames + 1 ≤ R.frames ∧ 8 + (maxL2 + 11) + rm.locals ≤ R.locals) (hW : (rest.map fun v => v.category).sum ≤ 8) (hdg : decode cc pc = .ok (.invokespecial index, 3)) (hf : cells + rm.cells ≤ R.cells ∧ slots + rm.slots ≤ R.slots) :
    mw_Run p l e R s m args below meth c G Mc H locs cells slots rm (F0 m pc ls st0) rest post :=
  ⟨_, va_runI (As := As) (Ts := []) ⟨X.1, X.2.1, X.2.2.1, X.2.2.2.1, fun _ h => nomatch h⟩ (hM H.size) ⟨mr_cb X cb hcode hR, hnm, mw_use X.2.2.2.2.1.1 hi rfl⟩ ⟨mw_Pre.blind, fun U hU hWU => mr_pre (av := .ref b :: As) X hT U hU hWU⟩ rfl hn hsize hst (lv_room hW) hdg hf⟩
theorem mr_runIN (X : mw_B p l s m meth c cc maxL own G A) (hT : mw_T G A s (mw_or Mc Mr) H locs) (cb : mw_CN own index y n) (hi : Cond.instanceMethod y ∈ lw_tbl) (hnm : y.name = "<init>") (hcode : Cond.code y bytes maxL2 none ∈ lw_tbl) (hM : mw_Met l G y (.code y bytes maxL2 none) rm (.ref b :: As) Mc post) (hst : st0 = As.reverse ++ .ref b :: rest) (hn : As.length = n) (hsize : ls.size = maxL) (hR : rm.frames + 1 ≤ R.frames ∧ 8 + (maxL2 + 11) + rm.locals ≤ R.locals) (hW : (rest.map fun v => v.category).sum ≤ 8) (hdg : decode cc pc = .ok (.invokespecial index, 3)) (hf : cells + rm.cells ≤ R.cells ∧ slots + rm.slots ≤ R.slots) :
    mw_Run p l e R s m args below meth c G Mc H locs cells slots rm (F0 m pc ls st0) rest post := by
  obtain ⟨host, hcn⟩ := mr_cn (args := args) X cb hcode hR
  exact ⟨_, va_runIN (As := As) (Ts := []) ⟨X.1, X.2.1, X.2.2.1, X.2.2.2.1, fun _ h => nomatch h⟩ (hM H.size) ⟨hcn, hnm, mw_use X.2.2.2.2.1.1 hi rfl⟩ ⟨mw_Pre.blind, fun U hU hWU => mr_pre (av := .ref b :: As) X hT U hU hWU⟩ rfl hn hsize hst (lv_room hW) hdg hf⟩
theorem mr_runVX (X : mw_B p l s m meth c cc maxL own G A) (hT : mw_T G A s (mw_or Mc Mr) H locs) (cb : mw_CB own index y n) (hi : Cond.instanceMethod y ∈ lw_tbl) (hs : Cond.selects C y y ∈ lw_tbl) (hcode : Cond.code y bytes maxL2 ret ∈ lw_tbl) (hM : mw_MetX l G y (.code y bytes maxL2 ret) rm (.ref b :: As) Mc post px) (hrecv : ∃ cell : Cell, H[b]? = some cell ∧ cell.vm.isStatics = false ∧ s.vm.findClass C = some cell.cls) (hst : st0 = As.reverse ++ .ref b :: rest) (hn : As.length = n) (hsize : ls.size = maxL) (hR : rm.frames + 1 ≤ R.frames ∧ 8 + (maxL2 + 11) + rm.locals ≤ R.locals) (hW : (rest.map fun v => v.category).sum ≤ 8) (hdg : decode cc pc = .ok (.invokevirtual index, 3)) (hf : cells + rm.cells ≤ R.cells ∧ slots + rm.slots ≤ R.slots) :
    mw_RunX p l e R s m args below meth c G Mc H locs cells slots rm (F0 m pc ls st0) rest post px :=
  ⟨_, vx_runV (As := As) (Ts := []) ⟨X.1, X.2.1, X.2.2.1, X.2.2.2.1, fun _ h => nomatch h⟩ (hM H.size) ⟨mr_cb X cb hcode hR, mw_use X.2.2.2.2.1.1 hi rfl, mw_use X.2.2.2.2.1.1 hs rfl⟩ ⟨mw_Pre.blind, hrecv, fun U hU hWU => mr_pre (av := .ref b :: As) X hT U hU hWU⟩ rfl hn hsize hst (lv_room hW) hdg hf⟩
theorem mr_runSX (X : mw_B p l s m meth c cc maxL own G A) (hT : mw_T G A s (mw_or Mc Mr) H locs) (cb : mw_CB own index y n) (hi : Cond.static y ∈ lw_tbl) (hcode : Cond.code y bytes maxL2 ret ∈ lw_tbl) (hM : mw_MetX l G y (.code y bytes maxL2 ret) rm As Mc post px) (hst : st0 = As.reverse ++ rest) (hn : As.length = n) (hsize : ls.size = maxL) (hR : rm.frames + 1 ≤ R.frames ∧ 8 + (maxL2 + 11) + rm.locals ≤ R.locals) (hW : (rest.map fun v => v.category).sum ≤ 8) (hdg : decode cc pc = .ok (.invokestatic index, 3)) (hf : cells + rm.cells ≤ R.cells ∧ slots + rm.slots ≤ R.slots) :
    mw_RunX p l e R s m args below meth c G Mc H locs cells slots rm (F0 m pc ls st0) rest post px :=
  ⟨_, vx_runS (As := As) (Ts := []) ⟨X.1, X.2.1, X.2.2.1, X.2.2.2.1, fun _ h => nomatch h⟩ (hM H.size) ⟨mr_cb X cb hcode hR, mw_use X.2.2.2.2.1.1 hi rfl⟩ ⟨mw_Pre.blind, fun U hU hWU => mr_pre (av := As) X hT U hU hWU⟩ rfl hn hsize hst (lv_room hW) hdg hf⟩
theorem mr_runSH {hh : List (Nat × Nat × Nat × Nat)} (X : mw_B p l s m meth c cc maxL own G A) (hT : mw_T G A s (mw_or Mc Mr) H locs) (cb : mw_CB own index y n) (hi : Cond.static y ∈ lw_tbl) (hcode : Cond.codeWith y bytes maxL2 ret hh ∈ lw_tbl) (hM : mw_MetX l G y (.codeWith y bytes maxL2 ret hh) rm As Mc post px) (hst : st0 = As.reverse ++ rest) (hn : As.length = n) (hsize : ls.size = maxL) (hR : rm.frames + 1 ≤ R.frames ∧ 8 + (maxL2 + 11) + rm.locals ≤ R.locals) (hW : (rest.map fun v => v.category).sum ≤ 8) (hdg : decode cc pc = .ok (.invokestatic index, 3)) (hf : cells + rm.cells ≤ R.cells ∧ slots + rm.slots ≤ R.slots) :
    mw_RunX p l e R s m args below meth c G Mc H locs cells slots rm (F0 m pc ls st0) rest post px := by
  have hW2 := X.2.2.2.2.1.1
  have hc : (Cond.codeWith y bytes maxL2 ret hh).before args s = true := mw_use hW2 hcode rfl
  refine ⟨_, vx_runSX (As := As) (Ts := []) (hh := hh) ⟨X.1, X.2.1, X.2.2.1, X.2.2.2.1, fun _ h => nomatch h⟩ (hM H.size) ⟨⟨rfl, rfl, hR.1, hR.2, fun w hw a' U hU => ?_, List.mem_cons_self⟩, hc, mw_use hW2 cb.1 rfl, cb.2.1, fun sig h => ?_, mw_use hW2 cb.2.2.2 rfl, mw_use hW2 hi rfl⟩ ⟨mw_Pre.blind, fun U hU hWU => mr_pre (av := As) X hT U hU hWU⟩ rfl hn hsize hst (lv_room hW) hdg hf⟩
  · rcases List.mem_singleton.mp hw with rfl
    exact word_at hU (Or.inl rfl) hc
  · have h2 := cb.2.2.1
    rw [h] at h2
    exact (Option.some.inj h2).symm
/-- behind a call: the callee's new map beside the rest -/
theorem mr_joined {st₀ t T' : State} {L : List Loc} {M1 : mw_M} (hA : ∀ q : Nat, s.heap.size ≤ q → A q) (hT : mw_T G A s (mw_or Mc Mr) H locs) (hd : mw_ds Mc Mr) (h0 : st₀.heap = H) (e1 : T'.heap = t.heap) (hL : ∀ q ∈ L, mw_A Mc H.size q.base) (hP : mw_P G M1 t.heap) (hD : ∀ a : Nat, M1 a ≠ none → mw_A Mc H.size a) (hF : va_F (mw_A Mc H.size) st₀ t) :
    mw_ds M1 Mr ∧ mw_T G A s (mw_or M1 Mr) T'.heap (locs ++ L) := by
  have hin : ∀ q : Nat, Mc q ≠ none → A q := fun q hq => by
    refine hT.2.1 q ?_
    unfold mw_or
    cases hq2 : Mc q with
    | none => exact absurd hq2 hq
    | some e => exact fun z => by cases z
  have hcA : ∀ q : Nat, mw_A Mc H.size q → A q := fun q hq => by
    rcases hq with hq | hq
    · exact hin q hq
    · exact hA q (Nat.le_trans hT.2.2.1 hq)
  obtain ⟨k1, k2, k3⟩ := vx_keep h0 e1 hT.2.2 (fun q _ h => hcA q h) (fun q h => hcA q h) hL hF
  have hr : ∀ (a : Nat) (e : va_E), Mr a = some e → Mc a = none ∧ mw_or Mc Mr a = some e ∧ a < H.size := fun a e ha => by
    have hn : Mc a = none := by
      cases hq2 : Mc a with
      | none => rfl
      | some e2 => have := hd a (by rw [hq2]; exact fun z => by cases z); rw [ha] at this; cases this
    have ho : mw_or Mc Mr a = some e := by unfold mw_or; rw [hn, ha]; rfl
    exact ⟨hn, ho, hT.1.lt ho⟩
  have hno : ∀ (a : Nat) (e : va_E), Mr a = some e → ¬ mw_A Mc H.size a := fun a e ha hz => by
    obtain ⟨h1, -, h3⟩ := hr a e ha
    rcases hz with hz | hz
    · exact hz h1
    · omega
  have hds : mw_ds M1 Mr := fun a ha => by
    cases hq2 : Mr a with
    | none => rfl
    | some e2 => exact absurd (hD a ha) (hno a e2 hq2)
  refine ⟨hds, fun a e ha => ?_, fun a ha => ?_, k3⟩
  · unfold mw_or at ha
    cases h1 : M1 a with
    | some e1' =>
      rw [h1] at ha
      cases ha
      rw [e1]
      exact hP a _ h1
    | none =>
      rw [h1] at ha
      have ha : Mr a = some e := ha
      obtain ⟨g1, g2, g3⟩ := hr a e ha
      exact (hT.1 a e g2).kept (k2 a g3 (hno a e ha))
  · unfold mw_or at ha
    cases h1 : M1 a with
    | some e1' => exact hcA a (hD a (by rw [h1]; exact fun z => by cases z))
    | none =>
      rw [h1] at ha
      have ha : Mr a ≠ none := ha
      cases h2 : Mr a with
      | none => exact absurd h2 ha
      | some e2 => exact hT.2.1 a (by rw [(hr a e2 h2).2.1]; exact fun z => by cases z)
theorem mr_go (X : mw_B p l s m meth c cc maxL own G A) (hT : mw_T G A s (mw_or Mc Mr) H locs) (hd : mw_ds Mc Mr) (hr : mw_Run p l e R s m args below meth c G Mc H locs cells slots rm (F0 m pc ls st0) rest post)
    (kk : ∀ (v : Option Value) (M1 : mw_M) (H1 : Heap) (locs1 : List Loc), post v M1 → mw_ds M1 Mr → mw_T G A s (mw_or M1 Mr) H1 locs1 → W p l e R s m args below meth c H1 locs1 (cells + rm.cells) (slots + rm.slots) Q (F0 m (pc + 3) ls (v.toList ++ rest))) : W p l e R s m args below meth c H locs cells slots Q (F0 m pc ls st0) := by
  obtain ⟨a, hr⟩ := hr
  intro T hT0 X0
  obtain ⟨v, st₀, t, T', L, h0, X', hL, e1, e2, ⟨v', M1, hv, hp, hP, hD, hF⟩, st⟩ := hr T hT0 X0
  cases hv
  obtain ⟨j1, j2⟩ := mr_joined X.2.2.2.2.2.2.1 hT hd h0 e1 hL hP hD hF
  obtain ⟨t2, a1, b1⟩ := kk v M1 T'.heap (locs ++ L) hp j1 j2 T' rfl X'
  exact ⟨t2, st t2 a1, b1⟩
theorem mr_goX (X : mw_B p l s m meth c cc maxL own G A) (hT : mw_T G A s (mw_or Mc Mr) H locs) (hd : mw_ds Mc Mr) (hr : mw_RunX p l e R s m args below meth c G Mc H locs cells slots rm (F0 m pc ls st0) rest post px)
    (kx : ∀ (E : String) (ce : Cell) (q9 : Addr) (H1 : Heap) (locs1 : List Loc), px E → mw_T G A s (mw_or Mc Mr) H1 locs1 → H1[q9]? = some ce → ce.vm = .none → s.vm.findClass E = some ce.cls → vx_W p l e R s m args below meth c H1 locs1 (cells + rm.cells) (slots + rm.slots) Q (F0 m pc ls rest) q9)
    (kk : ∀ (v : Option Value) (M1 : mw_M) (H1 : Heap) (locs1 : List Loc), post v M1 → mw_ds M1 Mr → mw_T G A s (mw_or M1 Mr) H1 locs1 → W p l e R s m args below meth c H1 locs1 (cells + rm.cells) (slots + rm.slots) Q (F0 m (pc + 3) ls (v.toList ++ rest))) : W p l e R s m args below meth c H locs cells slots Q (F0 m pc ls st0) := by
  obtain ⟨a, hr⟩ := hr
  intro T hT0 X0
  rcases hr T hT0 X0 with ⟨v, st₀, t, T', L, h0, X', hL, e1, e2, ⟨v', M1, hv, hp, hP, hD, hF⟩, st⟩ | ⟨q, st₀, t, T', L, E, ce, h0, X', hL, e1, e2, ⟨hp, hP, hF⟩, hce, hcv, hcl, st⟩
  · cases hv
    obtain ⟨j1, j2⟩ := mr_joined X.2.2.2.2.2.2.1 hT hd h0 e1 hL hP hD hF
    obtain ⟨t2, a1, b1⟩ := kk v M1 T'.heap (locs ++ L) hp j1 j2 T' rfl X'
    exact ⟨t2, st t2 a1, b1⟩
  · obtain ⟨j1, j2⟩ := mr_joined X.2.2.2.2.2.2.1 hT hd h0 e1 hL hP (fun a h => Or.inl h) hF
    obtain ⟨t2, a1, b1⟩ := kx E ce q T'.heap (locs ++ L) hp j2 (by rw [e1]; exact hce) hcv hcl T' rfl X'
    exact ⟨t2, st.trans a1, b1⟩
/-- the same, the callee with the whole map -/
theorem mr_g (X : mw_B p l s m meth c cc maxL own G A) (hT : mw_T G A s M H locs) (hr : mw_T G A s (mw_or M mw_nil) H locs → mw_Run p l e R s m args below meth c G M H locs cells slots rm (F0 m pc ls st0) rest post)
    (kk : ∀ (v : Option Value) (M1 : mw_M) (H1 : Heap) (locs1 : List Loc), post v M1 → mw_T G A s M1 H1 locs1 → W p l e R s m args below meth c H1 locs1 (cells + rm.cells) (slots + rm.slots) Q (F0 m (pc + 3) ls (v.toList ++ rest))) : W p l e R s m args below meth c H locs cells slots Q (F0 m pc ls st0) := by
  have hT' : mw_T G A s (mw_or M mw_nil) H locs := by rw [mw_or_nil]; exact hT
  refine mr_go X hT' (mw_ds_nil M) (hr hT') (fun v M1 H1 locs1 hp _ hT1 => ?_)
  rw [mw_or_nil] at hT1
  exact kk v M1 H1 locs1 hp hT1
theorem mr_gX (X : mw_B p l s m meth c cc maxL own G A) (hT : mw_T G A s M H locs) (hr : mw_T G A s (mw_or M mw_nil) H locs → mw_RunX p l e R s m args below meth c G M H locs cells slots rm (F0 m pc ls st0) rest post px)
    (kx : ∀ (E : String) (ce : Cell) (q9 : Addr) (H1 : Heap) (locs1 : List Loc), px E → mw_T G A s M H1 locs1 → H1[q9]? = some ce → ce.vm = .none → s.vm.findClass E = some ce.cls → vx_W p l e R s m args below meth c H1 locs1 (cells + rm.cells) (slots + rm.slots) Q (F0 m pc ls rest) q9)
    (kk : ∀ (v : Option Value) (M1 : mw_M) (H1 : Heap) (locs1 : List Loc), post v M1 → mw_T G A s M1 H1 locs1 → W p l e R s m args below meth c H1 locs1 (cells + rm.cells) (slots + rm.slots) Q (F0 m (pc + 3) ls (v.toList ++ rest))) : W p l e R s m args below meth c H locs cells slots Q (F0 m pc ls st0) := by
  have hT' : mw_T G A s (mw_or M mw_nil) H locs := by rw [mw_or_nil]; exact hT
  refine mr_goX X hT' (mw_ds_nil M) (hr hT') (fun E ce q9 H1 locs1 hp hT1 h1 h2 h3 => ?_) (fun v M1 H1 locs1 hp _ hT1 => ?_)
  · rw [mw_or_nil] at hT1
    exact kx E ce q9 H1 locs1 hp hT1 h1 h2 h3
  · rw [mw_or_nil] at hT1
    exact kk v M1 H1 locs1 hp hT1
/-! ends -/
theorem mr_post (hT : mw_T G (mw_A M s.heap.size) s Mc H locs) {v : Option Value} (hp : post v Mc) (t : State) (ht : t.heap = H) : mw_Qr G M s.heap.size post args s (.returned v) t :=
  ⟨v, Mc, rfl, hp, by rw [ht]; exact hT.1, hT.2.1, hT.2.2.F ht⟩
theorem mr_iret (X : mw_B p l s m meth c cc maxL own G (mw_A M s.heap.size)) (hT : mw_T G (mw_A M s.heap.size) s Mc H locs) (hr : meth.sig.returnType = some .int) {v : Int32} (hp : post (some (.int v)) Mc) (hc : cells ≤ rm.cells) (hs : slots ≤ rm.slots) (hdg : decode cc pc = .ok (.ireturn, 1)) : W p l e R s m args below meth c H locs cells slots (mw_E below G M rm post args s) (F0 m pc ls [.int v]) :=
  W.widen hc hs (W.iret X.1 X.2.1 hr (fun t ht _ => mr_post hT hp t ht) hT.2.2.2.2 hdg (hlocks := X.2.2.2.2.2.2.2.1))
theorem mr_zret (X : mw_B p l s m meth c cc maxL own G (mw_A M s.heap.size)) (hT : mw_T G (mw_A M s.heap.size) s Mc H locs) (hr : meth.sig.returnType = some .boolean) {v : Int32} (hn : narrow .boolean (.int v) = .int v) (hp : post (some (.int v)) Mc) (hc : cells ≤ rm.cells) (hs : slots ≤ rm.slots) (hdg : decode cc pc = .ok (.ireturn, 1)) : W p l e R s m args below meth c H locs cells slots (mw_E below G M rm post args s) (F0 m pc ls [.int v]) :=
  W.widen hc hs (W.zret X.1 X.2.1 hr hn (fun t ht _ => mr_post hT hp t ht) hT.2.2.2.2 hdg (hlocks := X.2.2.2.2.2.2.2.1))
theorem mr_vret (X : mw_B p l s m meth c cc maxL own G (mw_A M s.heap.size)) (hT : mw_T G (mw_A M s.heap.size) s Mc H locs) (hr : meth.sig.returnType = none) (hp : post none Mc) (hc : cells ≤ rm.cells) (hs : slots ≤ rm.slots) (hdg : decode cc pc = .ok (.return_, 1)) : W p l e R s m args below meth c H locs cells slots (mw_E below G M rm post args s) (F0 m pc ls []) :=
  W.widen hc hs (W.vret X.1 X.2.1 hr (fun t ht _ => mr_post hT hp t ht) hT.2.2.2.2 hdg (hlocks := X.2.2.2.2.2.2.2.1))
theorem mr_aret (X : mw_B p l s m meth c cc maxL own G (mw_A M s.heap.size)) (hT : mw_T G (mw_A M s.heap.size) s Mc H locs) {rt : FieldType} (hr : meth.sig.returnType = some rt) (hrt : (∃ n, rt = .object n) ∨ ∃ t, rt = .array t) {q : Nat} (hp : post (some (.ref q)) Mc) (hc : cells ≤ rm.cells) (hs : slots ≤ rm.slots) (hdg : decode cc pc = .ok (.areturn, 1)) : W p l e R s m args below meth c H locs cells slots (mw_E below G M rm post args s) (F0 m pc ls [.ref q]) :=
  W.widen hc hs (W.aret X.1 X.2.1 hr hrt (Or.inr ⟨q, rfl⟩) (fun t ht _ => mr_post hT hp t ht) hT.2.2.2.2 hdg (hlocks := X.2.2.2.2.2.2.2.1))
theorem mr_iretX (X : mw_B p l s m meth c cc maxL own G (mw_A M s.heap.size)) (hT : mw_T G (mw_A M s.heap.size) s Mc H locs) (hr : meth.sig.returnType = some .int) {v : Int32} (hp : post (some (.int v)) Mc) (hc : cells ≤ rm.cells) (hs : slots ≤ rm.slots) (hdg : decode cc pc = .ok (.ireturn, 1)) : W p l e R s m args below meth c H locs cells slots (mw_EX below G M rm post px args s) (F0 m pc ls [.int v]) := vx_ret (mr_iret X hT hr hp hc hs hdg)
theorem mr_zretX (X : mw_B p l s m meth c cc maxL own G (mw_A M s.heap.size)) (hT : mw_T G (mw_A M s.heap.size) s Mc H locs) (hr : meth.sig.returnType = some .boolean) {v : Int32} (hn : narrow .boolean (.int v) = .int v) (hp : post (some (.int v)) Mc) (hc : cells ≤ rm.cells) (hs : slots ≤ rm.slots) (hdg : decode cc pc = .ok (.ireturn, 1)) : W p l e R s m args below meth c H locs cells slots (mw_EX below G M rm post px args s) (F0 m pc ls [.int v]) := vx_ret (mr_zret X hT hr hn hp hc hs hdg)
theorem mr_vretX (X : mw_B p l s m meth c cc maxL own G (mw_A M s.heap.size)) (hT : mw_T G (mw_A M s.heap.size) s Mc H locs) (hr : meth.sig.returnType = none) (hp : post none Mc) (hc : cells ≤ rm.cells) (hs : slots ≤ rm.slots) (hdg : decode cc pc = .ok (.return_, 1)) : W p l e R s m args below meth c H locs cells slots (mw_EX below G M rm post px args s) (F0 m pc ls []) := vx_ret (mr_vret X hT hr hp hc hs hdg)
theorem mr_aretX (X : mw_B p l s m meth c cc maxL own G (mw_A M s.heap.size)) (hT : mw_T G (mw_A M s.heap.size) s Mc H locs) {rt : FieldType} (hr : meth.sig.returnType = some rt) (hrt : (∃ n, rt = .object n) ∨ ∃ t, rt = .array t) {q : Nat} (hp : post (some (.ref q)) Mc) (hc : cells ≤ rm.cells) (hs : slots ≤ rm.slots) (hdg : decode cc pc = .ok (.areturn, 1)) : W p l e R s m args below meth c H locs cells slots (mw_EX below G M rm post px args s) (F0 m pc ls [.ref q]) := vx_ret (mr_aret X hT hr hrt hp hc hs hdg)
/-- what a callee has thrown goes on -/
theorem mr_out (X : mw_B p l s m meth c cc maxL own G (mw_A M s.heap.size)) (hexc : ∀ x ∈ c.exceptionTable.toList, False) (hT : mw_T G (mw_A M s.heap.size) s M H locs) {E : String} {ce : Cell} {q : Addr} (hcell : H[q]? = some ce) (hv : ce.vm = .none) (hcl : s.vm.findClass E = some ce.cls) (hp : px E) (hc : cells ≤ rm.cells) (hs : slots ≤ rm.slots) : vx_W p l e R s m args below meth c H locs cells slots (mw_EX below G M rm post px args s) (F0 m pc ls rest) q :=
  vx_out (fun x hx => (hexc x hx).elim) X.2.2.2.2.2.2.2.1 hcell hv hcl (fun t ht _ => ⟨hp, by rw [ht]; exact hT.1, hT.2.2.F ht⟩) hT.2.2.2.2 hc hs
/-- throw new E("text") -/
def mw_TX (own : String) (ik ic : Nat) (cls : String) (names : List String) : Prop := Bundle.fit cls = true ∧ (∀ n ∈ names, Bundle.fit n = true) ∧ Cond.classLink own ik cls ∈ lw_tbl ∧ Cond.initialized cls ∈ lw_tbl ∧ (∀ w ∈ vx_atS own ic cls names, w ∈ lw_tbl ∧ mw_ok w = true ∧ vx_ot w = true)
theorem mr_throw (X : mw_B p l s m meth c cc maxL own G (mw_A M s.heap.size)) (hexc : ∀ x ∈ c.exceptionTable.toList, False) (hT : mw_T G (mw_A M s.heap.size) s M H locs) {cls text : String} {names : List String} {ik is ic : Nat} (htx : mw_TX own ik ic cls names) (hstr : (own, is, text) ∈ mw_S) (hsize : ls.size = maxL) (hp : px cls)
    (d0 : decode cc pc = .ok (.new ik, 3)) (d3 : decode cc (pc + 3) = .ok (.dup, 1)) (d4 : decode cc (pc + 4) = .ok (.ldc is, 2)) (d6 : decode cc (pc + 6) = .ok (.invokespecial ic, 3)) (d9 : decode cc (pc + 9) = .ok (.athrow, 1))
    (hRf : names.length + 3 < R.frames) (hRl : (rest.map fun v => v.category).sum + (13 * (names.length + 1) + 43) ≤ R.locals) (hRc : cells + 1 ≤ R.cells) (hRs : slots + 6 ≤ R.slots) (hc : cells + 1 ≤ rm.cells) (hs : slots + 6 ≤ rm.slots) :
    W p l e R s m args below meth c H locs cells slots (mw_EX below G M rm post px args s) (F0 m pc ls rest) := by
  have hW := X.2.2.2.2.1.1
  obtain ⟨sa, hsa⟩ := X.2.2.2.2.1.2.2.2.1 _ hstr
  obtain ⟨g1, g2, g3, g4, g5⟩ := htx
  refine vx_throwS (names := names) X.1 X.2.1 X.2.2.2.2.2.2.2.2 X.2.2.2.1 g1 g2 (mw_use hW g3 rfl) (mw_use hW g4 rfl) hsa (fun w hw => mw_use hW (g5 w hw).1 (g5 w hw).2.1) (fun w hw => ?_) X.2.2.2.2.2.1.2.2.1 X.2.2.2.2.2.1.2.2.2 hT.2.2 (hsize.trans X.2.2.1.symm) d0 d3 d4 d6 d9 (fun x hx => (hexc x hx).elim) hRf hRl hRc hRs X.2.2.2.2.2.2.2.1 (fun t _ h1 h2 => ⟨hp, hT.1.kept (fun a ha => ?_), ?_⟩) hT.2.2.2.2 hc hs
  · rcases List.mem_cons.mp hw with rfl | hw
    · rfl
    · rcases List.mem_cons.mp hw with rfl | hw
      · rfl
      · exact (g5 w hw).2.2
  · cases hM : M a with
    | none => exact absurd hM ha
    | some e0 => exact h2 a (hT.1.lt hM)
  · exact ⟨Nat.le_trans hT.2.2.1 h1, fun q hq hn => (h2 q (Nat.lt_of_lt_of_le hq hT.2.2.1)).trans (hT.2.2.2.1 q hq hn)⟩
theorem mr_throwW (X : mw_B p l s m meth c cc maxL own G (mw_A M s.heap.size)) (hexc : ∀ x ∈ c.exceptionTable.toList, False) (hT : mw_T G (mw_A M s.heap.size) s M H locs) {cls text : String} {names : List String} {ik is ic : Nat} (htx : mw_TX own ik ic cls names) (hstr : (own, is, text) ∈ mw_S) (hsize : ls.size = maxL) (hp : px cls)
    (d0 : decode cc pc = .ok (.new ik, 3)) (d3 : decode cc (pc + 3) = .ok (.dup, 1)) (d4 : decode cc (pc + 4) = .ok (.ldc_w is, 3)) (d7 : decode cc (pc + 7) = .ok (.invokespecial ic, 3)) (d10 : decode cc (pc + 10) = .ok (.athrow, 1))
    (hRf : names.length + 3 < R.frames) (hRl : (rest.map fun v => v.category).sum + (13 * (names.length + 1) + 43) ≤ R.locals) (hRc : cells + 1 ≤ R.cells) (hRs : slots + 6 ≤ R.slots) (hc : cells + 1 ≤ rm.cells) (hs : slots + 6 ≤ rm.slots) :
    W p l e R s m args below meth c H locs cells slots (mw_EX below G M rm post px args s) (F0 m pc ls rest) := by
  have hW := X.2.2.2.2.1.1
  obtain ⟨sa, hsa⟩ := X.2.2.2.2.1.2.2.2.1 _ hstr
  obtain ⟨g1, g2, g3, g4, g5⟩ := htx
  refine vx_throwSW (names := names) X.1 X.2.1 X.2.2.2.2.2.2.2.2 X.2.2.2.1 g1 g2 (mw_use hW g3 rfl) (mw_use hW g4 rfl) hsa (fun w hw => mw_use hW (g5 w hw).1 (g5 w hw).2.1) (fun w hw => ?_) X.2.2.2.2.2.1.2.2.1 X.2.2.2.2.2.1.2.2.2 hT.2.2 (hsize.trans X.2.2.1.symm) d0 d3 d4 d7 d10 (fun x hx => (hexc x hx).elim) hRf hRl hRc hRs X.2.2.2.2.2.2.2.1 (fun t _ h1 h2 => ⟨hp, hT.1.kept (fun a ha => ?_), ?_⟩) hT.2.2.2.2 hc hs
  · rcases List.mem_cons.mp hw with rfl | hw
    · rfl
    · rcases List.mem_cons.mp hw with rfl | hw
      · rfl
      · exact (g5 w hw).2.2
  · cases hM : M a with
    | none => exact absurd hM ha
    | some e0 => exact h2 a (hT.1.lt hM)
  · exact ⟨Nat.le_trans hT.2.2.1 h1, fun q hq hn => (h2 q (Nat.lt_of_lt_of_le hq hT.2.2.1)).trans (hT.2.2.2.1 q hq hn)⟩
end MC
end
section
/-! the words of the tables, each by its place; what a call or a field needs of them -/
theorem mw_by {big ws : List Cond} (ps : List Nat) (hp : ws = ps.filterMap (fun i => big[i]?)) : ∀ w ∈ ws, w ∈ big := by
  intro w hw
  rw [hp] at hw
  obtain ⟨i, -, hi⟩ := List.mem_filterMap.mp hw
  exact List.mem_of_getElem? hi
theorem uin_0 : ∀ w ∈ u_ws RJx4a65c TJx4a65c 3, w ∈ lw_tbl := mw_by [101, 97, 99] (by decide +kernel)
theorem uin_1 : ∀ w ∈ u_ws RX0 TX0 6, w ∈ lw_tbl := mw_by [518, 520, 522, 524, 526, 528] (by decide +kernel)
theorem uin_2 : ∀ w ∈ u_ws RX1 TX1 4, w ∈ lw_tbl := mw_by [608, 610, 612, 614] (by decide +kernel)
theorem uin_3 : ∀ w ∈ u_ws RX2 TX2 2, w ∈ lw_tbl := mw_by [365, 367] (by decide +kernel)
theorem uin_4 : ∀ w ∈ u_ws RX3 TX3 3, w ∈ lw_tbl := mw_by [275, 277, 279] (by decide +kernel)
theorem uin_5 : ∀ w ∈ u_ws RX4 TX4 4, w ∈ lw_tbl := mw_by [566, 568, 570, 572] (by decide +kernel)
theorem uin_6 : ∀ w ∈ u_ws RX5 TX5 6, w ∈ lw_tbl := mw_by [671, 673, 675, 677, 679, 681] (by decide +kernel)
theorem uin_7 : ∀ w ∈ u_ws RX6 TX6 4, w ∈ lw_tbl := mw_by [117, 119, 121, 123] (by decide +kernel)
theorem uin_8 : ∀ w ∈ u_ws RX7 TX7 9, w ∈ lw_tbl := mw_by [136, 138, 140, 142, 144, 146, 148, 150, 152] (by decide +kernel)
theorem uin_9 : ∀ w ∈ u_ws RX8 TX8 34, w ∈ lw_tbl := mw_by [796, 798, 800, 802, 804, 806, 808, 810, 812, 814, 816, 818, 820, 822, 824, 826, 828, 830, 832, 834, 836, 838, 840, 842, 844, 846, 848, 850, 852, 854, 856, 858, 860, 862] (by decide +kernel)
theorem cb_RL_83 : mw_CB RL 83 yX7_init 0 := ⟨kw1, ⟨by decide, by decide⟩, by decide +kernel, kw27⟩
theorem cb_RX7_11 : mw_CB RX7 11 yJx4a65c_init_da8c8 0 := ⟨kw4, ⟨by decide, by decide⟩, by decide +kernel, kw35⟩
theorem cb_RJx4a65c_1 : mw_CB RJx4a65c 1 yJxc12de_init_da8c8 0 := ⟨kw3, ⟨by decide, by decide⟩, by decide +kernel, kw38⟩
theorem cb_RJxc12de_1 : mw_CB RJxc12de 1 yJxa1e45_init_da8c8 0 := ⟨kw2, ⟨by decide, by decide⟩, by decide +kernel, kw41⟩
theorem cn_RX7_33 : mw_CN RX7 33 yX6_init 0 := ⟨kw5, ⟨by decide, by decide⟩, by decide +kernel, _, kw61⟩
theorem cb_RL_149 : mw_CB RL 149 yX7_openSessions 0 := ⟨kw1, ⟨by decide, by decide⟩, by decide +kernel, kw110⟩
theorem cb_RL_156 : mw_CB RL 156 yX7_clock 0 := ⟨kw1, ⟨by decide, by decide⟩, by decide +kernel, kw114⟩
theorem cb_RL_160 : mw_CB RL 160 yX7_steps 0 := ⟨kw1, ⟨by decide, by decide⟩, by decide +kernel, kw118⟩
theorem cb_RL_87 : mw_CB RL 87 yL_addPerson 3 := ⟨kw0, ⟨by decide, by decide⟩, by decide +kernel, kw122⟩
theorem cb_RL_7 : mw_CB RL 7 yX7_addPerson 1 := ⟨kw1, ⟨by decide, by decide⟩, by decide +kernel, kw127⟩
theorem cb_RX7_52 : mw_CB RX7 52 yJx4a65c_size_8abf5 0 := ⟨kw4, ⟨by decide, by decide⟩, by decide +kernel, kw199⟩
theorem cn_RX7_63 : mw_CN RX7 63 yX3_init 2 := ⟨kw12, ⟨by decide, by decide⟩, by decide +kernel, _, kw221⟩
theorem cb_RX7_66 : mw_CB RX7 66 yJx4a65c_add_9ea2d 1 := ⟨kw4, ⟨by decide, by decide⟩, by decide +kernel, kw237⟩
theorem cb_RJx4a65c_131 : mw_CB RJx4a65c 131 yJx4a65c_add_72be8 3 := ⟨kw4, ⟨by decide, by decide⟩, by decide +kernel, kw241⟩
theorem cb_RJx4a65c_129 : mw_CB RJx4a65c 129 yJx4a65c_grow_d5877 0 := ⟨kw4, ⟨by decide, by decide⟩, by decide +kernel, kw245⟩
theorem cb_RJx4a65c_69 : mw_CB RJx4a65c 69 yJx4a65c_grow_92f84 1 := ⟨kw4, ⟨by decide, by decide⟩, by decide +kernel, kw249⟩
theorem cb_RJx4a65c_73 : mw_CB RJx4a65c 73 yJ8_newLength_cabcc 3 := ⟨kw13, ⟨by decide, by decide⟩, by decide +kernel, kw253⟩
theorem cb_RJ8_194 : mw_CB RJ8 194 yJ9_max_7cf53 2 := ⟨kw14, ⟨by decide, by decide⟩, by decide +kernel, kw256⟩
theorem cb_RJ8_201 : mw_CB RJ8 201 yJ8_hugeLength_7cf53 2 := ⟨kw13, ⟨by decide, by decide⟩, by decide +kernel, kw260⟩
theorem cb_RJx4a65c_66 : mw_CB RJx4a65c 66 yJ7_copyOf_1904c 2 := ⟨kw15, ⟨by decide, by decide⟩, by decide +kernel, kw263⟩
theorem cb_RJ7_300 : mw_CB RJ7 300 yJ7_copyOf_6403c 3 := ⟨kw15, ⟨by decide, by decide⟩, by decide +kernel, kw283⟩
theorem cb_RJ7_304 : mw_CB RJ7 304 yJ9_min_7cf53 2 := ⟨kw14, ⟨by decide, by decide⟩, by decide +kernel, kw289⟩
theorem cb_RJx4a65c_79 : mw_CB RJx4a65c 79 yJ9_max_7cf53 2 := ⟨kw14, ⟨by decide, by decide⟩, by decide +kernel, kw295⟩
theorem cb_RL_97 : mw_CB RL 97 yL_addMachine 3 := ⟨kw0, ⟨by decide, by decide⟩, by decide +kernel, kw297⟩
theorem cb_RL_17 : mw_CB RL 17 yX7_addMachine 1 := ⟨kw1, ⟨by decide, by decide⟩, by decide +kernel, kw300⟩
theorem cb_RX7_70 : mw_CB RX7 70 yX7_requireLabel 1 := ⟨kw1, ⟨by decide, by decide⟩, by decide +kernel, kw304⟩
theorem cn_RX7_78 : mw_CN RX7 78 yX2_init 2 := ⟨kw17, ⟨by decide, by decide⟩, by decide +kernel, _, kw311⟩
theorem cb_RL_100 : mw_CB RL 100 yL_setLabel 5 := ⟨kw0, ⟨by decide, by decide⟩, by decide +kernel, kw325⟩
theorem cb_RL_20 : mw_CB RL 20 yX7_setLabel 3 := ⟨kw1, ⟨by decide, by decide⟩, by decide +kernel, kw329⟩
theorem cb_RX7_79 : mw_CB RX7 79 yX7_personAt 1 := ⟨kw1, ⟨by decide, by decide⟩, by decide +kernel, kw333⟩
theorem cb_RX7_87 : mw_CB RX7 87 yJx4a65c_get_915e3 1 := ⟨kw4, ⟨by decide, by decide⟩, by decide +kernel, kw353⟩
theorem cb_RJx4a65c_118 : mw_CB RJx4a65c 118 yJ15_checkIndex_7cf53 2 := ⟨kw19, ⟨by decide, by decide⟩, by decide +kernel, kw357⟩
theorem cb_RJ15_105 : mw_CB RJ15 105 yJ3_checkIndex_8e157 3 := ⟨kw20, ⟨by decide, by decide⟩, by decide +kernel, kw360⟩
theorem cb_RJx4a65c_123 : mw_CB RJx4a65c 123 yJx4a65c_elementData_915e3 1 := ⟨kw4, ⟨by decide, by decide⟩, by decide +kernel, kw363⟩
theorem cn_RX7_83 : mw_CN RX7 83 yX3_keepLabel 2 := ⟨kw12, ⟨by decide, by decide⟩, by decide +kernel, _, kw367⟩
theorem cb_RX7_94 : mw_CB RX7 94 yX7_endRights 2 := ⟨kw1, ⟨by decide, by decide⟩, by decide +kernel, kw371⟩
theorem cn_RX7_293 : mw_CN RX7 293 yX4_holdsAt 1 := ⟨kw22, ⟨by decide, by decide⟩, by decide +kernel, _, kw376⟩
theorem cb_RX7_98 : mw_CB RX7 98 yX7_denyWaitingAsks 2 := ⟨kw1, ⟨by decide, by decide⟩, by decide +kernel, kw381⟩
theorem cn_RX7_154 : mw_CN RX7 154 yX0_stateAt 1 := ⟨kw21, ⟨by decide, by decide⟩, by decide +kernel, _, kw386⟩
theorem cb_RX7_101 : mw_CB RX7 101 yX7_closeEndedSessions 0 := ⟨kw1, ⟨by decide, by decide⟩, by decide +kernel, kw391⟩
theorem cn_RX7_299 : mw_CN RX7 299 yX5_restsAt 1 := ⟨kw24, ⟨by decide, by decide⟩, by decide +kernel, _, kw396⟩
theorem cb_RX7_190 : mw_CB RX7 190 yX7_rightHolds 3 := ⟨kw1, ⟨by decide, by decide⟩, by decide +kernel, kw401⟩
theorem cb_RX7_234 : mw_CB RX7 234 yX7_endSession 1 := ⟨kw1, ⟨by decide, by decide⟩, by decide +kernel, kw405⟩
theorem cn_RX7_121 : mw_CN RX7 121 yX6_add 4 := ⟨kw5, ⟨by decide, by decide⟩, by decide +kernel, _, kw409⟩
theorem cb_RL_104 : mw_CB RL 104 yL_takeAway 4 := ⟨kw0, ⟨by decide, by decide⟩, by decide +kernel, kw414⟩
theorem cb_RL_26 : mw_CB RL 26 yX7_takeAway 2 := ⟨kw1, ⟨by decide, by decide⟩, by decide +kernel, kw417⟩
theorem cb_RX7_104 : mw_CB RX7 104 yX7_machineAt 1 := ⟨kw1, ⟨by decide, by decide⟩, by decide +kernel, kw421⟩
theorem cb_RL_108 : mw_CB RL 108 yL_ask 5 := ⟨kw0, ⟨by decide, by decide⟩, by decide +kernel, kw426⟩
theorem cb_RL_30 : mw_CB RL 30 yX7_ask 3 := ⟨kw1, ⟨by decide, by decide⟩, by decide +kernel, kw429⟩
theorem cb_RX7_110 : mw_CB RX7 110 yX7_requireMayAskOrEnter 2 := ⟨kw1, ⟨by decide, by decide⟩, by decide +kernel, kw434⟩
theorem cn_RX7_276 : mw_CN RX7 276 yX3_hasLabel 1 := ⟨kw12, ⟨by decide, by decide⟩, by decide +kernel, _, kw438⟩
theorem cb_RX7_183 : mw_CB RX7 183 yX7_countOverdue 1 := ⟨kw1, ⟨by decide, by decide⟩, by decide +kernel, kw443⟩
theorem cn_RX7_288 : mw_CN RX7 288 yX1_isOverdueAt 1 := ⟨kw23, ⟨by decide, by decide⟩, by decide +kernel, _, kw448⟩
theorem cb_RX7_113 : mw_CB RX7 113 yX7_requireRoomFor 1 := ⟨kw1, ⟨by decide, by decide⟩, by decide +kernel, kw454⟩
theorem cn_RX7_118 : mw_CN RX7 118 yX0_init 4 := ⟨kw21, ⟨by decide, by decide⟩, by decide +kernel, _, kw458⟩
theorem cb_RL_112 : mw_CB RL 112 yL_approve 4 := ⟨kw0, ⟨by decide, by decide⟩, by decide +kernel, kw486⟩
theorem cb_RL_34 : mw_CB RL 34 yX7_approve 2 := ⟨kw1, ⟨by decide, by decide⟩, by decide +kernel, kw489⟩
theorem cb_RX7_124 : mw_CB RX7 124 yX7_askAt 1 := ⟨kw1, ⟨by decide, by decide⟩, by decide +kernel, kw493⟩
theorem cb_RX7_128 : mw_CB RX7 128 yX7_requireMayJudge 2 := ⟨kw1, ⟨by decide, by decide⟩, by decide +kernel, kw498⟩
theorem cn_RX7_228 : mw_CN RX7 228 yX3_mayJudge 2 := ⟨kw12, ⟨by decide, by decide⟩, by decide +kernel, _, kw503⟩
theorem cb_RX3_24 : mw_CB RX3 24 yX3_hasLabel 1 := ⟨kw12, ⟨by decide, by decide⟩, by decide +kernel, kw507⟩
theorem cn_RX7_153 : mw_CN RX7 153 yX4_init 4 := ⟨kw22, ⟨by decide, by decide⟩, by decide +kernel, _, kw510⟩
theorem cb_RL_115 : mw_CB RL 115 yL_deny 3 := ⟨kw0, ⟨by decide, by decide⟩, by decide +kernel, kw530⟩
theorem cb_RL_38 : mw_CB RL 38 yX7_deny 2 := ⟨kw1, ⟨by decide, by decide⟩, by decide +kernel, kw533⟩
theorem cb_RL_119 : mw_CB RL 119 yL_askState 3 := ⟨kw0, ⟨by decide, by decide⟩, by decide +kernel, kw537⟩
theorem cb_RL_42 : mw_CB RL 42 yX7_askState 1 := ⟨kw1, ⟨by decide, by decide⟩, by decide +kernel, kw540⟩
theorem cb_RL_122 : mw_CB RL 122 yL_enter 4 := ⟨kw0, ⟨by decide, by decide⟩, by decide +kernel, kw544⟩
theorem cb_RL_45 : mw_CB RL 45 yX7_enter 2 := ⟨kw1, ⟨by decide, by decide⟩, by decide +kernel, kw547⟩
theorem cn_RX7_160 : mw_CN RX7 160 yX1_init 3 := ⟨kw23, ⟨by decide, by decide⟩, by decide +kernel, _, kw551⟩
theorem cb_RL_125 : mw_CB RL 125 yL_lookAt 4 := ⟨kw0, ⟨by decide, by decide⟩, by decide +kernel, kw572⟩
theorem cb_RL_48 : mw_CB RL 48 yX7_lookAt 2 := ⟨kw1, ⟨by decide, by decide⟩, by decide +kernel, kw575⟩
theorem cb_RX7_163 : mw_CB RX7 163 yX7_entryAt 1 := ⟨kw1, ⟨by decide, by decide⟩, by decide +kernel, kw579⟩
theorem cb_RL_128 : mw_CB RL 128 yL_overdue 3 := ⟨kw0, ⟨by decide, by decide⟩, by decide +kernel, kw586⟩
theorem cb_RL_51 : mw_CB RL 51 yX7_overdue 1 := ⟨kw1, ⟨by decide, by decide⟩, by decide +kernel, kw589⟩
theorem cb_RL_131 : mw_CB RL 131 yL_couldEnter 5 := ⟨kw0, ⟨by decide, by decide⟩, by decide +kernel, kw593⟩
theorem cb_RL_54 : mw_CB RL 54 yX7_couldEnter 3 := ⟨kw1, ⟨by decide, by decide⟩, by decide +kernel, kw596⟩
theorem cb_RL_134 : mw_CB RL 134 yL_open 4 := ⟨kw0, ⟨by decide, by decide⟩, by decide +kernel, kw602⟩
theorem cb_RL_58 : mw_CB RL 58 yX7_open 2 := ⟨kw1, ⟨by decide, by decide⟩, by decide +kernel, kw605⟩
theorem cn_RX7_198 : mw_CN RX7 198 yX5_init 3 := ⟨kw24, ⟨by decide, by decide⟩, by decide +kernel, _, kw610⟩
theorem cb_RL_137 : mw_CB RL 137 yL_type 4 := ⟨kw0, ⟨by decide, by decide⟩, by decide +kernel, kw639⟩
theorem cb_RL_61 : mw_CB RL 61 yX7_type 2 := ⟨kw1, ⟨by decide, by decide⟩, by decide +kernel, kw642⟩
theorem cb_RX7_199 : mw_CB RX7 199 yX7_sessionAt 1 := ⟨kw1, ⟨by decide, by decide⟩, by decide +kernel, kw646⟩
theorem cb_RX7_205 : mw_CB RX7 205 yX7_requireOpen 1 := ⟨kw1, ⟨by decide, by decide⟩, by decide +kernel, kw652⟩
theorem cn_RX7_209 : mw_CN RX7 209 yX5_holdsLine 0 := ⟨kw24, ⟨by decide, by decide⟩, by decide +kernel, _, kw656⟩
theorem cb_RL_140 : mw_CB RL 140 yL_letThrough 4 := ⟨kw0, ⟨by decide, by decide⟩, by decide +kernel, kw661⟩
theorem cb_RL_64 : mw_CB RL 64 yX7_letThrough 2 := ⟨kw1, ⟨by decide, by decide⟩, by decide +kernel, kw664⟩
theorem cb_RL_143 : mw_CB RL 143 yL_close 3 := ⟨kw0, ⟨by decide, by decide⟩, by decide +kernel, kw670⟩
theorem cb_RL_67 : mw_CB RL 67 yX7_close 1 := ⟨kw1, ⟨by decide, by decide⟩, by decide +kernel, kw673⟩
theorem cb_RL_146 : mw_CB RL 146 yL_isOpen 3 := ⟨kw0, ⟨by decide, by decide⟩, by decide +kernel, kw677⟩
theorem cb_RL_70 : mw_CB RL 70 yX7_isOpen 1 := ⟨kw1, ⟨by decide, by decide⟩, by decide +kernel, kw680⟩
theorem cb_RL_153 : mw_CB RL 153 yL_pass 3 := ⟨kw0, ⟨by decide, by decide⟩, by decide +kernel, kw684⟩
theorem cb_RL_74 : mw_CB RL 74 yX7_pass 1 := ⟨kw1, ⟨by decide, by decide⟩, by decide +kernel, kw687⟩
theorem cb_RL_164 : mw_CB RL 164 yL_kind 3 := ⟨kw0, ⟨by decide, by decide⟩, by decide +kernel, kw692⟩
theorem cb_RL_77 : mw_CB RL 77 yX7_kind 1 := ⟨kw1, ⟨by decide, by decide⟩, by decide +kernel, kw695⟩
theorem cb_RX7_245 : mw_CB RX7 245 yX7_requireStep 1 := ⟨kw1, ⟨by decide, by decide⟩, by decide +kernel, kw699⟩
theorem cb_RL_167 : mw_CB RL 167 yL_seal 3 := ⟨kw0, ⟨by decide, by decide⟩, by decide +kernel, kw704⟩
theorem cb_RL_80 : mw_CB RL 80 yX7_seal 1 := ⟨kw1, ⟨by decide, by decide⟩, by decide +kernel, kw707⟩
theorem cb_RL_86 : mw_CB RL 86 yX8_init 0 := ⟨kw6, ⟨by decide, by decide⟩, by decide +kernel, kw713⟩
theorem cb_RL_93 : mw_CB RL 93 yX8_thrown 0 := ⟨kw6, ⟨by decide, by decide⟩, by decide +kernel, kw821⟩
theorem cb_RL_92 : mw_CB RL 92 yX8_addPerson 1 := ⟨kw6, ⟨by decide, by decide⟩, by decide +kernel, kw825⟩
theorem cb_RX8_93 : mw_CB RX8 93 yX8_in 3 := ⟨kw6, ⟨by decide, by decide⟩, by decide +kernel, kw829⟩
theorem cb_RX8_123 : mw_CB RX8 123 yX8_goes 3 := ⟨kw6, ⟨by decide, by decide⟩, by decide +kernel, kw832⟩
theorem cb_RL_99 : mw_CB RL 99 yX8_addMachine 1 := ⟨kw6, ⟨by decide, by decide⟩, by decide +kernel, kw836⟩
theorem cb_RL_103 : mw_CB RL 103 yX8_setLabel 3 := ⟨kw6, ⟨by decide, by decide⟩, by decide +kernel, kw840⟩
theorem cb_RX8_100 : mw_CB RX8 100 yX8_isPerson 1 := ⟨kw6, ⟨by decide, by decide⟩, by decide +kernel, kw844⟩
theorem cb_RX8_141 : mw_CB RX8 141 yX8_endsRights 2 := ⟨kw6, ⟨by decide, by decide⟩, by decide +kernel, kw848⟩
theorem cb_RX8_145 : mw_CB RX8 145 yX8_deniesAsks 2 := ⟨kw6, ⟨by decide, by decide⟩, by decide +kernel, kw852⟩
theorem cb_RX8_148 : mw_CB RX8 148 yX8_closes 1 := ⟨kw6, ⟨by decide, by decide⟩, by decide +kernel, kw856⟩
theorem cb_RX8_134 : mw_CB RX8 134 yX8_holdsAt 3 := ⟨kw6, ⟨by decide, by decide⟩, by decide +kernel, kw860⟩
theorem cb_RX8_137 : mw_CB RX8 137 yX8_shuts 1 := ⟨kw6, ⟨by decide, by decide⟩, by decide +kernel, kw864⟩
theorem cb_RX8_130 : mw_CB RX8 130 yX8_writes 3 := ⟨kw6, ⟨by decide, by decide⟩, by decide +kernel, kw868⟩
theorem cb_RL_107 : mw_CB RL 107 yX8_takeAway 2 := ⟨kw6, ⟨by decide, by decide⟩, by decide +kernel, kw873⟩
theorem cb_RX8_152 : mw_CB RX8 152 yX8_areBoth 2 := ⟨kw6, ⟨by decide, by decide⟩, by decide +kernel, kw877⟩
theorem cb_RX8_104 : mw_CB RX8 104 yX8_isMachine 1 := ⟨kw6, ⟨by decide, by decide⟩, by decide +kernel, kw881⟩
theorem cb_RL_111 : mw_CB RL 111 yX8_ask 3 := ⟨kw6, ⟨by decide, by decide⟩, by decide +kernel, kw885⟩
theorem cb_RX8_162 : mw_CB RX8 162 yX8_canAsk 2 := ⟨kw6, ⟨by decide, by decide⟩, by decide +kernel, kw889⟩
theorem cb_RX8_156 : mw_CB RX8 156 yX8_hasLabel 2 := ⟨kw6, ⟨by decide, by decide⟩, by decide +kernel, kw893⟩
theorem cb_RX8_159 : mw_CB RX8 159 yX8_overdues 1 := ⟨kw6, ⟨by decide, by decide⟩, by decide +kernel, kw897⟩
theorem cb_RL_114 : mw_CB RL 114 yX8_approve 2 := ⟨kw6, ⟨by decide, by decide⟩, by decide +kernel, kw901⟩
theorem cb_RX8_168 : mw_CB RX8 168 yX8_canJudge 2 := ⟨kw6, ⟨by decide, by decide⟩, by decide +kernel, kw905⟩
theorem cb_RX8_165 : mw_CB RX8 165 yX8_isAsk 1 := ⟨kw6, ⟨by decide, by decide⟩, by decide +kernel, kw909⟩
theorem cb_RX8_171 : mw_CB RX8 171 yX8_grants 3 := ⟨kw6, ⟨by decide, by decide⟩, by decide +kernel, kw913⟩
theorem cb_RL_118 : mw_CB RL 118 yX8_deny 2 := ⟨kw6, ⟨by decide, by decide⟩, by decide +kernel, kw917⟩
theorem cb_RL_121 : mw_CB RL 121 yX8_askState 1 := ⟨kw6, ⟨by decide, by decide⟩, by decide +kernel, kw921⟩
theorem cb_RL_124 : mw_CB RL 124 yX8_enter 2 := ⟨kw6, ⟨by decide, by decide⟩, by decide +kernel, kw925⟩
theorem cb_RL_127 : mw_CB RL 127 yX8_lookAt 2 := ⟨kw6, ⟨by decide, by decide⟩, by decide +kernel, kw929⟩
theorem cb_RX8_174 : mw_CB RX8 174 yX8_isEntry 1 := ⟨kw6, ⟨by decide, by decide⟩, by decide +kernel, kw933⟩
theorem cb_RL_130 : mw_CB RL 130 yX8_overdue 1 := ⟨kw6, ⟨by decide, by decide⟩, by decide +kernel, kw937⟩
theorem cb_RL_133 : mw_CB RL 133 yX8_couldEnter 3 := ⟨kw6, ⟨by decide, by decide⟩, by decide +kernel, kw941⟩
theorem cb_RL_136 : mw_CB RL 136 yX8_open 2 := ⟨kw6, ⟨by decide, by decide⟩, by decide +kernel, kw946⟩
theorem cb_RL_139 : mw_CB RL 139 yX8_type 2 := ⟨kw6, ⟨by decide, by decide⟩, by decide +kernel, kw950⟩
theorem cb_RX8_178 : mw_CB RX8 178 yX8_isSession 1 := ⟨kw6, ⟨by decide, by decide⟩, by decide +kernel, kw954⟩
theorem cb_RL_142 : mw_CB RL 142 yX8_letThrough 2 := ⟨kw6, ⟨by decide, by decide⟩, by decide +kernel, kw958⟩
theorem cb_RL_145 : mw_CB RL 145 yX8_close 1 := ⟨kw6, ⟨by decide, by decide⟩, by decide +kernel, kw962⟩
theorem cb_RL_148 : mw_CB RL 148 yX8_isOpen 1 := ⟨kw6, ⟨by decide, by decide⟩, by decide +kernel, kw966⟩
theorem cb_RL_152 : mw_CB RL 152 yX8_openSessions 0 := ⟨kw6, ⟨by decide, by decide⟩, by decide +kernel, kw970⟩
theorem cb_RL_155 : mw_CB RL 155 yX8_pass 1 := ⟨kw6, ⟨by decide, by decide⟩, by decide +kernel, kw974⟩
theorem cb_RL_159 : mw_CB RL 159 yX8_clock 0 := ⟨kw6, ⟨by decide, by decide⟩, by decide +kernel, kw978⟩
theorem cb_RL_163 : mw_CB RL 163 yX8_steps 0 := ⟨kw6, ⟨by decide, by decide⟩, by decide +kernel, kw982⟩
theorem cb_RL_166 : mw_CB RL 166 yX8_kind 1 := ⟨kw6, ⟨by decide, by decide⟩, by decide +kernel, kw986⟩
theorem cb_RL_169 : mw_CB RL 169 yX8_seal 1 := ⟨kw6, ⟨by decide, by decide⟩, by decide +kernel, kw990⟩
theorem fl_RJx4a65c_9 : mw_FL RJx4a65c 9 0 1 := ⟨RJx4a65c, TJx4a65c, 3, "java/util/ArrayList", rfl, by decide, uin_0, fun U A h => Or.inl (mw_use h kw47 rfl), fun _ _ _ h => h⟩
theorem fp_RJx4a65c_9 : mw_FP RJx4a65c 9 0 1 (.array (.object "java/lang/Object")) false := ⟨RJx4a65c, TJx4a65c, 3, "java/util/ArrayList", tyJx4a65c, rfl, by decide, uin_0, fun U A h => Or.inl (mw_use h kw47 rfl), fun _ _ _ h => h, tyJx4a65c_ok, nmJx4a65c, by decide +kernel, rfl, fun h => nomatch h⟩
theorem fl_RJx4a65c_48 : mw_FL RJx4a65c 48 0 2 := ⟨RJx4a65c, TJx4a65c, 3, "java/util/ArrayList", rfl, by decide, uin_0, fun U A h => Or.inl (mw_use h kw48 rfl), fun _ _ _ h => h⟩
theorem fp_RJx4a65c_48 : mw_FP RJx4a65c 48 0 2 (.int) false := ⟨RJx4a65c, TJx4a65c, 3, "java/util/ArrayList", tyJx4a65c, rfl, by decide, uin_0, fun U A h => Or.inl (mw_use h kw48 rfl), fun _ _ _ h => h, tyJx4a65c_ok, nmJx4a65c, by decide +kernel, rfl, fun h => nomatch h⟩
theorem fl_RJxc12de_7 : mw_FL RJxc12de 7 0 0 := ⟨RJx4a65c, TJx4a65c, 3, "java/util/AbstractList", rfl, by decide, uin_0, fun U A h => Or.inl (mw_use h kw49 rfl), fun _ _ _ h => h⟩
theorem fp_RJxc12de_7 : mw_FP RJxc12de 7 0 0 (.int) false := ⟨RJx4a65c, TJx4a65c, 3, "java/util/AbstractList", tyJx4a65c, rfl, by decide, uin_0, fun U A h => Or.inl (mw_use h kw49 rfl), fun _ _ _ h => h, tyJx4a65c_ok, nmJx4a65c, by decide +kernel, rfl, fun h => nomatch h⟩
theorem fl_RJx4a65c_63 : mw_FL RJx4a65c 63 0 0 := ⟨RJx4a65c, TJx4a65c, 3, "java/util/ArrayList", rfl, by decide, uin_0, fun U A h => Or.inl (mw_use h kw50 rfl), fun U x h hx => u_same (args := #[]) (mw_use h kw51 rfl) x hx⟩
theorem fp_RJx4a65c_63 : mw_FP RJx4a65c 63 0 0 (.int) false := ⟨RJx4a65c, TJx4a65c, 3, "java/util/ArrayList", tyJx4a65c, rfl, by decide, uin_0, fun U A h => Or.inl (mw_use h kw50 rfl), fun U x h hx => u_same (args := #[]) (mw_use h kw51 rfl) x hx, tyJx4a65c_ok, nmJx4a65c, by decide +kernel, rfl, fun h => nomatch h⟩
theorem fl_RX6_9 : mw_FL RX6 9 7 0 := ⟨RX6, TX6, 4, "AccessGate$StepRecord", rfl, by decide, uin_7, fun U A h => Or.inl (mw_use h kw65 rfl), fun _ _ _ h => h⟩
theorem fp_RX6_9 : mw_FP RX6 9 7 0 (.array .int) true := ⟨RX6, TX6, 4, "AccessGate$StepRecord", tyX6, rfl, by decide, uin_7, fun U A h => Or.inl (mw_use h kw65 rfl), fun _ _ _ h => h, tyX6_ok, nmX6, by decide +kernel, rfl, fun _ => rfl⟩
theorem fl_RX7_248 : mw_FL RX7 248 7 0 := ⟨RX6, TX6, 4, "AccessGate$StepRecord", rfl, by decide, uin_7, fun U A h => Or.inr ⟨_, mw_use h kw66 rfl⟩, fun _ _ _ h => h⟩
theorem fl_RX6_15 : mw_FL RX6 15 7 1 := ⟨RX6, TX6, 4, "AccessGate$StepRecord", rfl, by decide, uin_7, fun U A h => Or.inl (mw_use h kw67 rfl), fun _ _ _ h => h⟩
theorem fp_RX6_15 : mw_FP RX6 15 7 1 (.array .int) true := ⟨RX6, TX6, 4, "AccessGate$StepRecord", tyX6, rfl, by decide, uin_7, fun U A h => Or.inl (mw_use h kw67 rfl), fun _ _ _ h => h, tyX6_ok, nmX6, by decide +kernel, rfl, fun _ => rfl⟩
theorem fl_RX7_252 : mw_FL RX7 252 7 1 := ⟨RX6, TX6, 4, "AccessGate$StepRecord", rfl, by decide, uin_7, fun U A h => Or.inr ⟨_, mw_use h kw68 rfl⟩, fun _ _ _ h => h⟩
theorem fl_RX6_18 : mw_FL RX6 18 7 2 := ⟨RX6, TX6, 4, "AccessGate$StepRecord", rfl, by decide, uin_7, fun U A h => Or.inl (mw_use h kw69 rfl), fun _ _ _ h => h⟩
theorem fp_RX6_18 : mw_FP RX6 18 7 2 (.int) false := ⟨RX6, TX6, 4, "AccessGate$StepRecord", tyX6, rfl, by decide, uin_7, fun U A h => Or.inl (mw_use h kw69 rfl), fun _ _ _ h => h, tyX6_ok, nmX6, by decide +kernel, rfl, fun h => nomatch h⟩
theorem fl_RX7_242 : mw_FL RX7 242 7 2 := ⟨RX6, TX6, 4, "AccessGate$StepRecord", rfl, by decide, uin_7, fun U A h => Or.inr ⟨_, mw_use h kw70 rfl⟩, fun _ _ _ h => h⟩
theorem fp_RX7_242 : mw_FP RX7 242 7 2 (.int) false := ⟨RX6, TX6, 4, "AccessGate$StepRecord", tyX6, rfl, by decide, uin_7, fun U A h => Or.inr ⟨rfl, _, mw_use h kw70 rfl⟩, fun _ _ _ h => h, tyX6_ok, nmX6, by decide +kernel, rfl, fun h => nomatch h⟩
theorem fl_RX6_22 : mw_FL RX6 22 7 3 := ⟨RX6, TX6, 4, "AccessGate$StepRecord", rfl, by decide, uin_7, fun U A h => Or.inl (mw_use h kw71 rfl), fun _ _ _ h => h⟩
theorem fp_RX6_22 : mw_FP RX6 22 7 3 (.int) false := ⟨RX6, TX6, 4, "AccessGate$StepRecord", tyX6, rfl, by decide, uin_7, fun U A h => Or.inl (mw_use h kw71 rfl), fun _ _ _ h => h, tyX6_ok, nmX6, by decide +kernel, rfl, fun h => nomatch h⟩
theorem fl_RX7_12 : mw_FL RX7 12 8 0 := ⟨RX7, TX7, 9, "AccessGate", rfl, by decide, uin_8, fun U A h => Or.inl (mw_use h kw82 rfl), fun _ _ _ h => h⟩
theorem fp_RX7_12 : mw_FP RX7 12 8 0 (.object "java/util/ArrayList") true := ⟨RX7, TX7, 9, "AccessGate", tyX7, rfl, by decide, uin_8, fun U A h => Or.inl (mw_use h kw82 rfl), fun _ _ _ h => h, tyX7_ok, nmX7, by decide +kernel, rfl, fun _ => rfl⟩
theorem fl_RX7_16 : mw_FL RX7 16 8 1 := ⟨RX7, TX7, 9, "AccessGate", rfl, by decide, uin_8, fun U A h => Or.inl (mw_use h kw83 rfl), fun _ _ _ h => h⟩
theorem fp_RX7_16 : mw_FP RX7 16 8 1 (.object "java/util/ArrayList") true := ⟨RX7, TX7, 9, "AccessGate", tyX7, rfl, by decide, uin_8, fun U A h => Or.inl (mw_use h kw83 rfl), fun _ _ _ h => h, tyX7_ok, nmX7, by decide +kernel, rfl, fun _ => rfl⟩
theorem fl_RX7_19 : mw_FL RX7 19 8 2 := ⟨RX7, TX7, 9, "AccessGate", rfl, by decide, uin_8, fun U A h => Or.inl (mw_use h kw84 rfl), fun _ _ _ h => h⟩
theorem fp_RX7_19 : mw_FP RX7 19 8 2 (.object "java/util/ArrayList") true := ⟨RX7, TX7, 9, "AccessGate", tyX7, rfl, by decide, uin_8, fun U A h => Or.inl (mw_use h kw84 rfl), fun _ _ _ h => h, tyX7_ok, nmX7, by decide +kernel, rfl, fun _ => rfl⟩
theorem fl_RX7_22 : mw_FL RX7 22 8 3 := ⟨RX7, TX7, 9, "AccessGate", rfl, by decide, uin_8, fun U A h => Or.inl (mw_use h kw85 rfl), fun _ _ _ h => h⟩
theorem fp_RX7_22 : mw_FP RX7 22 8 3 (.object "java/util/ArrayList") true := ⟨RX7, TX7, 9, "AccessGate", tyX7, rfl, by decide, uin_8, fun U A h => Or.inl (mw_use h kw85 rfl), fun _ _ _ h => h, tyX7_ok, nmX7, by decide +kernel, rfl, fun _ => rfl⟩
theorem fl_RX7_25 : mw_FL RX7 25 8 4 := ⟨RX7, TX7, 9, "AccessGate", rfl, by decide, uin_8, fun U A h => Or.inl (mw_use h kw86 rfl), fun _ _ _ h => h⟩
theorem fp_RX7_25 : mw_FP RX7 25 8 4 (.object "java/util/ArrayList") true := ⟨RX7, TX7, 9, "AccessGate", tyX7, rfl, by decide, uin_8, fun U A h => Or.inl (mw_use h kw86 rfl), fun _ _ _ h => h, tyX7_ok, nmX7, by decide +kernel, rfl, fun _ => rfl⟩
theorem fl_RX7_28 : mw_FL RX7 28 8 5 := ⟨RX7, TX7, 9, "AccessGate", rfl, by decide, uin_8, fun U A h => Or.inl (mw_use h kw87 rfl), fun _ _ _ h => h⟩
theorem fp_RX7_28 : mw_FP RX7 28 8 5 (.object "java/util/ArrayList") true := ⟨RX7, TX7, 9, "AccessGate", tyX7, rfl, by decide, uin_8, fun U A h => Or.inl (mw_use h kw87 rfl), fun _ _ _ h => h, tyX7_ok, nmX7, by decide +kernel, rfl, fun _ => rfl⟩
theorem fl_RX7_34 : mw_FL RX7 34 8 6 := ⟨RX7, TX7, 9, "AccessGate", rfl, by decide, uin_8, fun U A h => Or.inl (mw_use h kw88 rfl), fun _ _ _ h => h⟩
theorem fp_RX7_34 : mw_FP RX7 34 8 6 (.object "AccessGate$StepRecord") true := ⟨RX7, TX7, 9, "AccessGate", tyX7, rfl, by decide, uin_8, fun U A h => Or.inl (mw_use h kw88 rfl), fun _ _ _ h => h, tyX7_ok, nmX7, by decide +kernel, rfl, fun _ => rfl⟩
theorem fl_RX7_38 : mw_FL RX7 38 8 7 := ⟨RX7, TX7, 9, "AccessGate", rfl, by decide, uin_8, fun U A h => Or.inl (mw_use h kw89 rfl), fun _ _ _ h => h⟩
theorem fp_RX7_38 : mw_FP RX7 38 8 7 (.int) false := ⟨RX7, TX7, 9, "AccessGate", tyX7, rfl, by decide, uin_8, fun U A h => Or.inl (mw_use h kw89 rfl), fun _ _ _ h => h, tyX7_ok, nmX7, by decide +kernel, rfl, fun h => nomatch h⟩
theorem fl_RX7_42 : mw_FL RX7 42 8 8 := ⟨RX7, TX7, 9, "AccessGate", rfl, by decide, uin_8, fun U A h => Or.inl (mw_use h kw90 rfl), fun _ _ _ h => h⟩
theorem fp_RX7_42 : mw_FP RX7 42 8 8 (.int) false := ⟨RX7, TX7, 9, "AccessGate", tyX7, rfl, by decide, uin_8, fun U A h => Or.inl (mw_use h kw90 rfl), fun _ _ _ h => h, tyX7_ok, nmX7, by decide +kernel, rfl, fun h => nomatch h⟩
theorem fl_RX3_13 : mw_FL RX3 13 4 0 := ⟨RX3, TX3, 3, "AccessGate$Person", rfl, by decide, uin_4, fun U A h => Or.inl (mw_use h kw225 rfl), fun _ _ _ h => h⟩
theorem fp_RX3_13 : mw_FP RX3 13 4 0 (.int) true := ⟨RX3, TX3, 3, "AccessGate$Person", tyX3, rfl, by decide, uin_4, fun U A h => Or.inl (mw_use h kw225 rfl), fun _ _ _ h => h, tyX3_ok, nmX3, by decide +kernel, rfl, fun _ => rfl⟩
theorem fl_RX6_25 : mw_FL RX6 25 4 0 := ⟨RX3, TX3, 3, "AccessGate$Person", rfl, by decide, uin_4, fun U A h => Or.inr ⟨_, mw_use h kw226 rfl⟩, fun _ _ _ h => h⟩
theorem fl_RX3_16 : mw_FL RX3 16 4 1 := ⟨RX3, TX3, 3, "AccessGate$Person", rfl, by decide, uin_4, fun U A h => Or.inl (mw_use h kw227 rfl), fun _ _ _ h => h⟩
theorem fp_RX3_16 : mw_FP RX3 16 4 1 (.int) true := ⟨RX3, TX3, 3, "AccessGate$Person", tyX3, rfl, by decide, uin_4, fun U A h => Or.inl (mw_use h kw227 rfl), fun _ _ _ h => h, tyX3_ok, nmX3, by decide +kernel, rfl, fun _ => rfl⟩
theorem fl_RX7_173 : mw_FL RX7 173 4 1 := ⟨RX3, TX3, 3, "AccessGate$Person", rfl, by decide, uin_4, fun U A h => Or.inr ⟨_, mw_use h kw228 rfl⟩, fun _ _ _ h => h⟩
theorem fl_RX3_7 : mw_FL RX3 7 4 2 := ⟨RX3, TX3, 3, "AccessGate$Person", rfl, by decide, uin_4, fun U A h => Or.inl (mw_use h kw229 rfl), fun _ _ _ h => h⟩
theorem fp_RX3_7 : mw_FP RX3 7 4 2 (.int) false := ⟨RX3, TX3, 3, "AccessGate$Person", tyX3, rfl, by decide, uin_4, fun U A h => Or.inl (mw_use h kw229 rfl), fun _ _ _ h => h, tyX3_ok, nmX3, by decide +kernel, rfl, fun h => nomatch h⟩
theorem fl_RX2_7 : mw_FL RX2 7 3 0 := ⟨RX2, TX2, 2, "AccessGate$Machine", rfl, by decide, uin_3, fun U A h => Or.inl (mw_use h kw315 rfl), fun _ _ _ h => h⟩
theorem fp_RX2_7 : mw_FP RX2 7 3 0 (.int) true := ⟨RX2, TX2, 2, "AccessGate$Machine", tyX2, rfl, by decide, uin_3, fun U A h => Or.inl (mw_use h kw315 rfl), fun _ _ _ h => h, tyX2_ok, nmX2, by decide +kernel, rfl, fun _ => rfl⟩
theorem fl_RX6_30 : mw_FL RX6 30 3 0 := ⟨RX2, TX2, 2, "AccessGate$Machine", rfl, by decide, uin_3, fun U A h => Or.inr ⟨_, mw_use h kw316 rfl⟩, fun _ _ _ h => h⟩
theorem fl_RX2_13 : mw_FL RX2 13 3 1 := ⟨RX2, TX2, 2, "AccessGate$Machine", rfl, by decide, uin_3, fun U A h => Or.inl (mw_use h kw317 rfl), fun _ _ _ h => h⟩
theorem fp_RX2_13 : mw_FP RX2 13 3 1 (.int) true := ⟨RX2, TX2, 2, "AccessGate$Machine", tyX2, rfl, by decide, uin_3, fun U A h => Or.inl (mw_use h kw317 rfl), fun _ _ _ h => h, tyX2_ok, nmX2, by decide +kernel, rfl, fun _ => rfl⟩
theorem fl_RX3_19 : mw_FL RX3 19 3 1 := ⟨RX2, TX2, 2, "AccessGate$Machine", rfl, by decide, uin_3, fun U A h => Or.inr ⟨_, mw_use h kw318 rfl⟩, fun _ _ _ h => h⟩
theorem fl_RX7_91 : mw_FL RX7 91 3 1 := ⟨RX2, TX2, 2, "AccessGate$Machine", rfl, by decide, uin_3, fun U A h => Or.inr ⟨_, mw_use h kw319 rfl⟩, fun _ _ _ h => h⟩
theorem fl_RX0_19 : mw_FL RX0 19 1 0 := ⟨RX0, TX0, 6, "AccessGate$Ask", rfl, by decide, uin_1, fun U A h => Or.inl (mw_use h kw462 rfl), fun _ _ _ h => h⟩
theorem fp_RX0_19 : mw_FP RX0 19 1 0 (.object "AccessGate$Person") true := ⟨RX0, TX0, 6, "AccessGate$Ask", tyX0, rfl, by decide, uin_1, fun U A h => Or.inl (mw_use h kw462 rfl), fun _ _ _ h => h, tyX0_ok, nmX0, by decide +kernel, rfl, fun _ => rfl⟩
theorem fl_RX7_147 : mw_FL RX7 147 1 0 := ⟨RX0, TX0, 6, "AccessGate$Ask", rfl, by decide, uin_1, fun U A h => Or.inr ⟨_, mw_use h kw463 rfl⟩, fun _ _ _ h => h⟩
theorem fl_RX0_22 : mw_FL RX0 22 1 1 := ⟨RX0, TX0, 6, "AccessGate$Ask", rfl, by decide, uin_1, fun U A h => Or.inl (mw_use h kw464 rfl), fun _ _ _ h => h⟩
theorem fp_RX0_22 : mw_FP RX0 22 1 1 (.object "AccessGate$Machine") true := ⟨RX0, TX0, 6, "AccessGate$Ask", tyX0, rfl, by decide, uin_1, fun U A h => Or.inl (mw_use h kw464 rfl), fun _ _ _ h => h, tyX0_ok, nmX0, by decide +kernel, rfl, fun _ => rfl⟩
theorem fl_RX7_138 : mw_FL RX7 138 1 1 := ⟨RX0, TX0, 6, "AccessGate$Ask", rfl, by decide, uin_1, fun U A h => Or.inr ⟨_, mw_use h kw465 rfl⟩, fun _ _ _ h => h⟩
theorem fl_RX0_26 : mw_FL RX0 26 1 2 := ⟨RX0, TX0, 6, "AccessGate$Ask", rfl, by decide, uin_1, fun U A h => Or.inl (mw_use h kw466 rfl), fun _ _ _ h => h⟩
theorem fp_RX0_26 : mw_FP RX0 26 1 2 (.int) true := ⟨RX0, TX0, 6, "AccessGate$Ask", tyX0, rfl, by decide, uin_1, fun U A h => Or.inl (mw_use h kw466 rfl), fun _ _ _ h => h, tyX0_ok, nmX0, by decide +kernel, rfl, fun _ => rfl⟩
theorem fl_RX7_150 : mw_FL RX7 150 1 2 := ⟨RX0, TX0, 6, "AccessGate$Ask", rfl, by decide, uin_1, fun U A h => Or.inr ⟨_, mw_use h kw467 rfl⟩, fun _ _ _ h => h⟩
theorem fl_RX0_29 : mw_FL RX0 29 1 3 := ⟨RX0, TX0, 6, "AccessGate$Ask", rfl, by decide, uin_1, fun U A h => Or.inl (mw_use h kw468 rfl), fun _ _ _ h => h⟩
theorem fp_RX0_29 : mw_FP RX0 29 1 3 (.int) true := ⟨RX0, TX0, 6, "AccessGate$Ask", tyX0, rfl, by decide, uin_1, fun U A h => Or.inl (mw_use h kw468 rfl), fun _ _ _ h => h, tyX0_ok, nmX0, by decide +kernel, rfl, fun _ => rfl⟩
theorem fl_RX0_9 : mw_FL RX0 9 1 4 := ⟨RX0, TX0, 6, "AccessGate$Ask", rfl, by decide, uin_1, fun U A h => Or.inl (mw_use h kw469 rfl), fun _ _ _ h => h⟩
theorem fp_RX0_9 : mw_FP RX0 9 1 4 (.object "AccessGate$Person") false := ⟨RX0, TX0, 6, "AccessGate$Ask", tyX0, rfl, by decide, uin_1, fun U A h => Or.inl (mw_use h kw469 rfl), fun _ _ _ h => h, tyX0_ok, nmX0, by decide +kernel, rfl, fun h => nomatch h⟩
theorem fl_RX7_132 : mw_FL RX7 132 1 4 := ⟨RX0, TX0, 6, "AccessGate$Ask", rfl, by decide, uin_1, fun U A h => Or.inr ⟨_, mw_use h kw470 rfl⟩, fun _ _ _ h => h⟩
theorem fp_RX7_132 : mw_FP RX7 132 1 4 (.object "AccessGate$Person") false := ⟨RX0, TX0, 6, "AccessGate$Ask", tyX0, rfl, by decide, uin_1, fun U A h => Or.inr ⟨rfl, _, mw_use h kw470 rfl⟩, fun _ _ _ h => h, tyX0_ok, nmX0, by decide +kernel, rfl, fun h => nomatch h⟩
theorem fl_RX0_15 : mw_FL RX0 15 1 5 := ⟨RX0, TX0, 6, "AccessGate$Ask", rfl, by decide, uin_1, fun U A h => Or.inl (mw_use h kw471 rfl), fun _ _ _ h => h⟩
theorem fp_RX0_15 : mw_FP RX0 15 1 5 (.int) false := ⟨RX0, TX0, 6, "AccessGate$Ask", tyX0, rfl, by decide, uin_1, fun U A h => Or.inl (mw_use h kw471 rfl), fun _ _ _ h => h, tyX0_ok, nmX0, by decide +kernel, rfl, fun h => nomatch h⟩
theorem fl_RX7_142 : mw_FL RX7 142 1 5 := ⟨RX0, TX0, 6, "AccessGate$Ask", rfl, by decide, uin_1, fun U A h => Or.inr ⟨_, mw_use h kw472 rfl⟩, fun _ _ _ h => h⟩
theorem fp_RX7_142 : mw_FP RX7 142 1 5 (.int) false := ⟨RX0, TX0, 6, "AccessGate$Ask", tyX0, rfl, by decide, uin_1, fun U A h => Or.inr ⟨rfl, _, mw_use h kw472 rfl⟩, fun _ _ _ h => h, tyX0_ok, nmX0, by decide +kernel, rfl, fun h => nomatch h⟩
theorem fl_RX4_7 : mw_FL RX4 7 5 0 := ⟨RX4, TX4, 4, "AccessGate$Right", rfl, by decide, uin_5, fun U A h => Or.inl (mw_use h kw514 rfl), fun _ _ _ h => h⟩
theorem fp_RX4_7 : mw_FP RX4 7 5 0 (.object "AccessGate$Person") true := ⟨RX4, TX4, 4, "AccessGate$Right", tyX4, rfl, by decide, uin_5, fun U A h => Or.inl (mw_use h kw514 rfl), fun _ _ _ h => h, tyX4_ok, nmX4, by decide +kernel, rfl, fun _ => rfl⟩
theorem fl_RX7_291 : mw_FL RX7 291 5 0 := ⟨RX4, TX4, 4, "AccessGate$Right", rfl, by decide, uin_5, fun U A h => Or.inr ⟨_, mw_use h kw515 rfl⟩, fun _ _ _ h => h⟩
theorem fl_RX4_13 : mw_FL RX4 13 5 1 := ⟨RX4, TX4, 4, "AccessGate$Right", rfl, by decide, uin_5, fun U A h => Or.inl (mw_use h kw516 rfl), fun _ _ _ h => h⟩
theorem fp_RX4_13 : mw_FP RX4 13 5 1 (.object "AccessGate$Machine") true := ⟨RX4, TX4, 4, "AccessGate$Right", tyX4, rfl, by decide, uin_5, fun U A h => Or.inl (mw_use h kw516 rfl), fun _ _ _ h => h, tyX4_ok, nmX4, by decide +kernel, rfl, fun _ => rfl⟩
theorem fl_RX7_292 : mw_FL RX7 292 5 1 := ⟨RX4, TX4, 4, "AccessGate$Right", rfl, by decide, uin_5, fun U A h => Or.inr ⟨_, mw_use h kw517 rfl⟩, fun _ _ _ h => h⟩
theorem fl_RX4_17 : mw_FL RX4 17 5 2 := ⟨RX4, TX4, 4, "AccessGate$Right", rfl, by decide, uin_5, fun U A h => Or.inl (mw_use h kw518 rfl), fun _ _ _ h => h⟩
theorem fp_RX4_17 : mw_FP RX4 17 5 2 (.int) true := ⟨RX4, TX4, 4, "AccessGate$Right", tyX4, rfl, by decide, uin_5, fun U A h => Or.inl (mw_use h kw518 rfl), fun _ _ _ h => h, tyX4_ok, nmX4, by decide +kernel, rfl, fun _ => rfl⟩
theorem fl_RX4_21 : mw_FL RX4 21 5 3 := ⟨RX4, TX4, 4, "AccessGate$Right", rfl, by decide, uin_5, fun U A h => Or.inl (mw_use h kw519 rfl), fun _ _ _ h => h⟩
theorem fp_RX4_21 : mw_FP RX4 21 5 3 (.int) false := ⟨RX4, TX4, 4, "AccessGate$Right", tyX4, rfl, by decide, uin_5, fun U A h => Or.inl (mw_use h kw519 rfl), fun _ _ _ h => h, tyX4_ok, nmX4, by decide +kernel, rfl, fun h => nomatch h⟩
theorem fl_RX7_296 : mw_FL RX7 296 5 3 := ⟨RX4, TX4, 4, "AccessGate$Right", rfl, by decide, uin_5, fun U A h => Or.inr ⟨_, mw_use h kw520 rfl⟩, fun _ _ _ h => h⟩
theorem fp_RX7_296 : mw_FP RX7 296 5 3 (.int) false := ⟨RX4, TX4, 4, "AccessGate$Right", tyX4, rfl, by decide, uin_5, fun U A h => Or.inr ⟨rfl, _, mw_use h kw520 rfl⟩, fun _ _ _ h => h, tyX4_ok, nmX4, by decide +kernel, rfl, fun h => nomatch h⟩
theorem fl_RX1_15 : mw_FL RX1 15 2 0 := ⟨RX1, TX1, 4, "AccessGate$Entry", rfl, by decide, uin_2, fun U A h => Or.inl (mw_use h kw555 rfl), fun _ _ _ h => h⟩
theorem fp_RX1_15 : mw_FP RX1 15 2 0 (.object "AccessGate$Person") true := ⟨RX1, TX1, 4, "AccessGate$Entry", tyX1, rfl, by decide, uin_2, fun U A h => Or.inl (mw_use h kw555 rfl), fun _ _ _ h => h, tyX1_ok, nmX1, by decide +kernel, rfl, fun _ => rfl⟩
theorem fl_RX7_176 : mw_FL RX7 176 2 0 := ⟨RX1, TX1, 4, "AccessGate$Entry", rfl, by decide, uin_2, fun U A h => Or.inr ⟨_, mw_use h kw556 rfl⟩, fun _ _ _ h => h⟩
theorem fl_RX1_19 : mw_FL RX1 19 2 1 := ⟨RX1, TX1, 4, "AccessGate$Entry", rfl, by decide, uin_2, fun U A h => Or.inl (mw_use h kw557 rfl), fun _ _ _ h => h⟩
theorem fp_RX1_19 : mw_FP RX1 19 2 1 (.object "AccessGate$Machine") true := ⟨RX1, TX1, 4, "AccessGate$Entry", tyX1, rfl, by decide, uin_2, fun U A h => Or.inl (mw_use h kw557 rfl), fun _ _ _ h => h, tyX1_ok, nmX1, by decide +kernel, rfl, fun _ => rfl⟩
theorem fl_RX7_179 : mw_FL RX7 179 2 1 := ⟨RX1, TX1, 4, "AccessGate$Entry", rfl, by decide, uin_2, fun U A h => Or.inr ⟨_, mw_use h kw558 rfl⟩, fun _ _ _ h => h⟩
theorem fl_RX1_23 : mw_FL RX1 23 2 2 := ⟨RX1, TX1, 4, "AccessGate$Entry", rfl, by decide, uin_2, fun U A h => Or.inl (mw_use h kw559 rfl), fun _ _ _ h => h⟩
theorem fp_RX1_23 : mw_FP RX1 23 2 2 (.int) true := ⟨RX1, TX1, 4, "AccessGate$Entry", tyX1, rfl, by decide, uin_2, fun U A h => Or.inl (mw_use h kw559 rfl), fun _ _ _ h => h, tyX1_ok, nmX1, by decide +kernel, rfl, fun _ => rfl⟩
theorem fl_RX7_180 : mw_FL RX7 180 2 2 := ⟨RX1, TX1, 4, "AccessGate$Entry", rfl, by decide, uin_2, fun U A h => Or.inr ⟨_, mw_use h kw560 rfl⟩, fun _ _ _ h => h⟩
theorem fl_RX1_9 : mw_FL RX1 9 2 3 := ⟨RX1, TX1, 4, "AccessGate$Entry", rfl, by decide, uin_2, fun U A h => Or.inl (mw_use h kw561 rfl), fun _ _ _ h => h⟩
theorem fp_RX1_9 : mw_FP RX1 9 2 3 (.boolean) false := ⟨RX1, TX1, 4, "AccessGate$Entry", tyX1, rfl, by decide, uin_2, fun U A h => Or.inl (mw_use h kw561 rfl), fun _ _ _ h => h, tyX1_ok, nmX1, by decide +kernel, rfl, fun h => nomatch h⟩
theorem fl_RX7_167 : mw_FL RX7 167 2 3 := ⟨RX1, TX1, 4, "AccessGate$Entry", rfl, by decide, uin_2, fun U A h => Or.inr ⟨_, mw_use h kw562 rfl⟩, fun _ _ _ h => h⟩
theorem fp_RX7_167 : mw_FP RX7 167 2 3 (.boolean) false := ⟨RX1, TX1, 4, "AccessGate$Entry", tyX1, rfl, by decide, uin_2, fun U A h => Or.inr ⟨rfl, _, mw_use h kw562 rfl⟩, fun _ _ _ h => h, tyX1_ok, nmX1, by decide +kernel, rfl, fun h => nomatch h⟩
theorem fl_RX5_22 : mw_FL RX5 22 6 0 := ⟨RX5, TX5, 6, "AccessGate$Session", rfl, by decide, uin_6, fun U A h => Or.inl (mw_use h kw614 rfl), fun _ _ _ h => h⟩
theorem fp_RX5_22 : mw_FP RX5 22 6 0 (.object "AccessGate$Person") true := ⟨RX5, TX5, 6, "AccessGate$Session", tyX5, rfl, by decide, uin_6, fun U A h => Or.inl (mw_use h kw614 rfl), fun _ _ _ h => h, tyX5_ok, nmX5, by decide +kernel, rfl, fun _ => rfl⟩
theorem fl_RX7_215 : mw_FL RX7 215 6 0 := ⟨RX5, TX5, 6, "AccessGate$Session", rfl, by decide, uin_6, fun U A h => Or.inr ⟨_, mw_use h kw615 rfl⟩, fun _ _ _ h => h⟩
theorem fl_RX5_26 : mw_FL RX5 26 6 1 := ⟨RX5, TX5, 6, "AccessGate$Session", rfl, by decide, uin_6, fun U A h => Or.inl (mw_use h kw616 rfl), fun _ _ _ h => h⟩
theorem fp_RX5_26 : mw_FP RX5 26 6 1 (.object "AccessGate$Machine") true := ⟨RX5, TX5, 6, "AccessGate$Session", tyX5, rfl, by decide, uin_6, fun U A h => Or.inl (mw_use h kw616 rfl), fun _ _ _ h => h, tyX5_ok, nmX5, by decide +kernel, rfl, fun _ => rfl⟩
theorem fl_RX7_216 : mw_FL RX7 216 6 1 := ⟨RX5, TX5, 6, "AccessGate$Session", rfl, by decide, uin_6, fun U A h => Or.inr ⟨_, mw_use h kw617 rfl⟩, fun _ _ _ h => h⟩
theorem fl_RX5_9 : mw_FL RX5 9 6 2 := ⟨RX5, TX5, 6, "AccessGate$Session", rfl, by decide, uin_6, fun U A h => Or.inl (mw_use h kw618 rfl), fun _ _ _ h => h⟩
theorem fp_RX5_9 : mw_FP RX5 9 6 2 (.boolean) false := ⟨RX5, TX5, 6, "AccessGate$Session", tyX5, rfl, by decide, uin_6, fun U A h => Or.inl (mw_use h kw618 rfl), fun _ _ _ h => h, tyX5_ok, nmX5, by decide +kernel, rfl, fun h => nomatch h⟩
theorem fl_RX7_237 : mw_FL RX7 237 6 2 := ⟨RX5, TX5, 6, "AccessGate$Session", rfl, by decide, uin_6, fun U A h => Or.inr ⟨_, mw_use h kw619 rfl⟩, fun _ _ _ h => h⟩
theorem fp_RX7_237 : mw_FP RX7 237 6 2 (.boolean) false := ⟨RX5, TX5, 6, "AccessGate$Session", tyX5, rfl, by decide, uin_6, fun U A h => Or.inr ⟨rfl, _, mw_use h kw619 rfl⟩, fun _ _ _ h => h, tyX5_ok, nmX5, by decide +kernel, rfl, fun h => nomatch h⟩
theorem fl_RX5_30 : mw_FL RX5 30 6 3 := ⟨RX5, TX5, 6, "AccessGate$Session", rfl, by decide, uin_6, fun U A h => Or.inl (mw_use h kw620 rfl), fun _ _ _ h => h⟩
theorem fp_RX5_30 : mw_FP RX5 30 6 3 (.int) false := ⟨RX5, TX5, 6, "AccessGate$Session", tyX5, rfl, by decide, uin_6, fun U A h => Or.inl (mw_use h kw620 rfl), fun _ _ _ h => h, tyX5_ok, nmX5, by decide +kernel, rfl, fun h => nomatch h⟩
theorem fl_RX7_217 : mw_FL RX7 217 6 3 := ⟨RX5, TX5, 6, "AccessGate$Session", rfl, by decide, uin_6, fun U A h => Or.inr ⟨_, mw_use h kw621 rfl⟩, fun _ _ _ h => h⟩
theorem fp_RX7_217 : mw_FP RX7 217 6 3 (.int) false := ⟨RX5, TX5, 6, "AccessGate$Session", tyX5, rfl, by decide, uin_6, fun U A h => Or.inr ⟨rfl, _, mw_use h kw621 rfl⟩, fun _ _ _ h => h, tyX5_ok, nmX5, by decide +kernel, rfl, fun h => nomatch h⟩
theorem fl_RX5_15 : mw_FL RX5 15 6 4 := ⟨RX5, TX5, 6, "AccessGate$Session", rfl, by decide, uin_6, fun U A h => Or.inl (mw_use h kw622 rfl), fun _ _ _ h => h⟩
theorem fp_RX5_15 : mw_FP RX5 15 6 4 (.int) false := ⟨RX5, TX5, 6, "AccessGate$Session", tyX5, rfl, by decide, uin_6, fun U A h => Or.inl (mw_use h kw622 rfl), fun _ _ _ h => h, tyX5_ok, nmX5, by decide +kernel, rfl, fun h => nomatch h⟩
theorem fl_RX7_223 : mw_FL RX7 223 6 4 := ⟨RX5, TX5, 6, "AccessGate$Session", rfl, by decide, uin_6, fun U A h => Or.inr ⟨_, mw_use h kw623 rfl⟩, fun _ _ _ h => h⟩
theorem fp_RX7_223 : mw_FP RX7 223 6 4 (.int) false := ⟨RX5, TX5, 6, "AccessGate$Session", tyX5, rfl, by decide, uin_6, fun U A h => Or.inr ⟨rfl, _, mw_use h kw623 rfl⟩, fun _ _ _ h => h, tyX5_ok, nmX5, by decide +kernel, rfl, fun h => nomatch h⟩
theorem fl_RX5_19 : mw_FL RX5 19 6 5 := ⟨RX5, TX5, 6, "AccessGate$Session", rfl, by decide, uin_6, fun U A h => Or.inl (mw_use h kw624 rfl), fun _ _ _ h => h⟩
theorem fp_RX5_19 : mw_FP RX5 19 6 5 (.int) false := ⟨RX5, TX5, 6, "AccessGate$Session", tyX5, rfl, by decide, uin_6, fun U A h => Or.inl (mw_use h kw624 rfl), fun _ _ _ h => h, tyX5_ok, nmX5, by decide +kernel, rfl, fun h => nomatch h⟩
theorem fl_RX7_220 : mw_FL RX7 220 6 5 := ⟨RX5, TX5, 6, "AccessGate$Session", rfl, by decide, uin_6, fun U A h => Or.inr ⟨_, mw_use h kw625 rfl⟩, fun _ _ _ h => h⟩
theorem fp_RX7_220 : mw_FP RX7 220 6 5 (.int) false := ⟨RX5, TX5, 6, "AccessGate$Session", tyX5, rfl, by decide, uin_6, fun U A h => Or.inr ⟨rfl, _, mw_use h kw625 rfl⟩, fun _ _ _ h => h, tyX5_ok, nmX5, by decide +kernel, rfl, fun h => nomatch h⟩
theorem fl_RX8_7 : mw_FL RX8 7 9 0 := ⟨RX8, TX8, 34, "AccessGateModel", rfl, by decide, uin_9, fun U A h => Or.inl (mw_use h kw717 rfl), fun _ _ _ h => h⟩
theorem fp_RX8_7 : mw_FP RX8 7 9 0 (.array .int) true := ⟨RX8, TX8, 34, "AccessGateModel", tyX8, rfl, by decide, uin_9, fun U A h => Or.inl (mw_use h kw717 rfl), fun _ _ _ h => h, tyX8_ok, nmX8, by decide +kernel, rfl, fun _ => rfl⟩
theorem fl_RX8_13 : mw_FL RX8 13 9 1 := ⟨RX8, TX8, 34, "AccessGateModel", rfl, by decide, uin_9, fun U A h => Or.inl (mw_use h kw718 rfl), fun _ _ _ h => h⟩
theorem fp_RX8_13 : mw_FP RX8 13 9 1 (.array .boolean) true := ⟨RX8, TX8, 34, "AccessGateModel", tyX8, rfl, by decide, uin_9, fun U A h => Or.inl (mw_use h kw718 rfl), fun _ _ _ h => h, tyX8_ok, nmX8, by decide +kernel, rfl, fun _ => rfl⟩
theorem fl_RX8_90 : mw_FL RX8 90 9 2 := ⟨RX8, TX8, 34, "AccessGateModel", rfl, by decide, uin_9, fun U A h => Or.inl (mw_use h kw719 rfl), fun _ _ _ h => h⟩
theorem fp_RX8_90 : mw_FP RX8 90 9 2 (.int) false := ⟨RX8, TX8, 34, "AccessGateModel", tyX8, rfl, by decide, uin_9, fun U A h => Or.inl (mw_use h kw719 rfl), fun _ _ _ h => h, tyX8_ok, nmX8, by decide +kernel, rfl, fun h => nomatch h⟩
theorem fl_RX8_17 : mw_FL RX8 17 9 3 := ⟨RX8, TX8, 34, "AccessGateModel", rfl, by decide, uin_9, fun U A h => Or.inl (mw_use h kw720 rfl), fun _ _ _ h => h⟩
theorem fp_RX8_17 : mw_FP RX8 17 9 3 (.array .int) true := ⟨RX8, TX8, 34, "AccessGateModel", tyX8, rfl, by decide, uin_9, fun U A h => Or.inl (mw_use h kw720 rfl), fun _ _ _ h => h, tyX8_ok, nmX8, by decide +kernel, rfl, fun _ => rfl⟩
theorem fl_RX8_97 : mw_FL RX8 97 9 4 := ⟨RX8, TX8, 34, "AccessGateModel", rfl, by decide, uin_9, fun U A h => Or.inl (mw_use h kw721 rfl), fun _ _ _ h => h⟩
theorem fp_RX8_97 : mw_FP RX8 97 9 4 (.int) false := ⟨RX8, TX8, 34, "AccessGateModel", tyX8, rfl, by decide, uin_9, fun U A h => Or.inl (mw_use h kw721 rfl), fun _ _ _ h => h, tyX8_ok, nmX8, by decide +kernel, rfl, fun h => nomatch h⟩
theorem fl_RX8_119 : mw_FL RX8 119 9 5 := ⟨RX8, TX8, 34, "AccessGateModel", rfl, by decide, uin_9, fun U A h => Or.inl (mw_use h kw722 rfl), fun _ _ _ h => h⟩
theorem fp_RX8_119 : mw_FP RX8 119 9 5 (.int) false := ⟨RX8, TX8, 34, "AccessGateModel", tyX8, rfl, by decide, uin_9, fun U A h => Or.inl (mw_use h kw722 rfl), fun _ _ _ h => h, tyX8_ok, nmX8, by decide +kernel, rfl, fun h => nomatch h⟩
theorem fl_RX8_20 : mw_FL RX8 20 9 6 := ⟨RX8, TX8, 34, "AccessGateModel", rfl, by decide, uin_9, fun U A h => Or.inl (mw_use h kw723 rfl), fun _ _ _ h => h⟩
theorem fp_RX8_20 : mw_FP RX8 20 9 6 (.array .int) true := ⟨RX8, TX8, 34, "AccessGateModel", tyX8, rfl, by decide, uin_9, fun U A h => Or.inl (mw_use h kw723 rfl), fun _ _ _ h => h, tyX8_ok, nmX8, by decide +kernel, rfl, fun _ => rfl⟩
theorem fl_RX8_23 : mw_FL RX8 23 9 7 := ⟨RX8, TX8, 34, "AccessGateModel", rfl, by decide, uin_9, fun U A h => Or.inl (mw_use h kw724 rfl), fun _ _ _ h => h⟩
theorem fp_RX8_23 : mw_FP RX8 23 9 7 (.array .int) true := ⟨RX8, TX8, 34, "AccessGateModel", tyX8, rfl, by decide, uin_9, fun U A h => Or.inl (mw_use h kw724 rfl), fun _ _ _ h => h, tyX8_ok, nmX8, by decide +kernel, rfl, fun _ => rfl⟩
theorem fl_RX8_26 : mw_FL RX8 26 9 8 := ⟨RX8, TX8, 34, "AccessGateModel", rfl, by decide, uin_9, fun U A h => Or.inl (mw_use h kw725 rfl), fun _ _ _ h => h⟩
theorem fp_RX8_26 : mw_FP RX8 26 9 8 (.array .int) true := ⟨RX8, TX8, 34, "AccessGateModel", tyX8, rfl, by decide, uin_9, fun U A h => Or.inl (mw_use h kw725 rfl), fun _ _ _ h => h, tyX8_ok, nmX8, by decide +kernel, rfl, fun _ => rfl⟩
theorem fl_RX8_29 : mw_FL RX8 29 9 9 := ⟨RX8, TX8, 34, "AccessGateModel", rfl, by decide, uin_9, fun U A h => Or.inl (mw_use h kw726 rfl), fun _ _ _ h => h⟩
theorem fp_RX8_29 : mw_FP RX8 29 9 9 (.array .int) true := ⟨RX8, TX8, 34, "AccessGateModel", tyX8, rfl, by decide, uin_9, fun U A h => Or.inl (mw_use h kw726 rfl), fun _ _ _ h => h, tyX8_ok, nmX8, by decide +kernel, rfl, fun _ => rfl⟩
theorem fl_RX8_127 : mw_FL RX8 127 9 10 := ⟨RX8, TX8, 34, "AccessGateModel", rfl, by decide, uin_9, fun U A h => Or.inl (mw_use h kw727 rfl), fun _ _ _ h => h⟩
theorem fp_RX8_127 : mw_FP RX8 127 9 10 (.int) false := ⟨RX8, TX8, 34, "AccessGateModel", tyX8, rfl, by decide, uin_9, fun U A h => Or.inl (mw_use h kw727 rfl), fun _ _ _ h => h, tyX8_ok, nmX8, by decide +kernel, rfl, fun h => nomatch h⟩
theorem fl_RX8_32 : mw_FL RX8 32 9 11 := ⟨RX8, TX8, 34, "AccessGateModel", rfl, by decide, uin_9, fun U A h => Or.inl (mw_use h kw728 rfl), fun _ _ _ h => h⟩
theorem fp_RX8_32 : mw_FP RX8 32 9 11 (.array .int) true := ⟨RX8, TX8, 34, "AccessGateModel", tyX8, rfl, by decide, uin_9, fun U A h => Or.inl (mw_use h kw728 rfl), fun _ _ _ h => h, tyX8_ok, nmX8, by decide +kernel, rfl, fun _ => rfl⟩
theorem fl_RX8_35 : mw_FL RX8 35 9 12 := ⟨RX8, TX8, 34, "AccessGateModel", rfl, by decide, uin_9, fun U A h => Or.inl (mw_use h kw729 rfl), fun _ _ _ h => h⟩
theorem fp_RX8_35 : mw_FP RX8 35 9 12 (.array .int) true := ⟨RX8, TX8, 34, "AccessGateModel", tyX8, rfl, by decide, uin_9, fun U A h => Or.inl (mw_use h kw729 rfl), fun _ _ _ h => h, tyX8_ok, nmX8, by decide +kernel, rfl, fun _ => rfl⟩
theorem fl_RX8_38 : mw_FL RX8 38 9 13 := ⟨RX8, TX8, 34, "AccessGateModel", rfl, by decide, uin_9, fun U A h => Or.inl (mw_use h kw730 rfl), fun _ _ _ h => h⟩
theorem fp_RX8_38 : mw_FP RX8 38 9 13 (.array .int) true := ⟨RX8, TX8, 34, "AccessGateModel", tyX8, rfl, by decide, uin_9, fun U A h => Or.inl (mw_use h kw730 rfl), fun _ _ _ h => h, tyX8_ok, nmX8, by decide +kernel, rfl, fun _ => rfl⟩
theorem fl_RX8_41 : mw_FL RX8 41 9 14 := ⟨RX8, TX8, 34, "AccessGateModel", rfl, by decide, uin_9, fun U A h => Or.inl (mw_use h kw731 rfl), fun _ _ _ h => h⟩
theorem fp_RX8_41 : mw_FP RX8 41 9 14 (.array .int) true := ⟨RX8, TX8, 34, "AccessGateModel", tyX8, rfl, by decide, uin_9, fun U A h => Or.inl (mw_use h kw731 rfl), fun _ _ _ h => h, tyX8_ok, nmX8, by decide +kernel, rfl, fun _ => rfl⟩
theorem fl_RX8_44 : mw_FL RX8 44 9 15 := ⟨RX8, TX8, 34, "AccessGateModel", rfl, by decide, uin_9, fun U A h => Or.inl (mw_use h kw732 rfl), fun _ _ _ h => h⟩
theorem fp_RX8_44 : mw_FP RX8 44 9 15 (.array .int) true := ⟨RX8, TX8, 34, "AccessGateModel", tyX8, rfl, by decide, uin_9, fun U A h => Or.inl (mw_use h kw732 rfl), fun _ _ _ h => h, tyX8_ok, nmX8, by decide +kernel, rfl, fun _ => rfl⟩
theorem fl_RX8_47 : mw_FL RX8 47 9 16 := ⟨RX8, TX8, 34, "AccessGateModel", rfl, by decide, uin_9, fun U A h => Or.inl (mw_use h kw733 rfl), fun _ _ _ h => h⟩
theorem fp_RX8_47 : mw_FP RX8 47 9 16 (.array .int) true := ⟨RX8, TX8, 34, "AccessGateModel", tyX8, rfl, by decide, uin_9, fun U A h => Or.inl (mw_use h kw733 rfl), fun _ _ _ h => h, tyX8_ok, nmX8, by decide +kernel, rfl, fun _ => rfl⟩
theorem fl_RX8_107 : mw_FL RX8 107 9 17 := ⟨RX8, TX8, 34, "AccessGateModel", rfl, by decide, uin_9, fun U A h => Or.inl (mw_use h kw734 rfl), fun _ _ _ h => h⟩
theorem fp_RX8_107 : mw_FP RX8 107 9 17 (.int) false := ⟨RX8, TX8, 34, "AccessGateModel", tyX8, rfl, by decide, uin_9, fun U A h => Or.inl (mw_use h kw734 rfl), fun _ _ _ h => h, tyX8_ok, nmX8, by decide +kernel, rfl, fun h => nomatch h⟩
theorem fl_RX8_50 : mw_FL RX8 50 9 18 := ⟨RX8, TX8, 34, "AccessGateModel", rfl, by decide, uin_9, fun U A h => Or.inl (mw_use h kw735 rfl), fun _ _ _ h => h⟩
theorem fp_RX8_50 : mw_FP RX8 50 9 18 (.array .int) true := ⟨RX8, TX8, 34, "AccessGateModel", tyX8, rfl, by decide, uin_9, fun U A h => Or.inl (mw_use h kw735 rfl), fun _ _ _ h => h, tyX8_ok, nmX8, by decide +kernel, rfl, fun _ => rfl⟩
theorem fl_RX8_53 : mw_FL RX8 53 9 19 := ⟨RX8, TX8, 34, "AccessGateModel", rfl, by decide, uin_9, fun U A h => Or.inl (mw_use h kw736 rfl), fun _ _ _ h => h⟩
theorem fp_RX8_53 : mw_FP RX8 53 9 19 (.array .int) true := ⟨RX8, TX8, 34, "AccessGateModel", tyX8, rfl, by decide, uin_9, fun U A h => Or.inl (mw_use h kw736 rfl), fun _ _ _ h => h, tyX8_ok, nmX8, by decide +kernel, rfl, fun _ => rfl⟩
theorem fl_RX8_56 : mw_FL RX8 56 9 20 := ⟨RX8, TX8, 34, "AccessGateModel", rfl, by decide, uin_9, fun U A h => Or.inl (mw_use h kw737 rfl), fun _ _ _ h => h⟩
theorem fp_RX8_56 : mw_FP RX8 56 9 20 (.array .int) true := ⟨RX8, TX8, 34, "AccessGateModel", tyX8, rfl, by decide, uin_9, fun U A h => Or.inl (mw_use h kw737 rfl), fun _ _ _ h => h, tyX8_ok, nmX8, by decide +kernel, rfl, fun _ => rfl⟩
theorem fl_RX8_59 : mw_FL RX8 59 9 21 := ⟨RX8, TX8, 34, "AccessGateModel", rfl, by decide, uin_9, fun U A h => Or.inl (mw_use h kw738 rfl), fun _ _ _ h => h⟩
theorem fp_RX8_59 : mw_FP RX8 59 9 21 (.array .boolean) true := ⟨RX8, TX8, 34, "AccessGateModel", tyX8, rfl, by decide, uin_9, fun U A h => Or.inl (mw_use h kw738 rfl), fun _ _ _ h => h, tyX8_ok, nmX8, by decide +kernel, rfl, fun _ => rfl⟩
theorem fl_RX8_110 : mw_FL RX8 110 9 22 := ⟨RX8, TX8, 34, "AccessGateModel", rfl, by decide, uin_9, fun U A h => Or.inl (mw_use h kw739 rfl), fun _ _ _ h => h⟩
theorem fp_RX8_110 : mw_FP RX8 110 9 22 (.int) false := ⟨RX8, TX8, 34, "AccessGateModel", tyX8, rfl, by decide, uin_9, fun U A h => Or.inl (mw_use h kw739 rfl), fun _ _ _ h => h, tyX8_ok, nmX8, by decide +kernel, rfl, fun h => nomatch h⟩
theorem fl_RX8_62 : mw_FL RX8 62 9 23 := ⟨RX8, TX8, 34, "AccessGateModel", rfl, by decide, uin_9, fun U A h => Or.inl (mw_use h kw740 rfl), fun _ _ _ h => h⟩
theorem fp_RX8_62 : mw_FP RX8 62 9 23 (.array .int) true := ⟨RX8, TX8, 34, "AccessGateModel", tyX8, rfl, by decide, uin_9, fun U A h => Or.inl (mw_use h kw740 rfl), fun _ _ _ h => h, tyX8_ok, nmX8, by decide +kernel, rfl, fun _ => rfl⟩
theorem fl_RX8_65 : mw_FL RX8 65 9 24 := ⟨RX8, TX8, 34, "AccessGateModel", rfl, by decide, uin_9, fun U A h => Or.inl (mw_use h kw741 rfl), fun _ _ _ h => h⟩
theorem fp_RX8_65 : mw_FP RX8 65 9 24 (.array .int) true := ⟨RX8, TX8, 34, "AccessGateModel", tyX8, rfl, by decide, uin_9, fun U A h => Or.inl (mw_use h kw741 rfl), fun _ _ _ h => h, tyX8_ok, nmX8, by decide +kernel, rfl, fun _ => rfl⟩
theorem fl_RX8_68 : mw_FL RX8 68 9 25 := ⟨RX8, TX8, 34, "AccessGateModel", rfl, by decide, uin_9, fun U A h => Or.inl (mw_use h kw742 rfl), fun _ _ _ h => h⟩
theorem fp_RX8_68 : mw_FP RX8 68 9 25 (.array .boolean) true := ⟨RX8, TX8, 34, "AccessGateModel", tyX8, rfl, by decide, uin_9, fun U A h => Or.inl (mw_use h kw742 rfl), fun _ _ _ h => h, tyX8_ok, nmX8, by decide +kernel, rfl, fun _ => rfl⟩
theorem fl_RX8_71 : mw_FL RX8 71 9 26 := ⟨RX8, TX8, 34, "AccessGateModel", rfl, by decide, uin_9, fun U A h => Or.inl (mw_use h kw743 rfl), fun _ _ _ h => h⟩
theorem fp_RX8_71 : mw_FP RX8 71 9 26 (.array .int) true := ⟨RX8, TX8, 34, "AccessGateModel", tyX8, rfl, by decide, uin_9, fun U A h => Or.inl (mw_use h kw743 rfl), fun _ _ _ h => h, tyX8_ok, nmX8, by decide +kernel, rfl, fun _ => rfl⟩
theorem fl_RX8_74 : mw_FL RX8 74 9 27 := ⟨RX8, TX8, 34, "AccessGateModel", rfl, by decide, uin_9, fun U A h => Or.inl (mw_use h kw744 rfl), fun _ _ _ h => h⟩
theorem fp_RX8_74 : mw_FP RX8 74 9 27 (.array .int) true := ⟨RX8, TX8, 34, "AccessGateModel", tyX8, rfl, by decide, uin_9, fun U A h => Or.inl (mw_use h kw744 rfl), fun _ _ _ h => h, tyX8_ok, nmX8, by decide +kernel, rfl, fun _ => rfl⟩
theorem fl_RX8_77 : mw_FL RX8 77 9 28 := ⟨RX8, TX8, 34, "AccessGateModel", rfl, by decide, uin_9, fun U A h => Or.inl (mw_use h kw745 rfl), fun _ _ _ h => h⟩
theorem fp_RX8_77 : mw_FP RX8 77 9 28 (.array .int) true := ⟨RX8, TX8, 34, "AccessGateModel", tyX8, rfl, by decide, uin_9, fun U A h => Or.inl (mw_use h kw745 rfl), fun _ _ _ h => h, tyX8_ok, nmX8, by decide +kernel, rfl, fun _ => rfl⟩
theorem fl_RX8_113 : mw_FL RX8 113 9 29 := ⟨RX8, TX8, 34, "AccessGateModel", rfl, by decide, uin_9, fun U A h => Or.inl (mw_use h kw746 rfl), fun _ _ _ h => h⟩
theorem fp_RX8_113 : mw_FP RX8 113 9 29 (.int) false := ⟨RX8, TX8, 34, "AccessGateModel", tyX8, rfl, by decide, uin_9, fun U A h => Or.inl (mw_use h kw746 rfl), fun _ _ _ h => h, tyX8_ok, nmX8, by decide +kernel, rfl, fun h => nomatch h⟩
theorem fl_RX8_80 : mw_FL RX8 80 9 30 := ⟨RX8, TX8, 34, "AccessGateModel", rfl, by decide, uin_9, fun U A h => Or.inl (mw_use h kw747 rfl), fun _ _ _ h => h⟩
theorem fp_RX8_80 : mw_FP RX8 80 9 30 (.array .int) true := ⟨RX8, TX8, 34, "AccessGateModel", tyX8, rfl, by decide, uin_9, fun U A h => Or.inl (mw_use h kw747 rfl), fun _ _ _ h => h, tyX8_ok, nmX8, by decide +kernel, rfl, fun _ => rfl⟩
theorem fl_RX8_83 : mw_FL RX8 83 9 31 := ⟨RX8, TX8, 34, "AccessGateModel", rfl, by decide, uin_9, fun U A h => Or.inl (mw_use h kw748 rfl), fun _ _ _ h => h⟩
theorem fp_RX8_83 : mw_FP RX8 83 9 31 (.array .int) true := ⟨RX8, TX8, 34, "AccessGateModel", tyX8, rfl, by decide, uin_9, fun U A h => Or.inl (mw_use h kw748 rfl), fun _ _ _ h => h, tyX8_ok, nmX8, by decide +kernel, rfl, fun _ => rfl⟩
theorem fl_RX8_116 : mw_FL RX8 116 9 32 := ⟨RX8, TX8, 34, "AccessGateModel", rfl, by decide, uin_9, fun U A h => Or.inl (mw_use h kw749 rfl), fun _ _ _ h => h⟩
theorem fp_RX8_116 : mw_FP RX8 116 9 32 (.int) false := ⟨RX8, TX8, 34, "AccessGateModel", tyX8, rfl, by decide, uin_9, fun U A h => Or.inl (mw_use h kw749 rfl), fun _ _ _ h => h, tyX8_ok, nmX8, by decide +kernel, rfl, fun h => nomatch h⟩
theorem fl_RX8_86 : mw_FL RX8 86 9 33 := ⟨RX8, TX8, 34, "AccessGateModel", rfl, by decide, uin_9, fun U A h => Or.inl (mw_use h kw750 rfl), fun _ _ _ h => h⟩
theorem fp_RX8_86 : mw_FP RX8 86 9 33 (.int) false := ⟨RX8, TX8, 34, "AccessGateModel", tyX8, rfl, by decide, uin_9, fun U A h => Or.inl (mw_use h kw750 rfl), fun _ _ _ h => h, tyX8_ok, nmX8, by decide +kernel, rfl, fun h => nomatch h⟩
theorem tx_45_49 : mw_TX RX7 45 49 "java/lang/IllegalArgumentException" ["java/lang/RuntimeException", "java/lang/Exception"] := ⟨by decide, by decide, kw131, kw10, by decide +kernel⟩
theorem tx_56_60 : mw_TX RX7 56 60 "java/lang/IllegalStateException" ["java/lang/RuntimeException", "java/lang/Exception"] := ⟨by decide, by decide, kw203, kw11, by decide +kernel⟩
theorem tx_255_259 : mw_TX RX7 255 259 "java/lang/IndexOutOfBoundsException" ["java/lang/RuntimeException", "java/lang/Exception"] := ⟨by decide, by decide, kw337, kw18, by decide +kernel⟩
end
section
/-! THE STATE: numbers and rows, by the places of the twin's fields; what each call does to it -/
abbrev s_T : Type := (Nat → Nat) × (Nat → Nat → Int32)
def ct (x : s_T) (k : Nat) : Nat := x.1 k
def cg (x : s_T) (k i : Nat) : Int32 := x.2 k i
def ss (x : s_T) (k n : Nat) : s_T := (va_up x.1 k n, x.2)
def cs (x : s_T) (k i : Nat) (v : Int32) : s_T := (x.1, va_up x.2 k (upd (x.2 k) i v))
def cf (x : s_T) (k : Nat) (f : Nat → Int32) : s_T := (x.1, va_up x.2 k f)
theorem ct_ss (x : s_T) (k n j : Nat) : ct (ss x k n) j = if j = k then n else ct x j := rfl
theorem ct_cs (x : s_T) (k i : Nat) (v : Int32) (j : Nat) : ct (cs x k i v) j = ct x j := rfl
theorem ct_cf (x : s_T) (k : Nat) (f : Nat → Int32) (j : Nat) : ct (cf x k f) j = ct x j := rfl
theorem cg_ss (x : s_T) (k n j i : Nat) : cg (ss x k n) j i = cg x j i := rfl
theorem cg_cs (x : s_T) (k i : Nat) (v : Int32) (j z : Nat) : cg (cs x k i v) j z = if j = k then (if z = i then v else cg x j z) else cg x j z := by
  unfold cg cs va_up
  by_cases h : j = k
  · subst h
    simp [upd]
  · simp [h]
theorem cg_cf (x : s_T) (k : Nat) (f : Nat → Int32) (j z : Nat) : cg (cf x k f) j z = if j = k then f z else cg x j z := by
  unfold cg cf va_up
  by_cases h : j = k
  · simp [h]
  · simp [h]
theorem s_ext {x y : s_T} (h1 : ∀ k, ct x k = ct y k) (h2 : ∀ k i, cg x k i = cg y k i) : x = y := Prod.ext (funext h1) (funext fun k => funext fun i => h2 k i)
def bI (b : Bool) : Int32 := if b then 1 else 0
theorem bI_t : bI true = 1 := rfl
theorem bI_f : bI false = 0 := rfl
theorem bI_0 {b : Bool} : bI b = 0 ↔ b = false := by cases b <;> decide
theorem bI_n {b : Bool} : ¬ bI b = 0 ↔ b = true := by cases b <;> decide
theorem bI_nar (b : Bool) : narrow .boolean (.int (bI b)) = .int (bI b) := by cases b <;> decide
theorem bI_vn (b : Bool) : vp_nar .boolean (bI b) = bI b := by cases b <;> decide
def q_in (v lo hi : Int32) : Bool := decide (lo ≤ v) && decide (v ≤ hi)
def q_ix (v : Int32) (n : Nat) : Bool := decide (¬ v < 0) && decide (v.toNatClampNeg < n)
theorem q_ix_iff {v : Int32} {n : Nat} (hn : n < 2 ^ 31) : q_ix v n = true ↔ ∃ j, j < n ∧ v = nI j := by
  unfold q_ix
  rw [Bool.and_eq_true, decide_eq_true_eq, decide_eq_true_eq]
  constructor
  · intro ⟨h1, h2⟩
    obtain ⟨j, hj, e⟩ := nI_of h1
    subst e
    rw [nI_clamp hj] at h2
    exact ⟨j, h2, rfl⟩
  · rintro ⟨j, hj, rfl⟩
    exact ⟨nI_pos (by omega), by rw [nI_clamp (by omega)]; exact hj⟩
theorem q_ix_nI {j n : Nat} (hj : j < 2 ^ 31) : q_ix (nI j) n = decide (j < n) := by
  unfold q_ix
  rw [nI_clamp hj, decide_eq_true (nI_pos hj), Bool.true_and]
def q_code (a b c : Bool) : Int32 := if a then (if b then (if c then 0 else 3) else 2) else 1
abbrev q_now (x : s_T) : Int32 := nI (ct x 5)
def pn (v : Int32) : Nat := v.toNatClampNeg
def q_hold1 (x : s_T) (p m t : Int32) (k : Nat) : Bool := decide (cg x 6 k = p) && decide (cg x 7 k = m) && decide (cg x 8 k ≤ t) && decide (t < cg x 9 k)
def q_hold (x : s_T) (p m t : Int32) : Nat → Bool
  | 0 => false
  | n + 1 => q_hold x p m t n || q_hold1 x p m t n
def q_endf (x : s_T) (p m : Int32) (n : Nat) : Nat → Int32 := fun k => if k < n ∧ q_hold1 x p m (q_now x) k = true then q_now x else cg x 9 k
def q_ends (x : s_T) (p m : Int32) : s_T := cf x 9 (q_endf x p m (ct x 10))
def q_deny1 (x : s_T) (p m : Int32) (k : Nat) : Bool := decide (cg x 11 k = p) && decide (cg x 12 k = m) && decide (cg x 15 k = 0)
def q_denyf (x : s_T) (p m : Int32) (n : Nat) : Nat → Int32 := fun k => if k < n ∧ q_deny1 x p m k = true then 2 else cg x 15 k
def q_denies (x : s_T) (p m : Int32) : s_T := cf x 15 (q_denyf x p m (ct x 17))
def q_over1 (x : s_T) (p : Int32) (k : Nat) : Bool := decide (cg x 18 k = p) && decide (cg x 21 k = 0) && decide (1440 ≤ q_now x - cg x 20 k)
def q_over (x : s_T) (p : Int32) : Nat → Int32
  | 0 => 0
  | n + 1 => q_over x p n + bI (q_over1 x p n)
def q_rem (a b : Int32) : Int32 := a - a / b * b
def q_last (x : s_T) : Int32 := if ct x 32 = 0 then 1 else cg x 31 (ct x 32 - 1)
def q_seal (x : s_T) (kd p m : Int32) : Int32 := q_rem (31 * q_last x + kd + 10 * p + 200 * m + 2000 * q_now x) 1000003
def q_write (x : s_T) (kd p m : Int32) : s_T := ss (cs (cs x 30 (ct x 32) kd) 31 (ct x 32) (q_seal x kd p m)) 32 (ct x 32 + 1)
def q_shut (x : s_T) (k : Nat) : s_T := q_write (cs (cs x 25 k 0) 27 k (-1)) 6 (cg x 23 k) (cg x 24 k)
def q_end1 (x : s_T) (also : Int32) (k : Nat) : Bool := decide (cg x 25 k ≠ 0) && (decide (nI k = also) || (decide (15 ≤ q_now x - cg x 26 k) || !q_hold x (cg x 23 k) (cg x 24 k) (q_now x) (ct x 10)))
def q_close (x : s_T) (also : Int32) : Nat → s_T × Int32
  | 0 => (x, 0)
  | k + 1 => if q_end1 (q_close x also k).1 also k then (q_shut (q_close x also k).1 k, (q_close x also k).2 + 1) else q_close x also k
def q_closes (x : s_T) (also : Int32) : s_T × Int32 := q_close x also (ct x 29)
def q_tick (x : s_T) : Nat → s_T × Int32
  | 0 => (x, 0)
  | j + 1 => ((q_closes (ss (q_tick x j).1 5 (ct (q_tick x j).1 5 + 1)) (-1)).1, (q_tick x j).2 + (q_closes (ss (q_tick x j).1 5 (ct (q_tick x j).1 5 + 1)) (-1)).2)
def q_lap1 (x : s_T) (k : Nat) : Bool := decide (cg x 15 k = 0) && decide (60 ≤ q_now x - cg x 14 k)
def q_lapf (x : s_T) (n : Nat) : Nat → Int32 := fun k => if k < n ∧ q_lap1 x k = true then 3 else cg x 15 k
def q_lapse (x : s_T) : s_T := cf x 15 (q_lapf x (ct x 17))
def q_has (x : s_T) (p m : Int32) : Bool := decide (cg x 1 (4 * pn p + pn (cg x 3 (pn m))) ≠ 0)
def q_both (x : s_T) (p m : Int32) : Bool := q_ix p (ct x 2) && q_ix m (ct x 4)
def q_can (x : s_T) (p m : Int32) : Bool := q_both x p m && (q_has x p m && decide (q_over x p (ct x 22) = 0))
def q_jud (x : s_T) (a b : Int32) : Bool := q_ix a (ct x 17) && (q_ix b (ct x 2) && (decide (cg x 15 (pn a) = 0) && (decide (cg x 0 (pn b) ≠ cg x 0 (pn (cg x 11 (pn a)))) && q_has x b (cg x 12 (pn a)))))
def q_grant (x : s_T) (p m t : Int32) : s_T := ss (cs (cs (cs (cs x 6 (ct x 10) p) 7 (ct x 10) m) 8 (ct x 10) (q_now x)) 9 (ct x 10) (q_now x + t)) 10 (ct x 10 + 1)
def q_strip (x : s_T) (p l : Int32) : Nat → s_T
  | 0 => x
  | k + 1 => if cg (q_strip x p l k) 3 k = l then q_denies (q_ends (q_strip x p l k) p (nI k)) p (nI k) else q_strip x p l k
def q_opn (x : s_T) : Nat → Nat
  | 0 => 0
  | n + 1 => q_opn x n + (if cg x 25 n = 0 then 0 else 1)
/-! each call: its code (0: it returns), its answer, the state behind it -/
def f_addPerson_c (x : s_T) (t : Int32) : Int32 := q_code (q_in t 0 3) (decide (ct x 2 < 12)) true
def f_addPerson_s (x : s_T) (t : Int32) : s_T := ss (cs x 0 (ct x 2) t) 2 (ct x 2 + 1)
def f_addMachine_c (x : s_T) (t : Int32) : Int32 := q_code (q_in t 0 3) (decide (ct x 4 < 8)) true
def f_addMachine_s (x : s_T) (t : Int32) : s_T := ss (cs x 3 (ct x 4) t) 4 (ct x 4 + 1)
def f_setLabel_c (x : s_T) (p l : Int32) : Int32 := q_code (q_ix p (ct x 2)) (q_in l 0 3) true
def f_setLabel_s (x : s_T) (p l : Int32) (h : Bool) : s_T × Int32 := if h then (cs x 1 (4 * pn p + pn l) 1, 0) else q_closes (q_strip (cs x 1 (4 * pn p + pn l) 0) p l (ct x 4)) (-1)
def f_takeAway_c (x : s_T) (p m : Int32) : Int32 := q_code (q_both x p m) true true
def f_takeAway_s (x : s_T) (p m : Int32) : s_T × Int32 := q_closes (q_denies (q_ends x p m) p m) (-1)
def f_ask_c (x : s_T) (p m t : Int32) : Int32 := q_code (q_both x p m) (q_in t 1 600) (q_can x p m)
def f_ask_s (x : s_T) (p m t : Int32) : s_T := q_write (ss (cs (cs (cs (cs (cs (cs x 11 (ct x 17) p) 12 (ct x 17) m) 13 (ct x 17) t) 14 (ct x 17) (q_now x)) 15 (ct x 17) 0) 16 (ct x 17) (-1)) 17 (ct x 17 + 1)) 0 p m
def f_approve_c (x : s_T) (a b : Int32) : Int32 := q_code (q_ix a (ct x 17) && q_ix b (ct x 2)) (q_jud x a b && decide (cg x 16 (pn a) ≠ b)) true
def f_approve_s (x : s_T) (a b : Int32) : s_T × Int32 := if cg x 16 (pn a) = -1 then (cs (q_write x 1 b (cg x 12 (pn a))) 16 (pn a) b, 0) else (q_grant (cs (q_write x 1 b (cg x 12 (pn a))) 15 (pn a) 1) (cg x 11 (pn a)) (cg x 12 (pn a)) (cg x 13 (pn a)), 1)
def f_deny_c (x : s_T) (a b : Int32) : Int32 := q_code (q_ix a (ct x 17) && q_ix b (ct x 2)) (q_jud x a b) true
def f_deny_s (x : s_T) (a b : Int32) : s_T := q_write (cs x 15 (pn a) 2) 2 b (cg x 12 (pn a))
def f_askState_c (x : s_T) (a : Int32) : Int32 := q_code (q_ix a (ct x 17)) true true
def f_enter_c (x : s_T) (p m : Int32) : Int32 := q_code (q_both x p m) (q_can x p m) true
def f_enter_s (x : s_T) (p m : Int32) : s_T := q_write (q_grant (ss (cs (cs (cs x 18 (ct x 22) p) 19 (ct x 22) m) 20 (ct x 22) (q_now x)) 22 (ct x 22 + 1)) p m 30) 3 p m
def f_lookAt_c (x : s_T) (a b : Int32) : Int32 := q_code (q_ix a (ct x 22) && q_ix b (ct x 2)) ((q_ix a (ct x 22) && q_ix b (ct x 2)) && (decide (cg x 21 (pn a) = 0) && decide (cg x 0 (pn b) ≠ cg x 0 (pn (cg x 18 (pn a)))))) true
def f_lookAt_s (x : s_T) (a b : Int32) : s_T := q_write (cs x 21 (pn a) 1) 4 b (cg x 19 (pn a))
def f_overdue_c (x : s_T) (p : Int32) : Int32 := q_code (q_ix p (ct x 2)) true true
def f_couldEnter_c (x : s_T) (p m t : Int32) : Int32 := q_code (q_both x p m) (q_in t 0 100000) true
def f_open_c (x : s_T) (p m : Int32) : Int32 := q_code (q_both x p m) (q_both x p m && q_hold x p m (q_now x) (ct x 10)) true
def f_open_s (x : s_T) (p m : Int32) : s_T := q_write (ss (cs (cs (cs (cs (cs x 23 (ct x 29) p) 24 (ct x 29) m) 25 (ct x 29) 1) 26 (ct x 29) (q_now x)) 27 (ct x 29) (-1)) 29 (ct x 29 + 1)) 5 p m
def f_type_c (x : s_T) (a k : Int32) : Int32 := q_code (q_ix a (ct x 29)) (q_in k 0 2) (q_ix a (ct x 29) && (decide (cg x 25 (pn a) ≠ 0) && decide (cg x 27 (pn a) = -1)))
def f_type_y (x : s_T) (a : Int32) : s_T := q_write (cs x 26 (pn a) (q_now x)) 7 (cg x 23 (pn a)) (cg x 24 (pn a))
def f_type_s (x : s_T) (a k : Int32) : s_T := if k = 0 then cs (f_type_y x a) 28 (pn a) (cg x 28 (pn a) + 1) else if k = 1 then cs (f_type_y x a) 27 (pn a) (q_now x) else (q_closes (q_ends (f_type_y x a) (cg x 23 (pn a)) (cg x 24 (pn a))) a).1
def f_letThrough_c (x : s_T) (a b : Int32) : Int32 := q_code (q_ix a (ct x 29) && q_ix b (ct x 2)) ((q_ix a (ct x 29) && q_ix b (ct x 2)) && (decide (cg x 25 (pn a) ≠ 0) && (decide (cg x 27 (pn a) ≠ -1) && (decide (cg x 0 (pn b) ≠ cg x 0 (pn (cg x 23 (pn a)))) && q_has x b (cg x 24 (pn a)))))) true
def f_letThrough_s (x : s_T) (a b : Int32) : s_T := q_write (cs (cs x 27 (pn a) (-1)) 28 (pn a) (cg x 28 (pn a) + 1)) 8 b (cg x 24 (pn a))
def f_close_c (x : s_T) (a : Int32) : Int32 := q_code (q_ix a (ct x 29)) (q_ix a (ct x 29) && decide (cg x 25 (pn a) ≠ 0)) true
def f_isOpen_c (x : s_T) (a : Int32) : Int32 := q_code (q_ix a (ct x 29)) true true
def f_pass_c (x : s_T) (t : Int32) : Int32 := q_code (q_in t 1 3000) (q_in t 1 3000 && decide (q_now x + t ≤ 100000)) true
def f_pass_s (x : s_T) (t : Int32) : s_T := q_lapse (q_tick x (pn t)).1
def f_kind_c (x : s_T) (a : Int32) : Int32 := q_code (q_ix a (ct x 32)) true true
/-! what stays so: bounds, and rows that name people and machines that there are -/
def q_ref (v : Int32) (n : Nat) : Prop := ∃ j : Nat, j < n ∧ v = nI j
def q_inv (N : Nat) (x : s_T) : Prop :=
  (ct x 2 ≤ 12 ∧ ct x 4 ≤ 8 ∧ ct x 5 ≤ 100000 ∧ ct x 10 ≤ N ∧ ct x 17 ≤ N ∧ ct x 22 ≤ N ∧ ct x 29 ≤ N ∧ ct x 32 + q_opn x (ct x 29) ≤ 2 * N) ∧
  (∀ k, k < ct x 4 → q_ref (cg x 3 k) 4) ∧
  (∀ k, k < ct x 10 → q_ref (cg x 6 k) (ct x 2) ∧ q_ref (cg x 7 k) (ct x 4)) ∧
  (∀ k, k < ct x 17 → q_ref (cg x 11 k) (ct x 2) ∧ q_ref (cg x 12 k) (ct x 4) ∧ q_ref (cg x 14 k) (ct x 5 + 1) ∧ (cg x 16 k = -1 ∨ q_ref (cg x 16 k) (ct x 2))) ∧
  (∀ k, k < ct x 22 → q_ref (cg x 18 k) (ct x 2) ∧ q_ref (cg x 19 k) (ct x 4)) ∧
  (∀ k, k < ct x 29 → q_ref (cg x 23 k) (ct x 2) ∧ q_ref (cg x 24 k) (ct x 4)) ∧
  (∀ k, ct x 22 ≤ k → cg x 21 k = 0) ∧ (∀ k, ct x 29 ≤ k → cg x 28 k = 0) ∧ (∀ k, cg x 1 k = 0 ∨ cg x 1 k = 1)
end
section
/-! THE TWIN'S WORLD: one object, its numbers, its rows -/
def k_ar (k : Nat) : Option (Nat × Nat) := match k with
  | 0 => some (0, 12)
  | 1 => some (1, 48)
  | 2 => none
  | 3 => some (0, 8)
  | 4 => none
  | 5 => none
  | 10 => none
  | 17 => none
  | 21 => some (1, 2000)
  | 22 => none
  | 25 => some (1, 2000)
  | 29 => none
  | 30 => some (0, 8000)
  | 31 => some (0, 8000)
  | 32 => none
  | 33 => none
  | _ => some (0, 2000)
def mfl (ad : Nat → Nat) (x : s_T) (lst : Int32) : List Value := [.ref (ad 0), .ref (ad 1), .int (nI (ct x 2)), .ref (ad 3), .int (nI (ct x 4)), .int (nI (ct x 5)), .ref (ad 6), .ref (ad 7), .ref (ad 8), .ref (ad 9), .int (nI (ct x 10)), .ref (ad 11), .ref (ad 12), .ref (ad 13), .ref (ad 14), .ref (ad 15), .ref (ad 16), .int (nI (ct x 17)), .ref (ad 18), .ref (ad 19), .ref (ad 20), .ref (ad 21), .int (nI (ct x 22)), .ref (ad 23), .ref (ad 24), .ref (ad 25), .ref (ad 26), .ref (ad 27), .ref (ad 28), .int (nI (ct x 29)), .ref (ad 30), .ref (ad 31), .int (nI (ct x 32)), .int lst]
def MA (G : mw_G) (hm : Nat) (ad : Nat → Nat) (x : s_T) (lst : Int32) (M : mw_M) : Prop :=
  M hm = some (.inr (9, mfl ad x lst)) ∧ (∀ (k : Nat) (q : Nat × Nat), k_ar k = some q → k < 34 → M (ad k) = some (.inl (G.2.1 q.1, q.2, .inl (cg x k)))) ∧ (∀ (j k : Nat) (q r : Nat × Nat), k_ar j = some q → k_ar k = some r → j < 34 → k < 34 → ad j = ad k → j = k)
theorem MA.arr {G : mw_G} {hm : Nat} {ad : Nat → Nat} {x : s_T} {lst : Int32} {M : mw_M} (h : MA G hm ad x lst M) {k : Nat} {q : Nat × Nat} (hq : k_ar k = some q) (hk : k < 34) (j : Nat) (v : Int32) : MA G hm ad (cs x k j v) lst (va_up M (ad k) (some (.inl (G.2.1 q.1, q.2, .inl (upd (cg x k) j v))))) := by
  refine ⟨?_, fun i r hr hi => ?_, h.2.2⟩
  · rw [va_up_ne _ _ (mw_ne h.1 (h.2.1 k q hq hk) (fun z => by cases z))]
    exact h.1
  · by_cases hik : i = k
    · subst hik
      rw [va_up_self]
      cases hq.symm.trans hr
      have e : cg (cs x i j v) i = upd (cg x i) j v := by
        funext z
        rw [cg_cs, if_pos rfl]
        rfl
      rw [e]
    · rw [va_up_ne _ _ (fun z => hik (h.2.2 i k r q hr hq hi hk z)), h.2.1 i r hr hi]
      have e : cg (cs x k j v) i = cg x i := by
        funext z
        rw [cg_cs, if_neg hik]
      rw [e]
theorem MA.num {G : mw_G} {hm : Nat} {ad : Nat → Nat} {x : s_T} {lst : Int32} {M : mw_M} (h : MA G hm ad x lst M) {y : s_T} {lst' : Int32} {k : Nat} {v : Value} (hf : (mfl ad x lst).set k v = mfl ad y lst') (hy : ∀ k i, cg y k i = cg x k i) : MA G hm ad y lst' (va_up M hm (some (.inr (9, (mfl ad x lst).set k v)))) := by
  refine ⟨by rw [va_up_self, hf], fun i r hr hi => ?_, h.2.2⟩
  rw [va_up_ne _ _ (mw_ne (h.2.1 i r hr hi) h.1 (fun z => by cases z)), h.2.1 i r hr hi]
  rw [show cg y i = cg x i from funext fun z => hy i z]
def k_num (k : Nat) : Bool := [2, 4, 5, 10, 17, 22, 29, 32].contains k
theorem mfl_set {ad : Nat → Nat} {x : s_T} {lst : Int32} {k n : Nat} (hk : k_num k = true) : (mfl ad x lst).set k (.int (nI n)) = mfl ad (ss x k n) lst := by
  have h : k ∈ [2, 4, 5, 10, 17, 22, 29, 32] := by
    unfold k_num at hk
    exact List.contains_iff_mem.mp hk
  simp only [List.mem_cons, List.not_mem_nil, or_false] at h
  rcases h with rfl | rfl | rfl | rfl | rfl | rfl | rfl | rfl <;> rfl
section MM
variable {p : Program} {l : Launch} {e : Env} {R : Room} {s : State} {m : MethodId} {args : Array Value} {below : List Frame} {meth : Method} {c : Code} {H : Heap} {locs : List Loc} {cells slots : Nat} {Q : State → Prop}
variable {cc : ByteArray} {pc maxL : Nat} {own : String} {ls : Array Slot} {rest : List Value} {A : Nat → Prop} {G : mw_G} {M : mw_M} {hm : Nat} {ad : Nat → Nat} {x : s_T} {lst : Int32}
theorem mm_iald (X : mw_B p l s m meth c cc maxL own G A) (hT : mw_T G A s M H locs) (hM : MA G hm ad x lst M) {k N j : Nat} (hk : k_ar k = some (0, N)) (hk2 : k < 34) (hN : N < 2 ^ 31) (hj : j < N) (hdg : decode cc pc = .ok (.iaload, 1))
    (kk : W p l e R s m args below meth c H locs cells slots Q (F0 m (pc + 1) ls (.int (cg x k j) :: rest))) : W p l e R s m args below meth c H locs cells slots Q (F0 m pc ls (.int (nI j) :: .ref (ad k) :: rest)) := by
  refine mr_iald X hT (hM.2.1 k _ hk hk2) (vp_in_nI hj hN) hdg ?_
  rw [nI_clamp (by omega)]
  exact kk
theorem mm_zald (X : mw_B p l s m meth c cc maxL own G A) (hT : mw_T G A s M H locs) (hM : MA G hm ad x lst M) {k N j : Nat} (hk : k_ar k = some (1, N)) (hk2 : k < 34) (hN : N < 2 ^ 31) (hj : j < N) (hdg : decode cc pc = .ok (.baload, 1))
    (kk : W p l e R s m args below meth c H locs cells slots Q (F0 m (pc + 1) ls (.int (cg x k j) :: rest))) : W p l e R s m args below meth c H locs cells slots Q (F0 m pc ls (.int (nI j) :: .ref (ad k) :: rest)) := by
  refine mr_zald X hT (hM.2.1 k _ hk hk2) (vp_in_nI hj hN) hdg ?_
  rw [nI_clamp (by omega)]
  exact kk
theorem mm_iast (X : mw_B p l s m meth c cc maxL own G A) (hT : mw_T G A s M H locs) (hM : MA G hm ad x lst M) {k N j : Nat} (hk : k_ar k = some (0, N)) (hk2 : k < 34) (hN : N < 2 ^ 31) (hj : j < N) {v : Int32} (hdg : decode cc pc = .ok (.iastore, 1))
    (kk : ∀ (M1 : mw_M) (H1 : Heap) (locs1 : List Loc), MA G hm ad (cs x k j v) lst M1 → mw_T G A s M1 H1 locs1 → W p l e R s m args below meth c H1 locs1 cells slots Q (F0 m (pc + 1) ls rest)) : W p l e R s m args below meth c H locs cells slots Q (F0 m pc ls (.int v :: .int (nI j) :: .ref (ad k) :: rest)) := by
  refine mr_iast X hT (hM.2.1 k _ hk hk2) (vp_in_nI hj hN) hdg (fun H1 locs1 hT1 => ?_)
  rw [nI_clamp (by omega)] at hT1
  exact kk _ H1 locs1 (hM.arr hk hk2 j v) hT1
theorem mm_zast (X : mw_B p l s m meth c cc maxL own G A) (hT : mw_T G A s M H locs) (hM : MA G hm ad x lst M) {k N j : Nat} (hk : k_ar k = some (1, N)) (hk2 : k < 34) (hN : N < 2 ^ 31) (hj : j < N) {v : Int32} (hv : vp_nar .boolean v = v) (hdg : decode cc pc = .ok (.bastore, 1))
    (kk : ∀ (M1 : mw_M) (H1 : Heap) (locs1 : List Loc), MA G hm ad (cs x k j v) lst M1 → mw_T G A s M1 H1 locs1 → W p l e R s m args below meth c H1 locs1 cells slots Q (F0 m (pc + 1) ls rest)) : W p l e R s m args below meth c H locs cells slots Q (F0 m pc ls (.int v :: .int (nI j) :: .ref (ad k) :: rest)) := by
  refine mr_zast X hT (hM.2.1 k _ hk hk2) (vp_in_nI hj hN) hdg (fun H1 locs1 hT1 => ?_)
  rw [nI_clamp (by omega), hv] at hT1
  exact kk _ H1 locs1 (hM.arr hk hk2 j v) hT1
theorem mm_put (X : mw_B p l s m meth c cc maxL own G A) (hT : mw_T G A s M H locs) (hM : MA G hm ad x lst M) {index k : Nat} (hF : mw_FP own index 9 k .int false) (hk : k_num k = true) (n : Nat) {v : Int32} (hv : v = nI n) (hdg : decode cc pc = .ok (.putfield index, 3))
    (kk : ∀ (M1 : mw_M) (H1 : Heap) (locs1 : List Loc), MA G hm ad (ss x k n) lst M1 → mw_T G A s M1 H1 locs1 → W p l e R s m args below meth c H1 locs1 cells slots Q (F0 m (pc + 3) ls rest)) : W p l e R s m args below meth c H locs cells slots Q (F0 m pc ls (.int v :: .ref hm :: rest)) := by
  subst hv
  have hk3 : k < 34 := by
    obtain ⟨C, T, N, ref, ty0, hc, hk, -⟩ := hF
    cases hc
    exact hk
  exact mr_put X hT hF (fun h => nomatch h) hM.1 rfl rfl hk3 hdg (fun H1 locs1 hT1 => kk _ H1 locs1 (hM.num (mfl_set hk) (fun _ _ => rfl)) hT1)
theorem mm_putL (X : mw_B p l s m meth c cc maxL own G A) (hT : mw_T G A s M H locs) (hM : MA G hm ad x lst M) {index : Nat} (hF : mw_FP own index 9 33 .int false) {v : Int32} (hdg : decode cc pc = .ok (.putfield index, 3))
    (kk : ∀ (M1 : mw_M) (H1 : Heap) (locs1 : List Loc), MA G hm ad x v M1 → mw_T G A s M1 H1 locs1 → W p l e R s m args below meth c H1 locs1 cells slots Q (F0 m (pc + 3) ls rest)) : W p l e R s m args below meth c H locs cells slots Q (F0 m pc ls (.int v :: .ref hm :: rest)) :=
  mr_put X hT hF (fun h => nomatch h) hM.1 rfl rfl (by show 33 < 34; decide) hdg (fun H1 locs1 hT1 => kk _ H1 locs1 (hM.num rfl (fun _ _ => rfl)) hT1)
/-- another way to write a number on the stack -/
theorem mm_top {v w : Int32} (h : v = w) (kk : W p l e R s m args below meth c H locs cells slots Q (F0 m pc ls (.int w :: rest))) : W p l e R s m args below meth c H locs cells slots Q (F0 m pc ls (.int v :: rest)) := h ▸ kk
end MM
end
section
/-! joins and counted loops -/
theorem q_in_ix {v : Int32} {n : Nat} (hn : n < 2 ^ 31) : q_in v 0 (nI n - 1) = q_ix v n := by
  cases n with
  | zero =>
    rw [show nI 0 - 1 = (-1 : Int32) from rfl]
    unfold q_in q_ix
    rw [show decide (v.toNatClampNeg < 0) = false from decide_eq_false (Nat.not_lt_zero _), Bool.and_false]
    by_cases h : (0 : Int32) ≤ v
    · have h2 : ¬ v ≤ -1 := fun z => by
        have a := Int32.le_iff_toInt_le.mp h
        have b := Int32.le_iff_toInt_le.mp z
        have e0 : (0 : Int32).toInt = 0 := rfl
        have e1 : (-1 : Int32).toInt = -1 := rfl
        omega
      simp [h2]
    · simp [h]
  | succ n =>
    rw [nI_pred]
    by_cases h : v < 0
    · have h1 : ¬ (0 : Int32) ≤ v := Int32.not_le.mpr h
      unfold q_in q_ix
      simp [h1, h]
    · obtain ⟨j, hj, rfl⟩ := nI_of h
      unfold q_in q_ix
      rw [nI_clamp hj, decide_eq_true (nI_pos hj), Bool.true_and, decide_eq_true (nI_pos' hj), Bool.true_and]
      exact decide_eq_decide.mpr ((nI_leI hj (by omega)).trans (by omega))
theorem mm_exit {k n : Nat} (hk : k ≤ n) (hn : n < 2 ^ 31) (c : nI n ≤ nI k) : k = n := by
  have h := (nI_leI hn (by omega)).mp c
  omega
theorem mm_stay {k n : Nat} (hk : k ≤ n) (hn : n < 2 ^ 31) (c : ¬ nI n ≤ nI k) : k < n := by
  rcases Nat.lt_or_ge k n with h | h
  · exact h
  · exact absurd (nI_le h (by omega)) c
theorem mm_inc (k : Nat) : nI k + Int32.ofInt 1 = nI (k + 1) := nI_1 k
theorem mm_le0 {v : Int32} (h : ¬ v < 0) : (0 : Int32) ≤ v := Int32.not_lt.mp h
section MJ
variable {p : Program} {l : Launch} {e : Env} {R : Room} {s : State} {m : MethodId} {args : Array Value} {below : List Frame} {meth : Method} {c : Code} {H : Heap} {locs : List Loc} {cells slots : Nat} {Q : State → Prop}
variable {pc : Nat} {ls : Array Slot} {st : List Value} {A : Nat → Prop} {G : mw_G} {M : mw_M}
theorem mw_join (hT0 : mw_T G A s M H locs) (pcJ : Nat) (k n : Nat) (P : Int32 → mw_M → Prop) (J : ∀ (r : Int32) (M1 : mw_M) (H1 : Heap) (locs1 : List Loc), P r M1 → mw_T G A s M1 H1 locs1 → W p l e R s m args below meth c H1 locs1 k n Q (F0 m pcJ ls (.int r :: st))) (K : (∀ (r : Int32) (M1 : mw_M) (H1 : Heap) (locs1 : List Loc), P r M1 → mw_T G A s M1 H1 locs1 → W p l e R s m args below meth c H1 locs1 k n Q (F0 m pcJ ls (.int r :: st))) → W p l e R s m args below meth c H locs cells slots Q (F0 m pc ls st)) : W p l e R s m args below meth c H locs cells slots Q (F0 m pc ls st) := K J
/-- a join with no value -/
theorem mw_joinN (hT0 : mw_T G A s M H locs) (pcJ : Nat) (k n : Nat) (P : mw_M → Prop) (J : ∀ (M1 : mw_M) (H1 : Heap) (locs1 : List Loc), P M1 → mw_T G A s M1 H1 locs1 → W p l e R s m args below meth c H1 locs1 k n Q (F0 m pcJ ls st)) (K : (∀ (M1 : mw_M) (H1 : Heap) (locs1 : List Loc), P M1 → mw_T G A s M1 H1 locs1 → W p l e R s m args below meth c H1 locs1 k n Q (F0 m pcJ ls st)) → W p l e R s m args below meth c H locs cells slots Q (F0 m pc ls st)) : W p l e R s m args below meth c H locs cells slots Q (F0 m pc ls st) := K J
theorem mw_loop {pcH nL n : Nat} (P : Nat → mw_M → Prop) (LV : Nat → List (Nat × Value))
    (step : ∀ k : Nat, k ≤ n → (k < n → ∀ (M1 : mw_M) (H1 : Heap) (locs1 : List Loc) (ls1 : Array Slot), P (k + 1) M1 → mw_T G A s M1 H1 locs1 → lv_has ls1 nL (LV (k + 1)) → W p l e R s m args below meth c H1 locs1 cells slots Q (F0 m pcH ls1 st)) →
      ∀ (M1 : mw_M) (H1 : Heap) (locs1 : List Loc) (ls1 : Array Slot), P k M1 → mw_T G A s M1 H1 locs1 → lv_has ls1 nL (LV k) → W p l e R s m args below meth c H1 locs1 cells slots Q (F0 m pcH ls1 st))
    (h0 : P 0 M) (hT : mw_T G A s M H locs) (hl : lv_has ls nL (LV 0)) : W p l e R s m args below meth c H locs cells slots Q (F0 m pcH ls st) := by
  have key : ∀ (d k : Nat), k ≤ n → n - k = d → ∀ (M1 : mw_M) (H1 : Heap) (locs1 : List Loc) (ls1 : Array Slot), P k M1 → mw_T G A s M1 H1 locs1 → lv_has ls1 nL (LV k) → W p l e R s m args below meth c H1 locs1 cells slots Q (F0 m pcH ls1 st) := by
    intro d
    induction d with
    | zero => intro k hk hd; exact step k hk (fun h => absurd h (by omega))
    | succ d ih => intro k hk hd; exact step k hk (fun h => ih (k + 1) h (by omega))
  exact key (n - 0) 0 (Nat.zero_le _) rfl M H locs ls h0 hT hl
end MJ
end
section
/-! about the state: counted rows, closing -/
theorem q_step {F : Nat → Nat → Int32} {x : s_T} {c k : Nat} (hF : ∀ z, z ≠ k → F (k + 1) z = F k z) : cs (cf x c (F k)) c k (F (k + 1) k) = cf x c (F (k + 1)) := by
  refine s_ext (fun j => rfl) (fun j z => ?_)
  rw [cg_cs, cg_cf, cg_cf]
  by_cases hj : j = c
  · rw [if_pos hj, if_pos hj, if_pos hj]
    by_cases hz : z = k
    · rw [if_pos hz, hz]
    · rw [if_neg hz, hF z hz]
  · rw [if_neg hj, if_neg hj, if_neg hj]
theorem q_same {x : s_T} {c : Nat} {f : Nat → Int32} (h : ∀ z, f z = cg x c z) : cf x c f = x := by
  refine s_ext (fun j => rfl) (fun j z => ?_)
  rw [cg_cf]
  by_cases hj : j = c
  · rw [if_pos hj, hj, h z]
  · rw [if_neg hj]
theorem q_endf_s (x : s_T) (p m : Int32) (k : Nat) : cs (cf x 9 (q_endf x p m k)) 9 k (q_endf x p m (k + 1) k) = cf x 9 (q_endf x p m (k + 1)) := q_step (F := q_endf x p m) (fun z hz => by
  unfold q_endf
  by_cases h : q_hold1 x p m (q_now x) z = true
  · simp only [h, and_true]
    by_cases h2 : z < k
    · rw [if_pos h2, if_pos (by omega)]
    · rw [if_neg h2, if_neg (by omega)]
  · simp [h])
theorem q_endf_0 (x : s_T) (p m : Int32) : cf x 9 (q_endf x p m 0) = x := q_same (fun z => by unfold q_endf; rw [if_neg (fun h => absurd h.1 (Nat.not_lt_zero _))])
theorem q_endf_k (x : s_T) (p m : Int32) (k : Nat) : cg (cf x 9 (q_endf x p m k)) 9 k = cg x 9 k := by
  rw [cg_cf, if_pos rfl]
  unfold q_endf
  rw [if_neg (fun h => absurd h.1 (Nat.lt_irrefl _))]
theorem q_denyf_s (x : s_T) (p m : Int32) (k : Nat) : cs (cf x 15 (q_denyf x p m k)) 15 k (q_denyf x p m (k + 1) k) = cf x 15 (q_denyf x p m (k + 1)) := q_step (F := q_denyf x p m) (fun z hz => by
  unfold q_denyf
  by_cases h : q_deny1 x p m z = true
  · simp only [h, and_true]
    by_cases h2 : z < k
    · rw [if_pos h2, if_pos (by omega)]
    · rw [if_neg h2, if_neg (by omega)]
  · simp [h])
theorem q_denyf_0 (x : s_T) (p m : Int32) : cf x 15 (q_denyf x p m 0) = x := q_same (fun z => by unfold q_denyf; rw [if_neg (fun h => absurd h.1 (Nat.not_lt_zero _))])
theorem q_denyf_k (x : s_T) (p m : Int32) (k : Nat) : cg (cf x 15 (q_denyf x p m k)) 15 k = cg x 15 k := by
  rw [cg_cf, if_pos rfl]
  unfold q_denyf
  rw [if_neg (fun h => absurd h.1 (Nat.lt_irrefl _))]
theorem q_lapf_s (x : s_T) (k : Nat) : cs (cf x 15 (q_lapf x k)) 15 k (q_lapf x (k + 1) k) = cf x 15 (q_lapf x (k + 1)) := q_step (F := q_lapf x) (fun z hz => by
  unfold q_lapf
  by_cases h : q_lap1 x z = true
  · simp only [h, and_true]
    by_cases h2 : z < k
    · rw [if_pos h2, if_pos (by omega)]
    · rw [if_neg h2, if_neg (by omega)]
  · simp [h])
theorem q_lapf_0 (x : s_T) : cf x 15 (q_lapf x 0) = x := q_same (fun z => by unfold q_lapf; rw [if_neg (fun h => absurd h.1 (Nat.not_lt_zero _))])
theorem q_lapf_k (x : s_T) (k : Nat) : cg (cf x 15 (q_lapf x k)) 15 k = cg x 15 k := by
  rw [cg_cf, if_pos rfl]
  unfold q_lapf
  rw [if_neg (fun h => absurd h.1 (Nat.lt_irrefl _))]
theorem q_close_t {x : s_T} {a : Int32} {k : Nat} (h : q_end1 (q_close x a k).1 a k = true) : q_close x a (k + 1) = (q_shut (q_close x a k).1 k, (q_close x a k).2 + 1) := by
  rw [q_close, if_pos h]
theorem q_close_f {x : s_T} {a : Int32} {k : Nat} (h : q_end1 (q_close x a k).1 a k = false) : q_close x a (k + 1) = q_close x a k := by
  rw [q_close, if_neg (by rw [h]; exact fun z => by cases z)]
/-- what closing leaves alone -/
def q_al (x y : s_T) : Prop := (∀ k, k ≠ 32 → ct y k = ct x k) ∧ ∀ k, k ≠ 25 → k ≠ 27 → k ≠ 30 → k ≠ 31 → ∀ i, cg y k i = cg x k i
theorem q_al.rf (x : s_T) : q_al x x := ⟨fun _ _ => rfl, fun _ _ _ _ _ _ => rfl⟩
theorem q_al.tr {x y z : s_T} (h1 : q_al x y) (h2 : q_al y z) : q_al x z := ⟨fun k hk => (h2.1 k hk).trans (h1.1 k hk), fun k a b c d i => (h2.2 k a b c d i).trans (h1.2 k a b c d i)⟩
theorem q_al_write (x : s_T) (kd p m : Int32) : q_al x (q_write x kd p m) := by
  refine ⟨fun k hk => ?_, fun k a b c d i => ?_⟩
  · unfold q_write
    rw [ct_ss, if_neg hk]
    rfl
  · unfold q_write
    rw [cg_ss, cg_cs, if_neg d, cg_cs, if_neg c]
theorem q_al_shut (x : s_T) (k : Nat) : q_al x (q_shut x k) := by
  refine q_al.tr (y := cs (cs x 25 k 0) 27 k (-1)) ⟨fun _ _ => rfl, fun j a b c d i => ?_⟩ (q_al_write _ _ _ _)
  rw [cg_cs, if_neg b, cg_cs, if_neg a]
theorem q_al_close (x : s_T) (a : Int32) : ∀ k, q_al x (q_close x a k).1
  | 0 => q_al.rf x
  | k + 1 => by
    by_cases h : q_end1 (q_close x a k).1 a k = true
    · rw [q_close_t h]
      exact (q_al_close x a k).tr (q_al_shut _ _)
    · rw [q_close_f (Bool.eq_false_iff.mpr h)]
      exact q_al_close x a k
theorem q_opn_congr {x y : s_T} : ∀ {n : Nat}, (∀ k, k < n → (cg x 25 k = 0 ↔ cg y 25 k = 0)) → q_opn x n = q_opn y n
  | 0, _ => rfl
  | n + 1, h => by
    rw [q_opn, q_opn, q_opn_congr (fun k hk => h k (by omega))]
    have h1 := h n (by omega)
    by_cases h2 : cg x 25 n = 0
    · rw [if_pos h2, if_pos (h1.mp h2)]
    · rw [if_neg h2, if_neg (fun z => h2 (h1.mpr z))]
theorem q_opn_off {x y : s_T} {i : Nat} (hi : cg x 25 i ≠ 0) (hy : ∀ k, cg y 25 k = if k = i then 0 else cg x 25 k) : ∀ {n : Nat}, i < n → q_opn y n + 1 = q_opn x n
  | 0, h => absurd h (Nat.not_lt_zero _)
  | n + 1, h => by
    rw [q_opn, q_opn]
    by_cases hn : n = i
    · subst hn
      rw [hy n, if_pos rfl, if_pos rfl, if_neg hi, q_opn_congr (x := y) (y := x) (fun k hk => by rw [hy k, if_neg (by omega)])]
    · rw [hy n, if_neg hn]
      have := q_opn_off hi hy (n := n) (by omega)
      omega
theorem q_inv_al {N : Nat} {x y : s_T} (h : q_inv N x) (ha : q_al x y) (hs : ct y 32 + q_opn y (ct y 29) ≤ 2 * N) : q_inv N y := by
  obtain ⟨⟨i2, i4, i5, i10, i17, i22, i29, i32⟩, hr3, hr6, hr11, hr18, hr23, hz21, hz28, hlb⟩ := h
  obtain ⟨a1, a2⟩ := ha
  have e2 := a1 2 (by decide)
  have e4 := a1 4 (by decide)
  have e5 := a1 5 (by decide)
  have e10 := a1 10 (by decide)
  have e17 := a1 17 (by decide)
  have e22 := a1 22 (by decide)
  have e29 := a1 29 (by decide)
  have g : ∀ k, k ≠ 25 → k ≠ 27 → k ≠ 30 → k ≠ 31 → cg y k = cg x k := fun k a b c d => funext fun i => a2 k a b c d i
  refine ⟨⟨by omega, by omega, by omega, by omega, by omega, by omega, by omega, hs⟩, ?_, ?_, ?_, ?_, ?_, ?_, ?_, ?_⟩
  · rw [e4, g 3 (by decide) (by decide) (by decide) (by decide)]; exact hr3
  · rw [e10, e2, e4, g 6 (by decide) (by decide) (by decide) (by decide), g 7 (by decide) (by decide) (by decide) (by decide)]; exact hr6
  · rw [e17, e2, e4, e5, g 11 (by decide) (by decide) (by decide) (by decide), g 12 (by decide) (by decide) (by decide) (by decide), g 14 (by decide) (by decide) (by decide) (by decide), g 16 (by decide) (by decide) (by decide) (by decide)]; exact hr11
  · rw [e22, e2, e4, g 18 (by decide) (by decide) (by decide) (by decide), g 19 (by decide) (by decide) (by decide) (by decide)]; exact hr18
  · rw [e29, e2, e4, g 23 (by decide) (by decide) (by decide) (by decide), g 24 (by decide) (by decide) (by decide) (by decide)]; exact hr23
  · rw [e22, g 21 (by decide) (by decide) (by decide) (by decide)]; exact hz21
  · rw [e29, g 28 (by decide) (by decide) (by decide) (by decide)]; exact hz28
  · rw [g 1 (by decide) (by decide) (by decide) (by decide)]; exact hlb
theorem q_shut_25 (x : s_T) (k j : Nat) : cg (q_shut x k) 25 j = if j = k then 0 else cg x 25 j := by
  unfold q_shut q_write
  rw [cg_ss, cg_cs, if_neg (by decide), cg_cs, if_neg (by decide), cg_cs, if_neg (by decide), cg_cs, if_pos rfl]
theorem q_shut_32 (x : s_T) (k : Nat) : ct (q_shut x k) 32 = ct x 32 + 1 := rfl
theorem q_shut_29 (x : s_T) (k : Nat) : ct (q_shut x k) 29 = ct x 29 := rfl
theorem q_inv_shut {N : Nat} {x : s_T} {k : Nat} (h : q_inv N x) (hk : k < ct x 29) (ho : cg x 25 k ≠ 0) : q_inv N (q_shut x k) := by
  refine q_inv_al h (q_al_shut x k) ?_
  have h1 := q_opn_off ho (q_shut_25 x k) hk
  have h2 := h.1.2.2.2.2.2.2.2
  rw [q_shut_32, q_shut_29]
  omega
theorem q_end1_o {x : s_T} {a : Int32} {k : Nat} (h : q_end1 x a k = true) : cg x 25 k ≠ 0 := by
  unfold q_end1 at h
  rw [Bool.and_eq_true] at h
  exact of_decide_eq_true h.1
theorem q_inv_close {N : Nat} {x : s_T} (h : q_inv N x) (a : Int32) : ∀ k, k ≤ ct x 29 → q_inv N (q_close x a k).1
  | 0, _ => h
  | k + 1, hk => by
    have ih := q_inv_close h a k (by omega)
    by_cases hq : q_end1 (q_close x a k).1 a k = true
    · rw [q_close_t hq]
      refine q_inv_shut ih ?_ (q_end1_o hq)
      rw [(q_al_close x a k).1 29 (by decide)]
      omega
    · rw [q_close_f (Bool.eq_false_iff.mpr hq)]
      exact ih
theorem pn_nI {n : Nat} (h : n < 2 ^ 31) : pn (nI n) = n := nI_clamp h
end
section
theorem q_code_ok {a b c : Bool} (h : q_code a b c = 0) : a = true ∧ b = true ∧ c = true := by
  revert h
  cases a <;> cases b <;> cases c <;> decide
theorem q_in_of {v : Int32} {lo hi : Nat} (hh : hi < 2 ^ 31) (h : q_in v (nI lo) (nI hi) = true) (hl : lo < 2 ^ 31) : ∃ j, lo ≤ j ∧ j ≤ hi ∧ v = nI j := by
  unfold q_in at h
  rw [Bool.and_eq_true, decide_eq_true_eq, decide_eq_true_eq] at h
  have h0 : ¬ v < 0 := fun z => by
    have a := Int32.le_iff_toInt_le.mp h.1
    have b := Int32.lt_iff_toInt_lt.mp z
    rw [nI_toInt hl] at a
    have e0 : (0 : Int32).toInt = 0 := rfl
    omega
  obtain ⟨j, hj, rfl⟩ := nI_of h0
  exact ⟨j, (nI_leI hl hj).mp h.1, (nI_leI hj hh).mp h.2, rfl⟩
theorem q_inv_mono {N K : Nat} {x : s_T} (h : q_inv N x) (hk : N ≤ K) : q_inv K x := by
  obtain ⟨⟨i2, i4, i5, i10, i17, i22, i29, i32⟩, hr⟩ := h
  exact ⟨⟨i2, i4, i5, by omega, by omega, by omega, by omega, by omega⟩, hr⟩
/-- all that the bounds speak of is as it was -/
def q_sim (x y : s_T) : Prop := (∀ k, k ≠ 32 → ct y k = ct x k) ∧ ∀ k, k ∈ [1, 3, 6, 7, 11, 12, 14, 16, 18, 19, 21, 23, 24, 28] → cg y k = cg x k
theorem q_inv_sim {N : Nat} {x y : s_T} (h : q_inv N x) (ha : q_sim x y) (hs : ct y 32 + q_opn y (ct y 29) ≤ 2 * N) : q_inv N y := by
  obtain ⟨⟨i2, i4, i5, i10, i17, i22, i29, i32⟩, hr3, hr6, hr11, hr18, hr23, hz21, hz28, hlb⟩ := h
  obtain ⟨a1, g⟩ := ha
  have e2 := a1 2 (by decide)
  have e4 := a1 4 (by decide)
  have e5 := a1 5 (by decide)
  have e10 := a1 10 (by decide)
  have e17 := a1 17 (by decide)
  have e22 := a1 22 (by decide)
  have e29 := a1 29 (by decide)
  refine ⟨⟨by omega, by omega, by omega, by omega, by omega, by omega, by omega, hs⟩, ?_, ?_, ?_, ?_, ?_, ?_, ?_, ?_⟩
  · rw [e4, g 3 (by decide)]; exact hr3
  · rw [e10, e2, e4, g 6 (by decide), g 7 (by decide)]; exact hr6
  · rw [e17, e2, e4, e5, g 11 (by decide), g 12 (by decide), g 14 (by decide), g 16 (by decide)]; exact hr11
  · rw [e22, e2, e4, g 18 (by decide), g 19 (by decide)]; exact hr18
  · rw [e29, e2, e4, g 23 (by decide), g 24 (by decide)]; exact hr23
  · rw [e22, g 21 (by decide)]; exact hz21
  · rw [e29, g 28 (by decide)]; exact hz28
  · rw [g 1 (by decide)]; exact hlb
theorem q_sim.tr {x y z : s_T} (h1 : q_sim x y) (h2 : q_sim y z) : q_sim x z := ⟨fun k hk => (h2.1 k hk).trans (h1.1 k hk), fun k hk => (h2.2 k hk).trans (h1.2 k hk)⟩
theorem q_sim.rf (x : s_T) : q_sim x x := ⟨fun _ _ => rfl, fun _ _ => rfl⟩
theorem q_sim_cf (x : s_T) {c : Nat} (f : Nat → Int32) (hc : c ∉ [1, 3, 6, 7, 11, 12, 14, 16, 18, 19, 21, 23, 24, 28]) : q_sim x (cf x c f) := ⟨fun _ _ => rfl, fun k hk => funext fun i => by rw [cg_cf, if_neg (fun z => hc (z ▸ hk))]⟩
theorem q_sim_cs (x : s_T) {c : Nat} (i : Nat) (v : Int32) (hc : c ∉ [1, 3, 6, 7, 11, 12, 14, 16, 18, 19, 21, 23, 24, 28]) : q_sim x (cs x c i v) := ⟨fun _ _ => rfl, fun k hk => funext fun j => by rw [cg_cs, if_neg (fun z => hc (z ▸ hk))]⟩
theorem q_sim_write (x : s_T) (kd p m : Int32) : q_sim x (q_write x kd p m) := by
  refine ⟨fun k hk => ?_, fun k hk => funext fun i => ?_⟩
  · unfold q_write
    rw [ct_ss, if_neg hk]
    rfl
  · unfold q_write
    rw [cg_ss, cg_cs, if_neg (fun z => by rw [z] at hk; exact absurd hk (by decide)), cg_cs, if_neg (fun z => by rw [z] at hk; exact absurd hk (by decide))]
theorem q_inv_cf {N : Nat} {x : s_T} (h : q_inv N x) {c : Nat} (f : Nat → Int32) (hc : c ∉ [1, 3, 6, 7, 11, 12, 14, 16, 18, 19, 21, 23, 24, 28]) (h25 : c ≠ 25) : q_inv N (cf x c f) :=
  q_inv_sim h (q_sim_cf x f hc) (by rw [ct_cf, ct_cf, q_opn_congr (x := cf x c f) (y := x) (fun k _ => by rw [cg_cf, if_neg (Ne.symm h25)])]; exact h.1.2.2.2.2.2.2.2)
theorem q_inv_cs {N : Nat} {x : s_T} (h : q_inv N x) {c : Nat} (i : Nat) (v : Int32) (hc : c ∉ [1, 3, 6, 7, 11, 12, 14, 16, 18, 19, 21, 23, 24, 28]) (h25 : c ≠ 25) : q_inv N (cs x c i v) :=
  q_inv_sim h (q_sim_cs x i v hc) (by rw [ct_cs, ct_cs, q_opn_congr (x := cs x c i v) (y := x) (fun k _ => by rw [cg_cs, if_neg (Ne.symm h25)])]; exact h.1.2.2.2.2.2.2.2)
theorem q_inv_ends {N : Nat} {x : s_T} (h : q_inv N x) (p m : Int32) : q_inv N (q_ends x p m) := q_inv_cf h _ (by decide) (by decide)
theorem q_inv_denies {N : Nat} {x : s_T} (h : q_inv N x) (p m : Int32) : q_inv N (q_denies x p m) := q_inv_cf h _ (by decide) (by decide)
theorem q_opn_write (x : s_T) (kd p m : Int32) (n : Nat) : q_opn (q_write x kd p m) n = q_opn x n := q_opn_congr (fun k _ => by unfold q_write; rw [cg_ss, cg_cs, if_neg (by decide), cg_cs, if_neg (by decide)])
theorem q_inv_write {N : Nat} {x : s_T} (h : q_inv N x) (kd p m : Int32) : q_inv (N + 1) (q_write x kd p m) := by
  refine q_inv_sim (q_inv_mono h (Nat.le_succ N)) (q_sim_write x kd p m) ?_
  have h1 := h.1.2.2.2.2.2.2.2
  rw [q_opn_write]
  show (ct x 32 + 1) + q_opn x (ct x 29) ≤ 2 * (N + 1)
  omega
theorem q_strip_t {x : s_T} {p l : Int32} {k : Nat} (h : cg (q_strip x p l k) 3 k = l) : q_strip x p l (k + 1) = q_denies (q_ends (q_strip x p l k) p (nI k)) p (nI k) := by rw [q_strip, if_pos h]
theorem q_strip_f {x : s_T} {p l : Int32} {k : Nat} (h : ¬ cg (q_strip x p l k) 3 k = l) : q_strip x p l (k + 1) = q_strip x p l k := by rw [q_strip, if_neg h]
theorem q_strip_ct (x : s_T) (p l : Int32) (j : Nat) : ∀ k, ct (q_strip x p l k) j = ct x j
  | 0 => rfl
  | k + 1 => by
    by_cases h : cg (q_strip x p l k) 3 k = l
    · rw [q_strip_t h]
      exact q_strip_ct x p l j k
    · rw [q_strip_f h]
      exact q_strip_ct x p l j k
theorem q_inv_strip {N : Nat} {x : s_T} (h : q_inv N x) (p l : Int32) : ∀ k, q_inv N (q_strip x p l k)
  | 0 => h
  | k + 1 => by
    by_cases hq : cg (q_strip x p l k) 3 k = l
    · rw [q_strip_t hq]
      exact q_inv_denies (q_inv_ends (q_inv_strip h p l k) p (nI k)) p (nI k)
    · rw [q_strip_f hq]
      exact q_inv_strip h p l k
theorem q_inv_lab {N : Nat} {x : s_T} (h : q_inv N x) (i : Nat) (b : Bool) : q_inv N (cs x 1 i (bI b)) := by
  obtain ⟨hb, hr3, hr6, hr11, hr18, hr23, hz21, hz28, hlb⟩ := h
  have g : ∀ k, k ≠ 1 → cg (cs x 1 i (bI b)) k = cg x k := fun k hk => funext fun j => by rw [cg_cs, if_neg hk]
  refine ⟨by rw [q_opn_congr (x := cs x 1 i (bI b)) (y := x) (fun k _ => by rw [g 25 (by decide)])]; exact hb, by rw [g 3 (by decide)]; exact hr3, by rw [g 6 (by decide), g 7 (by decide)]; exact hr6, by rw [g 11 (by decide), g 12 (by decide), g 14 (by decide), g 16 (by decide)]; exact hr11, by rw [g 18 (by decide), g 19 (by decide)]; exact hr18, by rw [g 23 (by decide), g 24 (by decide)]; exact hr23, by rw [g 21 (by decide)]; exact hz21, by rw [g 28 (by decide)]; exact hz28, fun k => ?_⟩
  rw [cg_cs, if_pos rfl]
  by_cases hk : k = i
  · rw [if_pos hk]
    cases b
    · exact Or.inl rfl
    · exact Or.inr rfl
  · rw [if_neg hk]
    exact hlb k
theorem q_inv_clock {N : Nat} {x : s_T} (h : q_inv N x) {n : Nat} (hn : ct x 5 ≤ n) (h5 : n ≤ 100000) : q_inv N (ss x 5 n) := by
  obtain ⟨⟨i2, i4, i5, i10, i17, i22, i29, i32⟩, hr3, hr6, hr11, hr18, hr23, hz21, hz28, hlb⟩ := h
  refine ⟨⟨i2, i4, h5, i10, i17, i22, i29, ?_⟩, hr3, hr6, fun k hk => ?_, hr18, hr23, hz21, hz28, hlb⟩
  · rw [q_opn_congr (x := ss x 5 n) (y := x) (fun k _ => Iff.rfl)]
    exact i32
  · obtain ⟨h1, h2, ⟨j, hj, ej⟩, h4⟩ := hr11 k hk
    exact ⟨h1, h2, ⟨j, by show j < n + 1; omega, ej⟩, h4⟩
theorem q_closes_ct {x : s_T} {a : Int32} {k : Nat} (hk : k ≠ 32) : ct (q_closes x a).1 k = ct x k := (q_al_close x a (ct x 29)).1 k hk
theorem q_inv_closes {N : Nat} {x : s_T} (h : q_inv N x) (a : Int32) : q_inv N (q_closes x a).1 := q_inv_close h a _ (Nat.le_refl _)
theorem q_tick_5 (x : s_T) : ∀ k, ct (q_tick x k).1 5 = ct x 5 + k
  | 0 => rfl
  | k + 1 => by
    show ct (q_closes (ss (q_tick x k).1 5 (ct (q_tick x k).1 5 + 1)) (-1)).1 5 = _
    rw [q_closes_ct (by decide), ct_ss, if_pos rfl, q_tick_5 x k]
    rfl
theorem q_inv_tick {N : Nat} {x : s_T} (h : q_inv N x) : ∀ k, ct x 5 + k ≤ 100000 → q_inv N (q_tick x k).1
  | 0, _ => h
  | k + 1, hk => by
    have ih := q_inv_tick h k (by omega)
    have e := q_tick_5 x k
    exact q_inv_closes (q_inv_clock ih (Nat.le_succ _) (by omega)) (-1)
theorem q_tick_ct (x : s_T) {j : Nat} (h5 : j ≠ 5) (h32 : j ≠ 32) : ∀ k, ct (q_tick x k).1 j = ct x j
  | 0 => rfl
  | k + 1 => by
    show ct (q_closes (ss (q_tick x k).1 5 (ct (q_tick x k).1 5 + 1)) (-1)).1 j = _
    rw [q_closes_ct h32, ct_ss, if_neg h5, q_tick_ct x h5 h32 k]
theorem q_12 {n : Nat} (hn : n < 2 ^ 31) (k : Nat) (hk : k < 2 ^ 31) : (nI k ≤ nI n) ↔ ¬ n < k := (nI_leI hk hn).trans Nat.not_lt.symm
end

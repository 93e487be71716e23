section
-- ===== PART A: goes FIRST, ahead of the names: the tables' words, and 'selects' of the private methods out of them =====
/-- a private method of a class that the tables say can be made, by its rows of tables_1 -/
def lw_okq (q : MethodName × Nat) : Prop := (q.1.cls ≠ "java/lang/invoke/MethodHandle" ∧ q.1.cls ≠ "java/lang/invoke/VarHandle") ∧ Cond.instantiable q.1.cls q.2 ∈ tables_1 ∧ Cond.privateMethod q.1 ∈ tables_1 ∧ Cond.instanceMethod q.1 ∈ tables_1
theorem lw_p0 : lw_okq (⟨"java/lang/Throwable", "fillInStackTrace", "(I)Ljava/lang/Throwable;"⟩, 6) := ⟨⟨by decide +kernel, by decide +kernel⟩, List.mem_of_getElem? (i := 170) (by decide +kernel), List.mem_of_getElem? (i := 168) (by decide +kernel), List.mem_of_getElem? (i := 169) (by decide +kernel)⟩
theorem lw_p1 : lw_okq (⟨"java/util/ArrayList", "add", "(Ljava/lang/Object;[Ljava/lang/Object;I)V"⟩, 3) := ⟨⟨by decide +kernel, by decide +kernel⟩, List.mem_of_getElem? (i := 34) (by decide +kernel), List.mem_of_getElem? (i := 242) (by decide +kernel), List.mem_of_getElem? (i := 243) (by decide +kernel)⟩
theorem lw_p2 : lw_okq (⟨"java/util/ArrayList", "grow", "()[Ljava/lang/Object;"⟩, 3) := ⟨⟨by decide +kernel, by decide +kernel⟩, List.mem_of_getElem? (i := 34) (by decide +kernel), List.mem_of_getElem? (i := 246) (by decide +kernel), List.mem_of_getElem? (i := 247) (by decide +kernel)⟩
theorem lw_p3 : lw_okq (⟨"java/util/ArrayList", "grow", "(I)[Ljava/lang/Object;"⟩, 3) := ⟨⟨by decide +kernel, by decide +kernel⟩, List.mem_of_getElem? (i := 34) (by decide +kernel), List.mem_of_getElem? (i := 250) (by decide +kernel), List.mem_of_getElem? (i := 251) (by decide +kernel)⟩
theorem lw_p4 : lw_okq (⟨"AccessGate", "personAt", "(I)LAccessGate$Person;"⟩, 9) := ⟨⟨by decide +kernel, by decide +kernel⟩, List.mem_of_getElem? (i := 26) (by decide +kernel), List.mem_of_getElem? (i := 334) (by decide +kernel), List.mem_of_getElem? (i := 335) (by decide +kernel)⟩
theorem lw_p5 : lw_okq (⟨"AccessGate$Person", "keepLabel", "(IZ)V"⟩, 3) := ⟨⟨by decide +kernel, by decide +kernel⟩, List.mem_of_getElem? (i := 220) (by decide +kernel), List.mem_of_getElem? (i := 368) (by decide +kernel), List.mem_of_getElem? (i := 369) (by decide +kernel)⟩
theorem lw_p6 : lw_okq (⟨"AccessGate", "endRights", "(LAccessGate$Person;LAccessGate$Machine;)V"⟩, 9) := ⟨⟨by decide +kernel, by decide +kernel⟩, List.mem_of_getElem? (i := 26) (by decide +kernel), List.mem_of_getElem? (i := 372) (by decide +kernel), List.mem_of_getElem? (i := 373) (by decide +kernel)⟩
theorem lw_p7 : lw_okq (⟨"AccessGate$Right", "holdsAt", "(I)Z"⟩, 4) := ⟨⟨by decide +kernel, by decide +kernel⟩, List.mem_of_getElem? (i := 379) (by decide +kernel), List.mem_of_getElem? (i := 377) (by decide +kernel), List.mem_of_getElem? (i := 378) (by decide +kernel)⟩
theorem lw_p8 : lw_okq (⟨"AccessGate", "denyWaitingAsks", "(LAccessGate$Person;LAccessGate$Machine;)V"⟩, 9) := ⟨⟨by decide +kernel, by decide +kernel⟩, List.mem_of_getElem? (i := 26) (by decide +kernel), List.mem_of_getElem? (i := 382) (by decide +kernel), List.mem_of_getElem? (i := 383) (by decide +kernel)⟩
theorem lw_p9 : lw_okq (⟨"AccessGate$Ask", "stateAt", "(I)I"⟩, 6) := ⟨⟨by decide +kernel, by decide +kernel⟩, List.mem_of_getElem? (i := 389) (by decide +kernel), List.mem_of_getElem? (i := 387) (by decide +kernel), List.mem_of_getElem? (i := 388) (by decide +kernel)⟩
theorem lw_p10 : lw_okq (⟨"AccessGate", "closeEndedSessions", "()I"⟩, 9) := ⟨⟨by decide +kernel, by decide +kernel⟩, List.mem_of_getElem? (i := 26) (by decide +kernel), List.mem_of_getElem? (i := 392) (by decide +kernel), List.mem_of_getElem? (i := 393) (by decide +kernel)⟩
theorem lw_p11 : lw_okq (⟨"AccessGate$Session", "restsAt", "(I)Z"⟩, 6) := ⟨⟨by decide +kernel, by decide +kernel⟩, List.mem_of_getElem? (i := 399) (by decide +kernel), List.mem_of_getElem? (i := 397) (by decide +kernel), List.mem_of_getElem? (i := 398) (by decide +kernel)⟩
theorem lw_p12 : lw_okq (⟨"AccessGate", "rightHolds", "(LAccessGate$Person;LAccessGate$Machine;I)Z"⟩, 9) := ⟨⟨by decide +kernel, by decide +kernel⟩, List.mem_of_getElem? (i := 26) (by decide +kernel), List.mem_of_getElem? (i := 402) (by decide +kernel), List.mem_of_getElem? (i := 403) (by decide +kernel)⟩
theorem lw_p13 : lw_okq (⟨"AccessGate", "endSession", "(LAccessGate$Session;)V"⟩, 9) := ⟨⟨by decide +kernel, by decide +kernel⟩, List.mem_of_getElem? (i := 26) (by decide +kernel), List.mem_of_getElem? (i := 406) (by decide +kernel), List.mem_of_getElem? (i := 407) (by decide +kernel)⟩
theorem lw_p14 : lw_okq (⟨"AccessGate$StepRecord", "add", "(ILAccessGate$Person;LAccessGate$Machine;I)V"⟩, 4) := ⟨⟨by decide +kernel, by decide +kernel⟩, List.mem_of_getElem? (i := 60) (by decide +kernel), List.mem_of_getElem? (i := 410) (by decide +kernel), List.mem_of_getElem? (i := 411) (by decide +kernel)⟩
theorem lw_p15 : lw_okq (⟨"AccessGate", "machineAt", "(I)LAccessGate$Machine;"⟩, 9) := ⟨⟨by decide +kernel, by decide +kernel⟩, List.mem_of_getElem? (i := 26) (by decide +kernel), List.mem_of_getElem? (i := 422) (by decide +kernel), List.mem_of_getElem? (i := 423) (by decide +kernel)⟩
def lw_privs_1 : List (MethodName × Nat) := [(⟨"java/lang/Throwable", "fillInStackTrace", "(I)Ljava/lang/Throwable;"⟩, 6), (⟨"java/util/ArrayList", "add", "(Ljava/lang/Object;[Ljava/lang/Object;I)V"⟩, 3), (⟨"java/util/ArrayList", "grow", "()[Ljava/lang/Object;"⟩, 3), (⟨"java/util/ArrayList", "grow", "(I)[Ljava/lang/Object;"⟩, 3), (⟨"AccessGate", "personAt", "(I)LAccessGate$Person;"⟩, 9), (⟨"AccessGate$Person", "keepLabel", "(IZ)V"⟩, 3), (⟨"AccessGate", "endRights", "(LAccessGate$Person;LAccessGate$Machine;)V"⟩, 9), (⟨"AccessGate$Right", "holdsAt", "(I)Z"⟩, 4), (⟨"AccessGate", "denyWaitingAsks", "(LAccessGate$Person;LAccessGate$Machine;)V"⟩, 9), (⟨"AccessGate$Ask", "stateAt", "(I)I"⟩, 6), (⟨"AccessGate", "closeEndedSessions", "()I"⟩, 9), (⟨"AccessGate$Session", "restsAt", "(I)Z"⟩, 6), (⟨"AccessGate", "rightHolds", "(LAccessGate$Person;LAccessGate$Machine;I)Z"⟩, 9), (⟨"AccessGate", "endSession", "(LAccessGate$Session;)V"⟩, 9), (⟨"AccessGate$StepRecord", "add", "(ILAccessGate$Person;LAccessGate$Machine;I)V"⟩, 4), (⟨"AccessGate", "machineAt", "(I)LAccessGate$Machine;"⟩, 9)]
theorem lw_r1 : ∀ q ∈ lw_privs_1, lw_okq q := List.forall_mem_cons.mpr ⟨lw_p0, List.forall_mem_cons.mpr ⟨lw_p1, List.forall_mem_cons.mpr ⟨lw_p2, List.forall_mem_cons.mpr ⟨lw_p3, List.forall_mem_cons.mpr ⟨lw_p4, List.forall_mem_cons.mpr ⟨lw_p5, List.forall_mem_cons.mpr ⟨lw_p6, List.forall_mem_cons.mpr ⟨lw_p7, List.forall_mem_cons.mpr ⟨lw_p8, List.forall_mem_cons.mpr ⟨lw_p9, List.forall_mem_cons.mpr ⟨lw_p10, List.forall_mem_cons.mpr ⟨lw_p11, List.forall_mem_cons.mpr ⟨lw_p12, List.forall_mem_cons.mpr ⟨lw_p13, List.forall_mem_cons.mpr ⟨lw_p14, List.forall_mem_cons.mpr ⟨lw_p15, fun _ h => absurd h List.not_mem_nil⟩⟩⟩⟩⟩⟩⟩⟩⟩⟩⟩⟩⟩⟩⟩⟩
theorem lw_p16 : lw_okq (⟨"AccessGate", "requireMayAskOrEnter", "(LAccessGate$Person;LAccessGate$Machine;)V"⟩, 9) := ⟨⟨by decide +kernel, by decide +kernel⟩, List.mem_of_getElem? (i := 26) (by decide +kernel), List.mem_of_getElem? (i := 435) (by decide +kernel), List.mem_of_getElem? (i := 436) (by decide +kernel)⟩
theorem lw_p17 : lw_okq (⟨"AccessGate$Person", "hasLabel", "(I)Z"⟩, 3) := ⟨⟨by decide +kernel, by decide +kernel⟩, List.mem_of_getElem? (i := 220) (by decide +kernel), List.mem_of_getElem? (i := 439) (by decide +kernel), List.mem_of_getElem? (i := 440) (by decide +kernel)⟩
theorem lw_p18 : lw_okq (⟨"AccessGate", "countOverdue", "(LAccessGate$Person;)I"⟩, 9) := ⟨⟨by decide +kernel, by decide +kernel⟩, List.mem_of_getElem? (i := 26) (by decide +kernel), List.mem_of_getElem? (i := 444) (by decide +kernel), List.mem_of_getElem? (i := 445) (by decide +kernel)⟩
theorem lw_p19 : lw_okq (⟨"AccessGate$Entry", "isOverdueAt", "(I)Z"⟩, 4) := ⟨⟨by decide +kernel, by decide +kernel⟩, List.mem_of_getElem? (i := 451) (by decide +kernel), List.mem_of_getElem? (i := 449) (by decide +kernel), List.mem_of_getElem? (i := 450) (by decide +kernel)⟩
theorem lw_p20 : lw_okq (⟨"AccessGate", "askAt", "(I)LAccessGate$Ask;"⟩, 9) := ⟨⟨by decide +kernel, by decide +kernel⟩, List.mem_of_getElem? (i := 26) (by decide +kernel), List.mem_of_getElem? (i := 494) (by decide +kernel), List.mem_of_getElem? (i := 495) (by decide +kernel)⟩
theorem lw_p21 : lw_okq (⟨"AccessGate", "requireMayJudge", "(LAccessGate$Ask;LAccessGate$Person;)V"⟩, 9) := ⟨⟨by decide +kernel, by decide +kernel⟩, List.mem_of_getElem? (i := 26) (by decide +kernel), List.mem_of_getElem? (i := 499) (by decide +kernel), List.mem_of_getElem? (i := 500) (by decide +kernel)⟩
theorem lw_p22 : lw_okq (⟨"AccessGate$Person", "mayJudge", "(LAccessGate$Person;LAccessGate$Machine;)Z"⟩, 3) := ⟨⟨by decide +kernel, by decide +kernel⟩, List.mem_of_getElem? (i := 220) (by decide +kernel), List.mem_of_getElem? (i := 504) (by decide +kernel), List.mem_of_getElem? (i := 505) (by decide +kernel)⟩
theorem lw_p23 : lw_okq (⟨"AccessGate", "entryAt", "(I)LAccessGate$Entry;"⟩, 9) := ⟨⟨by decide +kernel, by decide +kernel⟩, List.mem_of_getElem? (i := 26) (by decide +kernel), List.mem_of_getElem? (i := 580) (by decide +kernel), List.mem_of_getElem? (i := 581) (by decide +kernel)⟩
theorem lw_p24 : lw_okq (⟨"AccessGate", "sessionAt", "(I)LAccessGate$Session;"⟩, 9) := ⟨⟨by decide +kernel, by decide +kernel⟩, List.mem_of_getElem? (i := 26) (by decide +kernel), List.mem_of_getElem? (i := 647) (by decide +kernel), List.mem_of_getElem? (i := 648) (by decide +kernel)⟩
theorem lw_p25 : lw_okq (⟨"AccessGate$Session", "holdsLine", "()Z"⟩, 6) := ⟨⟨by decide +kernel, by decide +kernel⟩, List.mem_of_getElem? (i := 399) (by decide +kernel), List.mem_of_getElem? (i := 657) (by decide +kernel), List.mem_of_getElem? (i := 658) (by decide +kernel)⟩
theorem lw_p26 : lw_okq (⟨"AccessGate", "requireStep", "(I)V"⟩, 9) := ⟨⟨by decide +kernel, by decide +kernel⟩, List.mem_of_getElem? (i := 26) (by decide +kernel), List.mem_of_getElem? (i := 700) (by decide +kernel), List.mem_of_getElem? (i := 701) (by decide +kernel)⟩
theorem lw_p27 : lw_okq (⟨"AccessGateModel", "goes", "(ZZZ)Z"⟩, 34) := ⟨⟨by decide +kernel, by decide +kernel⟩, List.mem_of_getElem? (i := 712) (by decide +kernel), List.mem_of_getElem? (i := 833) (by decide +kernel), List.mem_of_getElem? (i := 834) (by decide +kernel)⟩
theorem lw_p28 : lw_okq (⟨"AccessGateModel", "isPerson", "(I)Z"⟩, 34) := ⟨⟨by decide +kernel, by decide +kernel⟩, List.mem_of_getElem? (i := 712) (by decide +kernel), List.mem_of_getElem? (i := 845) (by decide +kernel), List.mem_of_getElem? (i := 846) (by decide +kernel)⟩
theorem lw_p29 : lw_okq (⟨"AccessGateModel", "endsRights", "(II)V"⟩, 34) := ⟨⟨by decide +kernel, by decide +kernel⟩, List.mem_of_getElem? (i := 712) (by decide +kernel), List.mem_of_getElem? (i := 849) (by decide +kernel), List.mem_of_getElem? (i := 850) (by decide +kernel)⟩
theorem lw_p30 : lw_okq (⟨"AccessGateModel", "deniesAsks", "(II)V"⟩, 34) := ⟨⟨by decide +kernel, by decide +kernel⟩, List.mem_of_getElem? (i := 712) (by decide +kernel), List.mem_of_getElem? (i := 853) (by decide +kernel), List.mem_of_getElem? (i := 854) (by decide +kernel)⟩
theorem lw_p31 : lw_okq (⟨"AccessGateModel", "closes", "(I)I"⟩, 34) := ⟨⟨by decide +kernel, by decide +kernel⟩, List.mem_of_getElem? (i := 712) (by decide +kernel), List.mem_of_getElem? (i := 857) (by decide +kernel), List.mem_of_getElem? (i := 858) (by decide +kernel)⟩
def lw_privs_2 : List (MethodName × Nat) := [(⟨"AccessGate", "requireMayAskOrEnter", "(LAccessGate$Person;LAccessGate$Machine;)V"⟩, 9), (⟨"AccessGate$Person", "hasLabel", "(I)Z"⟩, 3), (⟨"AccessGate", "countOverdue", "(LAccessGate$Person;)I"⟩, 9), (⟨"AccessGate$Entry", "isOverdueAt", "(I)Z"⟩, 4), (⟨"AccessGate", "askAt", "(I)LAccessGate$Ask;"⟩, 9), (⟨"AccessGate", "requireMayJudge", "(LAccessGate$Ask;LAccessGate$Person;)V"⟩, 9), (⟨"AccessGate$Person", "mayJudge", "(LAccessGate$Person;LAccessGate$Machine;)Z"⟩, 3), (⟨"AccessGate", "entryAt", "(I)LAccessGate$Entry;"⟩, 9), (⟨"AccessGate", "sessionAt", "(I)LAccessGate$Session;"⟩, 9), (⟨"AccessGate$Session", "holdsLine", "()Z"⟩, 6), (⟨"AccessGate", "requireStep", "(I)V"⟩, 9), (⟨"AccessGateModel", "goes", "(ZZZ)Z"⟩, 34), (⟨"AccessGateModel", "isPerson", "(I)Z"⟩, 34), (⟨"AccessGateModel", "endsRights", "(II)V"⟩, 34), (⟨"AccessGateModel", "deniesAsks", "(II)V"⟩, 34), (⟨"AccessGateModel", "closes", "(I)I"⟩, 34)]
theorem lw_r2 : ∀ q ∈ lw_privs_2, lw_okq q := List.forall_mem_cons.mpr ⟨lw_p16, List.forall_mem_cons.mpr ⟨lw_p17, List.forall_mem_cons.mpr ⟨lw_p18, List.forall_mem_cons.mpr ⟨lw_p19, List.forall_mem_cons.mpr ⟨lw_p20, List.forall_mem_cons.mpr ⟨lw_p21, List.forall_mem_cons.mpr ⟨lw_p22, List.forall_mem_cons.mpr ⟨lw_p23, List.forall_mem_cons.mpr ⟨lw_p24, List.forall_mem_cons.mpr ⟨lw_p25, List.forall_mem_cons.mpr ⟨lw_p26, List.forall_mem_cons.mpr ⟨lw_p27, List.forall_mem_cons.mpr ⟨lw_p28, List.forall_mem_cons.mpr ⟨lw_p29, List.forall_mem_cons.mpr ⟨lw_p30, List.forall_mem_cons.mpr ⟨lw_p31, fun _ h => absurd h List.not_mem_nil⟩⟩⟩⟩⟩⟩⟩⟩⟩⟩⟩⟩⟩⟩⟩⟩
theorem lw_p32 : lw_okq (⟨"AccessGateModel", "holdsAt", "(III)Z"⟩, 34) := ⟨⟨by decide +kernel, by decide +kernel⟩, List.mem_of_getElem? (i := 712) (by decide +kernel), List.mem_of_getElem? (i := 861) (by decide +kernel), List.mem_of_getElem? (i := 862) (by decide +kernel)⟩
theorem lw_p33 : lw_okq (⟨"AccessGateModel", "shuts", "(I)V"⟩, 34) := ⟨⟨by decide +kernel, by decide +kernel⟩, List.mem_of_getElem? (i := 712) (by decide +kernel), List.mem_of_getElem? (i := 865) (by decide +kernel), List.mem_of_getElem? (i := 866) (by decide +kernel)⟩
theorem lw_p34 : lw_okq (⟨"AccessGateModel", "writes", "(III)V"⟩, 34) := ⟨⟨by decide +kernel, by decide +kernel⟩, List.mem_of_getElem? (i := 712) (by decide +kernel), List.mem_of_getElem? (i := 869) (by decide +kernel), List.mem_of_getElem? (i := 870) (by decide +kernel)⟩
theorem lw_p35 : lw_okq (⟨"AccessGateModel", "areBoth", "(II)Z"⟩, 34) := ⟨⟨by decide +kernel, by decide +kernel⟩, List.mem_of_getElem? (i := 712) (by decide +kernel), List.mem_of_getElem? (i := 878) (by decide +kernel), List.mem_of_getElem? (i := 879) (by decide +kernel)⟩
theorem lw_p36 : lw_okq (⟨"AccessGateModel", "isMachine", "(I)Z"⟩, 34) := ⟨⟨by decide +kernel, by decide +kernel⟩, List.mem_of_getElem? (i := 712) (by decide +kernel), List.mem_of_getElem? (i := 882) (by decide +kernel), List.mem_of_getElem? (i := 883) (by decide +kernel)⟩
theorem lw_p37 : lw_okq (⟨"AccessGateModel", "canAsk", "(II)Z"⟩, 34) := ⟨⟨by decide +kernel, by decide +kernel⟩, List.mem_of_getElem? (i := 712) (by decide +kernel), List.mem_of_getElem? (i := 890) (by decide +kernel), List.mem_of_getElem? (i := 891) (by decide +kernel)⟩
theorem lw_p38 : lw_okq (⟨"AccessGateModel", "hasLabel", "(II)Z"⟩, 34) := ⟨⟨by decide +kernel, by decide +kernel⟩, List.mem_of_getElem? (i := 712) (by decide +kernel), List.mem_of_getElem? (i := 894) (by decide +kernel), List.mem_of_getElem? (i := 895) (by decide +kernel)⟩
theorem lw_p39 : lw_okq (⟨"AccessGateModel", "overdues", "(I)I"⟩, 34) := ⟨⟨by decide +kernel, by decide +kernel⟩, List.mem_of_getElem? (i := 712) (by decide +kernel), List.mem_of_getElem? (i := 898) (by decide +kernel), List.mem_of_getElem? (i := 899) (by decide +kernel)⟩
theorem lw_p40 : lw_okq (⟨"AccessGateModel", "canJudge", "(II)Z"⟩, 34) := ⟨⟨by decide +kernel, by decide +kernel⟩, List.mem_of_getElem? (i := 712) (by decide +kernel), List.mem_of_getElem? (i := 906) (by decide +kernel), List.mem_of_getElem? (i := 907) (by decide +kernel)⟩
theorem lw_p41 : lw_okq (⟨"AccessGateModel", "isAsk", "(I)Z"⟩, 34) := ⟨⟨by decide +kernel, by decide +kernel⟩, List.mem_of_getElem? (i := 712) (by decide +kernel), List.mem_of_getElem? (i := 910) (by decide +kernel), List.mem_of_getElem? (i := 911) (by decide +kernel)⟩
theorem lw_p42 : lw_okq (⟨"AccessGateModel", "grants", "(III)V"⟩, 34) := ⟨⟨by decide +kernel, by decide +kernel⟩, List.mem_of_getElem? (i := 712) (by decide +kernel), List.mem_of_getElem? (i := 914) (by decide +kernel), List.mem_of_getElem? (i := 915) (by decide +kernel)⟩
theorem lw_p43 : lw_okq (⟨"AccessGateModel", "isEntry", "(I)Z"⟩, 34) := ⟨⟨by decide +kernel, by decide +kernel⟩, List.mem_of_getElem? (i := 712) (by decide +kernel), List.mem_of_getElem? (i := 934) (by decide +kernel), List.mem_of_getElem? (i := 935) (by decide +kernel)⟩
theorem lw_p44 : lw_okq (⟨"AccessGateModel", "isSession", "(I)Z"⟩, 34) := ⟨⟨by decide +kernel, by decide +kernel⟩, List.mem_of_getElem? (i := 712) (by decide +kernel), List.mem_of_getElem? (i := 955) (by decide +kernel), List.mem_of_getElem? (i := 956) (by decide +kernel)⟩
def lw_privs_3 : List (MethodName × Nat) := [(⟨"AccessGateModel", "holdsAt", "(III)Z"⟩, 34), (⟨"AccessGateModel", "shuts", "(I)V"⟩, 34), (⟨"AccessGateModel", "writes", "(III)V"⟩, 34), (⟨"AccessGateModel", "areBoth", "(II)Z"⟩, 34), (⟨"AccessGateModel", "isMachine", "(I)Z"⟩, 34), (⟨"AccessGateModel", "canAsk", "(II)Z"⟩, 34), (⟨"AccessGateModel", "hasLabel", "(II)Z"⟩, 34), (⟨"AccessGateModel", "overdues", "(I)I"⟩, 34), (⟨"AccessGateModel", "canJudge", "(II)Z"⟩, 34), (⟨"AccessGateModel", "isAsk", "(I)Z"⟩, 34), (⟨"AccessGateModel", "grants", "(III)V"⟩, 34), (⟨"AccessGateModel", "isEntry", "(I)Z"⟩, 34), (⟨"AccessGateModel", "isSession", "(I)Z"⟩, 34)]
theorem lw_r3 : ∀ q ∈ lw_privs_3, lw_okq q := List.forall_mem_cons.mpr ⟨lw_p32, List.forall_mem_cons.mpr ⟨lw_p33, List.forall_mem_cons.mpr ⟨lw_p34, List.forall_mem_cons.mpr ⟨lw_p35, List.forall_mem_cons.mpr ⟨lw_p36, List.forall_mem_cons.mpr ⟨lw_p37, List.forall_mem_cons.mpr ⟨lw_p38, List.forall_mem_cons.mpr ⟨lw_p39, List.forall_mem_cons.mpr ⟨lw_p40, List.forall_mem_cons.mpr ⟨lw_p41, List.forall_mem_cons.mpr ⟨lw_p42, List.forall_mem_cons.mpr ⟨lw_p43, List.forall_mem_cons.mpr ⟨lw_p44, fun _ h => absurd h List.not_mem_nil⟩⟩⟩⟩⟩⟩⟩⟩⟩⟩⟩⟩⟩
def lw_privs : List (MethodName × Nat) := lw_privs_1 ++ (lw_privs_2 ++ (lw_privs_3))
def lw_tbl : List Cond := k2_sels lw_privs ++ tables_1
theorem lw_privs_ok : ∀ q ∈ lw_privs, lw_okq q := by
  show ∀ q ∈ lw_privs_1 ++ (lw_privs_2 ++ (lw_privs_3)), lw_okq q
  exact List.forall_mem_append.mpr ⟨lw_r1, List.forall_mem_append.mpr ⟨lw_r2, lw_r3⟩⟩
-- ===== end of PART A; then your names; then what follows =====
end
section
/-! ===== BEGIN words of one list among another's, by their places ===== -/
theorem goodIn_r {big : List Cond} (ws : List Cond) (ps : List Nat) (hp : ws = ps.filterMap (fun i => big[i]?)) (h : ws.all goodWord = true) : GoodIn big ws := by
  intro w hw
  have h1 := List.all_eq_true.mp h w hw
  rw [hp] at hw
  obtain ⟨i, -, hi⟩ := List.mem_filterMap.mp hw
  have hm : w ∈ big := by first | exact List.mem_of_getElem? hi | exact List.getElem?_mem hi
  exact ⟨hm, good_of_word h1⟩
theorem goodIn_app {big a b : List Cond} (ha : GoodIn big a) (hb : GoodIn big b) : GoodIn big (a ++ b) := fun w h => (List.mem_append.mp h).elim (ha w) (hb w)
theorem goodIn_ca {big a b : List Cond} {c : Cond} (ha : GoodIn big (c :: a)) (hb : GoodIn big b) : GoodIn big (c :: (a ++ b)) := fun w h => (List.mem_cons.mp h).elim (fun e => ha w (List.mem_cons.mpr (Or.inl e))) (fun h => (List.mem_append.mp h).elim (fun h => ha w (List.mem_cons.mpr (Or.inr h))) (hb w))
theorem goodIn_sub {big ws : List Cond} (hm : ∀ w ∈ ws, w ∈ big) (h : ws.all goodWord = true) : GoodIn big ws := fun w hw => ⟨hm w hw, good_of_word (List.all_eq_true.mp h w hw)⟩
/-! ===== END ===== -/

/-! ===== BEGIN exceptions that leave a method, and their catching by the caller (launches without stack traces) ===== -/
section VXA
/-! The laws vx_back, vx_callV, vx_callS, vx_callSW, vx_throw0, vx_throwS follow proofs of the library, with one case more: JvmDerived/Free/Laws.lean (Back.of_free), Shelf42/LK1.lean (callV, callS), Shelf/KitTraced.lean (throwNew0V, throwNewS). -/
/-- where a method has thrown q: the class by its name, the cell, what was written, the world -/
def vx_T (XC : String → State → State → Prop) (st : State) (q : Addr) (t : State) (mc ms : Nat) (free : Addr → Prop) : Prop :=
  ∃ (E : String) (ce : Cell) (L : List Loc), XC E st t ∧ t.heap[q]? = some ce ∧ ce.vm = .none ∧ st.vm.findClass E = some ce.cls ∧ st.WarmedH t.vm ∧ st.sameButNew ({ t with vm := st.vm } : State) L mc ms ∧ ∀ z ∈ L, free z.base
def vx_Q (Qc : Array Value → State → Outcome → State → Prop) (XC : String → State → State → Prop) (mc ms : Nat) (free : Addr → Prop) : Array Value → State → Outcome → State → Prop := fun a st o t =>
  (Qc a st o t ∧ ∃ L, FrameEnd st o t L mc ms ∧ ∀ q ∈ L, free q.base) ∨ ∃ q, o = .threw q ∧ vx_T XC st q t mc ms free
/-- a callee that returns or throws -/
def vx_Met (l : Launch) (y : MethodName) (ws : List Cond) (rm : Room) (Pc : Array Value → State → Prop) (Qc : Array Value → State → Outcome → State → Prop) (XC : String → State → State → Prop) (mc ms : Nat) (free : Addr → Prop) : Prop :=
  MetFree l y (headSpec ws rm) Pc (fun _ _ _ _ _ => True) (vx_Q Qc XC mc ms free)
def vx_Post (XC : String → State → State → Prop) (mc ms : Nat) (free : Addr → Prop) : Pt → Array Value → Addr → Pt → Prop := fun A a q B =>
  ∃ (g : JFrame) (mk : MethodId) (t : State) (L : List Loc) (E : String) (ce : Cell), B.U.heap = t.heap ∧ B.U.vm = t.vm ∧ XC E (A.U.calling g mk a) t ∧ t.heap[q]? = some ce ∧ ce.vm = .none ∧ A.U.vm.findClass E = some ce.cls ∧ B.locs = A.locs ++ L ∧ (∀ z ∈ L, free z.base) ∧ B.cells = A.cells + mc ∧ B.slots = A.slots + ms
def vx_Back (l : Launch) (R : Room) (p : Program) (e : Env) (below : List Frame) (s : State) (sargs : Array Value) (y : MethodName) (len W9 : Nat)
    (Pre : Pt → Array Value → Prop) (Post : Pt → Array Value → Option Value → Pt → Prop) (PostX : Pt → Array Value → Addr → Pt → Prop) : Prop :=
  ∀ (m : MethodId) (meth : Method) (c : Code) (A : Pt) (g : JFrame) (ig : Instr) (mk : MethodId) (a : Array Value),
    Stand p l e R s m sargs below meth c A.U A.locs A.cells A.slots → g.method = m → g.locals.size = c.maxLocals → decode c.code g.pc = .ok (ig, len) →
    2 * g.monitorRoom + (g.stack.map fun v => v.category).sum ≤ W9 → A.U.methodNamed? y = some mk → Pre A a →
    (∃ (v : Option Value) (B : Pt), Stand p l e R s m sargs below meth c B.U B.locs B.cells B.slots ∧ Post A a v B ∧
      Steps p.tables e below (doInvoke e (A.U.setTop g) [] mk a).1 (B.U.setTop { g with pc := g.pc + len, stack := v.toList ++ g.stack })) ∨
    (∃ (q : Addr) (B : Pt), Stand p l e R s m sargs below meth c B.U B.locs B.cells B.slots ∧ PostX A a q B ∧
      Steps p.tables e below (doInvoke e (A.U.setTop g) [] mk a).1 ((B.U.setTop g).pushFrame (.throwing q)))
section Payer
variable {l : Launch} {R : Room} {p : Program} {e : Env} {below : List Frame} {s : State} {sargs : Array Value} {y : MethodName} {len W9 : Nat}
theorem vx_back {ws : List Cond} {rm : Room} {Pc : Array Value → State → Prop} {Qc : Array Value → State → Outcome → State → Prop} {XC : String → State → State → Prop} {mc ms : Nat} {free : Addr → Prop} {bytes : ByteArray} {maxL : Nat} {ret : Option FieldType}
    (hM : vx_Met l y ws rm Pc Qc XC mc ms free) (hblind : FrameBlind Pc) (hrc : rm.cells = mc) (hrs : rm.slots = ms)
    (hframes : rm.frames + 1 ≤ R.frames) (hlocals : W9 + (maxL + 11) + rm.locals ≤ R.locals)
    (hws : ∀ w ∈ ws, ∀ a' U, s.WarmedH U.vm → w.before a' U = true) (hcode : Cond.code y bytes maxL ret ∈ ws) (hinit : ∀ a' U, s.WarmedH U.vm → (Cond.initialized y.cls).before a' U = true) :
    vx_Back l R p e below s sargs y len W9 (PreOf R mc ms Pc) (PostOf Qc mc ms free) (vx_Post XC mc ms free) := by
  intro m meth c A g ig mk a X hg hsize hdg hW hn hp
  have h1 : (headSpec ws rm).pre.before a A.U = true := atoms_intro fun w hw => hws w hw _ _ X.warmed
  have h2 : (Cond.code y bytes maxL ret).before a A.U = true := hws _ hcode _ _ X.warmed
  have h3 : (Cond.initialized y.cls).before a A.U = true := hinit _ _ X.warmed
  have h4 : A.cells + (headSpec ws rm).room.cells ≤ R.cells := by rw [show (headSpec ws rm).room.cells = mc from hrc]; exact hp.1
  have h5 : A.slots + (headSpec ws rm).room.slots ≤ R.slots := by rw [show (headSpec ws rm).room.slots = ms from hrs]; exact hp.2.1
  have hPc : Pc a (A.U.calling g mk a) := hblind _ _ _ _ hp.2.2
  obtain ⟨U, Ls, c0, s0⟩ := A
  dsimp only [Pt.U, Pt.locs, Pt.cells, Pt.slots] at h1 h2 h3 h4 h5 X hn hPc ⊢
  obtain ⟨methY, cY, hmY, hcY, -, hlY, -, -, -, -⟩ := Cond.code_spec hn h2
  obtain ⟨kY, hkY, -⟩ := className_of_methodNamed hn
  have hinitY : kY.init = .initialized := Cond.initialized_spec (findClass_of_methodNamed hn) hkY h3
  have h : At U g.method c below := by rw [hg]; exact X.here
  have hlocals9 : W9 + (maxL + 11) + (headSpec ws rm).room.locals ≤ R.locals := hlocals
  have happ : (headSpec ws rm).appliesLoose y e.platform (U.calling g mk a) = true :=
    Spec.appliesLoose_calling (g := g) h hdg hn hkY hinitY
      (X.room_calling (g := g) (R' := (headSpec ws rm).room) hsize hmY hcY hframes (by rw [hlY]; omega) h4 h5) h1
  obtain ⟨mid, hmid⟩ := h.above
  have hfr : (U.setTop g).frames = (.java g :: mid) ++ below := by rw [State.frames_setTop' g h.top, hmid]; rfl
  obtain ⟨o, s₂, hsteps, -, hend, hq⟩ := Steps.callFree hM p X.admits X.cas X.clock (acts := []) hfr happ hPc trivial
  have hq' : vx_Q Qc XC mc ms free a (U.calling g mk a) o s₂ := hq
  rw [State.frames_setTop' g h.top] at hend
  obtain ⟨g₀, hg0⟩ := Option.isSome_iff_exists.mp h.top
  obtain ⟨r, hr⟩ := State.topJava?_eq_some.mp hg0
  have hr' : (({ U with heap := s₂.heap, slotsUsed := s₂.slotsUsed } : State).setVm s₂.vm).frames = .java g₀ :: r := hr
  rcases hq' with ⟨hqc, L, hfe, hL⟩ | ⟨q, rfl, E, ce, L, hx, hce, hcv, hcl, hW₂, hsm, hL⟩
  · obtain ⟨⟨v, rfl⟩, hW₂, e2, q2, q3, q4, q5, q6⟩ := id hfe
    have e3 : s₂ = ({ (U.calling g mk a).setFrames s₂.frames with heap := s₂.heap, slotsUsed := s₂.slotsUsed } : State).setVm s₂.vm := by
      have : s₂ = ({ s₂ with vm := (U.calling g mk a).vm } : State).setVm s₂.vm := rfl
      rw [e2] at this
      exact this
    obtain ⟨c₂, i₂, len₂, hc₂, hd₂, hf₂⟩ := hend
    have hW' : U.WarmedH s₂.vm := hW₂
    have hcc : c₂ = c := by
      have h1 : s₂.code? g.method = U.code? g.method := by
        rw [State.code?_eq, State.code?_eq, hW'.alike.method?]
      exact Option.some.inj (hc₂.symm.trans (h1.trans h.code))
    subst hcc
    have hlen : len₂ = len := by rw [hdg] at hd₂; cases hd₂; rfl
    subst hlen
    have hs₂ : s₂ = (({ U with heap := s₂.heap, slotsUsed := s₂.slotsUsed } : State).setVm s₂.vm).setTop { g with pc := g.pc + len₂, stack := v.toList ++ g.stack } := by
      refine e3.trans ?_
      rw [hf₂, State.calling_eq h.top, State.setFrames_setFrames, State.setTop_of_frames _ hr', hr]
      rfl
    have hsame : U.sameButNew ({ U with heap := s₂.heap, slotsUsed := s₂.slotsUsed } : State) L mc ms := by
      refine ⟨?_, q2, q3, q4, q5, q6⟩
      obtain ⟨t, ht, -⟩ := State.frames_cons hr
      show ({ U with heap := s₂.heap, slotsUsed := s₂.slotsUsed } : State) = { U.setFrames U.frames with heap := s₂.heap, slotsUsed := s₂.slotsUsed }
      rw [State.setFrames_self ht]
    subst hg
    refine Or.inl ⟨v, ⟨(({ U with heap := s₂.heap, slotsUsed := s₂.slotsUsed } : State).setVm s₂.vm), Ls ++ L, c0 + mc, s0 + ms⟩,
      ⟨X.admits, X.cas, X.clock, X.frames, X.room, X.hears, X.method, X.code, (X.here.setHeapUsed s₂.heap s₂.slotsUsed).setVm hW'.alike, X.tail, State.WarmedH.trans X.warmed hW', X.limits, X.bytes, X.same.trans (hsame.setVm s.vm)⟩,
      ⟨g, mk, s₂, L, rfl, rfl, hqc, rfl, hL, rfl, rfl⟩, ?_⟩
    show Steps p.tables e below _ ((({ U with heap := s₂.heap, slotsUsed := s₂.slotsUsed } : State).setVm s₂.vm).setTop { g with pc := g.pc + len₂, stack := v.toList ++ g.stack })
    rw [← hs₂]
    exact hsteps
  · obtain ⟨e2, q2, q3, q4, q5, q6⟩ := id hsm
    have e3 : s₂ = ({ (U.calling g mk a).setFrames s₂.frames with heap := s₂.heap, slotsUsed := s₂.slotsUsed } : State).setVm s₂.vm := by
      have : s₂ = ({ s₂ with vm := (U.calling g mk a).vm } : State).setVm s₂.vm := rfl
      rw [e2] at this
      exact this
    have hf₂ : s₂.frames = .throwing q :: .java g :: U.frames.tail := hend
    have hW' : U.WarmedH s₂.vm := hW₂
    have hs₂ : s₂ = ((({ U with heap := s₂.heap, slotsUsed := s₂.slotsUsed } : State).setVm s₂.vm).setTop g).pushFrame (.throwing q) := by
      refine e3.trans ?_
      rw [hf₂, State.calling_eq h.top, State.setFrames_setFrames, State.pushFrame, State.frames_setTop _ hr', State.setTop_of_frames _ hr', State.setFrames_setFrames, hr]
      rfl
    have hsame : U.sameButNew ({ U with heap := s₂.heap, slotsUsed := s₂.slotsUsed } : State) L mc ms := by
      refine ⟨?_, q2, q3, q4, q5, q6⟩
      obtain ⟨t, ht, -⟩ := State.frames_cons hr
      show ({ U with heap := s₂.heap, slotsUsed := s₂.slotsUsed } : State) = { U.setFrames U.frames with heap := s₂.heap, slotsUsed := s₂.slotsUsed }
      rw [State.setFrames_self ht]
    subst hg
    refine Or.inr ⟨q, ⟨(({ U with heap := s₂.heap, slotsUsed := s₂.slotsUsed } : State).setVm s₂.vm), Ls ++ L, c0 + mc, s0 + ms⟩,
      ⟨X.admits, X.cas, X.clock, X.frames, X.room, X.hears, X.method, X.code, (X.here.setHeapUsed s₂.heap s₂.slotsUsed).setVm hW'.alike, X.tail, State.WarmedH.trans X.warmed hW', X.limits, X.bytes, X.same.trans (hsame.setVm s.vm)⟩,
      ⟨g, mk, s₂, L, E, ce, rfl, rfl, hx, hce, hcv, hcl, rfl, hL, rfl, rfl⟩, ?_⟩
    show Steps p.tables e below _ (((({ U with heap := s₂.heap, slotsUsed := s₂.slotsUsed } : State).setVm s₂.vm).setTop g).pushFrame (.throwing q))
    rw [← hs₂]
    exact hsteps
end Payer
section Calls
variable {p : Program} {l : Launch} {e : Env} {R : Room} {s : State} {m : MethodId} {args : Array Value} {below : List Frame} {meth : Method} {c : Code} {T : State} {locs : List Loc} {cells slots : Nat}
theorem vx_callV (X : Stand p l e R s m args below meth c T locs cells slots) (hexec : p.tables.exec = Jvm.exec) {own C : String} {index : Nat} {y : MethodName} {bytes : ByteArray} {maxL : Nat} {ret : Option FieldType}
    (hown : s.vm.findClass own = some m.cls) (hlink : (Cond.methodLink own index y).before args s = true) (hinst : (Cond.instanceMethod y).before args s = true) (hsel : (Cond.selects C y y).before args s = true)
    (hcode : (Cond.code y bytes maxL ret).before args s = true) (hy : y.cls ≠ "java/lang/invoke/MethodHandle" ∧ y.cls ≠ "java/lang/invoke/VarHandle")
    {W9 : Nat} {Pre : Pt → Array Value → Prop} {Post : Pt → Array Value → Option Value → Pt → Prop} {PostX : Pt → Array Value → Addr → Pt → Prop} (hK : vx_Back l R p e below s args y 3 W9 Pre Post PostX)
    {b : Addr} {cellB : Cell} (hcell : T.heap[b]? = some cellB) (hobj : cellB.vm.isStatics = false) (hcls : s.vm.findClass C = some cellB.cls)
    {g : JFrame} (hg : g.method = m) (hsize : g.locals.size = c.maxLocals) {argsL rest : List Value} (hlen : ∀ sig, parseMethodDescriptor y.desc = some sig → argsL.length = sig.parameters.length)
    (hstack : g.stack = argsL.reverse ++ .ref b :: rest) (hW : 2 * g.monitorRoom + (rest.map fun v => v.category).sum ≤ W9) (hdg : decode c.code g.pc = .ok (.invokevirtual index, 3))
    (hpre : ∀ vm₁, s.WarmedH vm₁ → Pre ⟨T.setVm vm₁, locs, cells, slots⟩ (Value.ref b :: argsL).toArray) :
    (∃ (v : Option Value) (vm₁ : Vm) (B : Pt), s.WarmedH vm₁ ∧ Stand p l e R s m args below meth c B.U B.locs B.cells B.slots ∧ Post ⟨T.setVm vm₁, locs, cells, slots⟩ (Value.ref b :: argsL).toArray v B ∧
      ∀ target, Steps p.tables e below (B.U.setTop { g with pc := g.pc + 3, stack := v.toList ++ rest }) target → Steps p.tables e below (T.setTop g) target) ∨
    (∃ (q : Addr) (vm₁ : Vm) (B : Pt), s.WarmedH vm₁ ∧ Stand p l e R s m args below meth c B.U B.locs B.cells B.slots ∧ PostX ⟨T.setVm vm₁, locs, cells, slots⟩ (Value.ref b :: argsL).toArray q B ∧
      Steps p.tables e below (T.setTop g) ((B.U.setTop { g with stack := rest }).pushFrame (.throwing q))) := by
  obtain ⟨mk, methM, hnamed, hmethM, hstM, habM⟩ := Cond.instanceMethod_spec hinst
  obtain ⟨methM', cM, hmethM', -, -, -, -, -, -, hsigM⟩ := Cond.code_spec hnamed hcode
  cases hmethM.symm.trans hmethM'
  obtain ⟨c2, r2, m2, q1, q2, q3, q4, kP, hkP, hkPi⟩ := Cond.selects_spec hsel
  cases hcls.symm.trans q1
  cases (State.methodFound?_of_named hnamed hy).symm.trans q2
  cases hnamed.symm.trans q3
  have hselP : selectMethod e.platform s.vm cellB.cls mk = .method mk := by rw [Launch.admits_selectMethod X.admits]; exact q4
  obtain ⟨vm₁, X₁, hstep₁⟩ := X.invokevirtual hexec hown hlink hnamed hmethM hstM hkP hkPi hy (a := b) (cell := cellB) hcell
    (fun z h => by rw [h] at hobj; cases hobj) hselP hmethM habM hkP hkPi (g := g) hg (argsL := argsL) (rest := rest) (hlen _ hsigM) hstack hdg
  rcases hK m meth c ⟨T.setVm vm₁, locs, cells, slots⟩ { g with stack := rest } (.invokevirtual index) mk (Value.ref b :: argsL).toArray X₁ hg hsize hdg hW (X₁.named hnamed) (hpre vm₁ X₁.warmed) with ⟨v, B, X', hpost, hsteps⟩ | ⟨q, B, X', hpost, hsteps⟩
  · exact Or.inl ⟨v, vm₁, B, X₁.warmed, X', hpost, fun target h => hstep₁ _ fun acts => by rw [doInvoke_state]; exact hsteps.trans h⟩
  · exact Or.inr ⟨q, vm₁, B, X₁.warmed, X', hpost, hstep₁ _ fun acts => by rw [doInvoke_state]; exact hsteps⟩
theorem vx_callS (X : Stand p l e R s m args below meth c T locs cells slots) (hexec : p.tables.exec = Jvm.exec) {own : String} {index : Nat} {y : MethodName} {bytes : ByteArray} {maxL : Nat} {ret : Option FieldType}
    (hown : s.vm.findClass own = some m.cls) (hlink : (Cond.methodLink own index y).before args s = true) (hstat : (Cond.static y).before args s = true) (hinit : (Cond.initialized y.cls).before args s = true)
    (hcode : (Cond.code y bytes maxL ret).before args s = true) (hy : y.cls ≠ "java/lang/invoke/MethodHandle" ∧ y.cls ≠ "java/lang/invoke/VarHandle")
    {W9 : Nat} {Pre : Pt → Array Value → Prop} {Post : Pt → Array Value → Option Value → Pt → Prop} {PostX : Pt → Array Value → Addr → Pt → Prop} (hK : vx_Back l R p e below s args y 3 W9 Pre Post PostX)
    {g : JFrame} (hg : g.method = m) (hsize : g.locals.size = c.maxLocals) {argsL rest : List Value} (hlen : ∀ sig, parseMethodDescriptor y.desc = some sig → argsL.length = sig.parameters.length)
    (hstack : g.stack = argsL.reverse ++ rest) (hW : 2 * g.monitorRoom + (rest.map fun v => v.category).sum ≤ W9) (hdg : decode c.code g.pc = .ok (.invokestatic index, 3))
    (hpre : ∀ vm₁, s.WarmedH vm₁ → Pre ⟨T.setVm vm₁, locs, cells, slots⟩ argsL.toArray) :
    (∃ (v : Option Value) (vm₁ : Vm) (B : Pt), s.WarmedH vm₁ ∧ Stand p l e R s m args below meth c B.U B.locs B.cells B.slots ∧ Post ⟨T.setVm vm₁, locs, cells, slots⟩ argsL.toArray v B ∧
      ∀ target, Steps p.tables e below (B.U.setTop { g with pc := g.pc + 3, stack := v.toList ++ rest }) target → Steps p.tables e below (T.setTop g) target) ∨
    (∃ (q : Addr) (vm₁ : Vm) (B : Pt), s.WarmedH vm₁ ∧ Stand p l e R s m args below meth c B.U B.locs B.cells B.slots ∧ PostX ⟨T.setVm vm₁, locs, cells, slots⟩ argsL.toArray q B ∧
      Steps p.tables e below (T.setTop g) ((B.U.setTop { g with stack := rest }).pushFrame (.throwing q))) := by
  obtain ⟨mk, hnamed⟩ := Cond.code_named hcode
  obtain ⟨methM, cM, hmethM, -, -, -, -, -, -, hsigM⟩ := Cond.code_spec hnamed hcode
  have hstatic : methM.isStatic = true := Cond.static_spec hnamed hmethM hstat
  obtain ⟨kP, hkP, -⟩ := className_of_methodNamed hnamed
  have hinitP : kP.init = .initialized := Cond.initialized_spec (findClass_of_methodNamed hnamed) hkP hinit
  obtain ⟨vm₁, X₁, hstep₁⟩ := X.invokestatic hexec hown hlink hnamed hmethM hstatic hkP hinitP hy (g := g) hg (argsL := argsL) (rest := rest) (hlen _ hsigM) hstack hdg
  rcases hK m meth c ⟨T.setVm vm₁, locs, cells, slots⟩ { g with stack := rest } (.invokestatic index) mk argsL.toArray X₁ hg hsize hdg hW (X₁.named hnamed) (hpre vm₁ X₁.warmed) with ⟨v, B, X', hpost, hsteps⟩ | ⟨q, B, X', hpost, hsteps⟩
  · exact Or.inl ⟨v, vm₁, B, X₁.warmed, X', hpost, fun target h => hstep₁ _ fun acts => by rw [doInvoke_state]; exact hsteps.trans h⟩
  · exact Or.inr ⟨q, vm₁, B, X₁.warmed, X', hpost, hstep₁ _ fun acts => by rw [doInvoke_state]; exact hsteps⟩
end Calls
theorem vx_cls {s : State} {T : State} {vm₁ : Vm} {E : String} {k : ClassId} (hW : s.WarmedH vm₁) (h : (T.setVm vm₁).vm.findClass E = some k) : s.vm.findClass E = some k := by
  have h1 : vm₁.findClass E = some k := h
  rw [hW.alike.findClass] at h1
  exact h1
/-- the method's frame g, with q thrown over it -/
def vx_W (p : Program) (l : Launch) (e : Env) (R : Room) (s : State) (m : MethodId) (args : Array Value) (below : List Frame) (meth : Method) (c : Code) (H : Heap) (locs : List Loc) (cells slots : Nat) (Q : State → Prop) (g : JFrame) (q : Addr) : Prop :=
  ∀ T : State, T.heap = H → Stand p l e R s m args below meth c T locs cells slots → ∃ t, Steps p.tables e below ((T.setTop g).pushFrame (.throwing q)) t ∧ Q t
def vx_Run (p : Program) (l : Launch) (e : Env) (R : Room) (s : State) (m : MethodId) (args : Array Value) (below : List Frame) (meth : Method) (c : Code) (H : Heap) (locs : List Loc) (cells slots mc ms : Nat) (g : JFrame) (rest : List Value) (Qa : State → Outcome → State → Prop) (XC : String → State → State → Prop) (free : Addr → Prop) : Prop :=
  ∀ T : State, T.heap = H → Stand p l e R s m args below meth c T locs cells slots →
    (∃ (v : Option Value) (st₀ t T' : State) (L : List Loc), st₀.heap = H ∧ Stand p l e R s m args below meth c T' (locs ++ L) (cells + mc) (slots + ms) ∧ (∀ q ∈ L, free q.base) ∧ T'.heap = t.heap ∧ T'.vm = t.vm ∧ Qa st₀ (.returned v) t ∧
      Goes p e below T g T' { g with pc := g.pc + 3, stack := v.toList ++ rest }) ∨
    (∃ (q : Addr) (st₀ t T' : State) (L : List Loc) (E : String) (ce : Cell), st₀.heap = H ∧ Stand p l e R s m args below meth c T' (locs ++ L) (cells + mc) (slots + ms) ∧ (∀ z ∈ L, free z.base) ∧ T'.heap = t.heap ∧ T'.vm = t.vm ∧ XC E st₀ t ∧ t.heap[q]? = some ce ∧ ce.vm = .none ∧ s.vm.findClass E = some ce.cls ∧
      Steps p.tables e below (T.setTop g) ((T'.setTop { g with stack := rest }).pushFrame (.throwing q)))
def vx_X {S : Type} (px : S → Prop) (B : String → S → State → Prop) (A : Nat → Prop) : String → State → State → Prop := fun E st t => ∃ u : S, px u ∧ B E u t ∧ va_F A st t
section Runs
variable {p : Program} {l : Launch} {e : Env} {R : Room} {s : State} {m : MethodId} {args : Array Value} {below : List Frame} {meth : Method} {c : Code} {H : Heap} {locs : List Loc} {cells slots : Nat}
variable {y : MethodName} {bytes cc : ByteArray} {maxL nL mc ms n index : Nat} {ret : Option FieldType} {ws : List Cond} {rm : Room} {Pc : Array Value → State → Prop} {Qc : Array Value → State → Outcome → State → Prop} {XC : String → State → State → Prop} {free : Addr → Prop} {Ts : List Cond} {own C : String} {b : Addr} {As rest : List Value} {g : JFrame}
theorem vx_callBack (cb : CallB R s args own index y bytes maxL ret ws rm mc ms n) (hM : vx_Met l y ws rm Pc Qc XC mc ms free) (hbl : FrameBlind Pc) : vx_Back l R p e below s args y 3 8 (PreOf R mc ms Pc) (PostOf Qc mc ms free) (vx_Post XC mc ms free) := by
  obtain ⟨hrc, hrs, hfr, hlo, hws, hcw, -, hini, -⟩ := cb
  exact vx_back (bytes := bytes) (maxL := maxL) (ret := ret) hM hbl hrc hrs hfr hlo hws hcw (fun a' U hW => word_at hW (Or.inl (by first | rfl | simp [Cond.onTables, Cond.keeps, Cond.steady])) hini)
theorem vx_runV (S : CallFix p m c cc nL s args Ts own) (hM : vx_Met l y ws rm Pc Qc XC mc ms free) (cw : CallW R s args own C index y bytes maxL ret ws rm mc ms n) (hp : PreV s H C b Pc As)
    (hg : g.method = m) (hn : As.length = n) (hsize : g.locals.size = nL) (hstack : g.stack = As.reverse ++ .ref b :: rest) (hW : 2 * g.monitorRoom + (rest.map fun v => v.category).sum ≤ 8) (hdg : decode cc g.pc = .ok (.invokevirtual index, 3)) (hf : cells + mc ≤ R.cells ∧ slots + ms ≤ R.slots) :
    vx_Run p l e R s m args below meth c H locs cells slots mc ms g rest (Qc (Value.ref b :: As).toArray) XC free := by
  have hK : vx_Back l R p e below s args y 3 8 (PreOf R mc ms Pc) (PostOf Qc mc ms free) (vx_Post XC mc ms free) := vx_callBack cw.1 hM hp.1
  obtain ⟨⟨-, -, -, -, -, -, hcode, -, hy, hlen, hl⟩, hin, hse⟩ := cw
  obtain ⟨hx, hb, hml, ho, -⟩ := S
  obtain ⟨-, ⟨cellB, hcB, hoB, hclB⟩, hPc⟩ := hp
  intro T hT X
  rcases vx_callV X hx (C := C) (bytes := bytes) (maxL := maxL) (ret := ret) ho hl hin hse hcode hy hK (by rw [hT]; exact hcB) hoB hclB hg (hsize.trans hml.symm) (argsL := As) (rest := rest) (fun sig h => hn.trans (hlen sig h)) hstack hW (by rw [hb]; exact hdg)
    (fun vm₁ hW₁ => ⟨hf.1, hf.2, hPc (T.setVm vm₁) hT hW₁⟩) with ⟨v, vm₁, ⟨U', l2, c2, s2⟩, hW₁, X', ⟨g', mk, t, L, e1, e2, hq, h1, hL, h2, h3⟩, st⟩ | ⟨q, vm₁, ⟨U', l2, c2, s2⟩, hW₁, X', ⟨g', mk, t, L, E, ce, e1, e2, hq, hce, hcv, hcl, h1, hL, h2, h3⟩, st⟩
  · dsimp only [Pt.U, Pt.locs, Pt.cells, Pt.slots] at X' e1 e2 h1 h2 h3 st
    subst h1; subst h2; subst h3
    exact Or.inl ⟨v, (T.setVm vm₁).calling g' mk (Value.ref b :: As).toArray, t, U', L, hT, X', hL, e1, e2, hq, st⟩
  · dsimp only [Pt.U, Pt.locs, Pt.cells, Pt.slots] at X' e1 e2 h1 h2 h3 st hcl
    subst h1; subst h2; subst h3
    exact Or.inr ⟨q, (T.setVm vm₁).calling g' mk (Value.ref b :: As).toArray, t, U', L, E, ce, hT, X', hL, e1, e2, hq, hce, hcv, vx_cls hW₁ hcl, st⟩
theorem vx_runS (S : CallFix p m c cc nL s args Ts own) (hM : vx_Met l y ws rm Pc Qc XC mc ms free) (cw : CallB R s args own index y bytes maxL ret ws rm mc ms n ∧ (Cond.static y).before args s = true) (hp : PreS s H Pc As)
    (hg : g.method = m) (hn : As.length = n) (hsize : g.locals.size = nL) (hstack : g.stack = As.reverse ++ rest) (hW : 2 * g.monitorRoom + (rest.map fun v => v.category).sum ≤ 8) (hdg : decode cc g.pc = .ok (.invokestatic index, 3)) (hf : cells + mc ≤ R.cells ∧ slots + ms ≤ R.slots) :
    vx_Run p l e R s m args below meth c H locs cells slots mc ms g rest (Qc As.toArray) XC free := by
  have hK : vx_Back l R p e below s args y 3 8 (PreOf R mc ms Pc) (PostOf Qc mc ms free) (vx_Post XC mc ms free) := vx_callBack cw.1 hM hp.1
  obtain ⟨⟨-, -, -, -, -, -, hcode, hini, hy, hlen, hl⟩, hstt⟩ := cw
  obtain ⟨hx, hb, hml, ho, -⟩ := S
  intro T hT X
  rcases vx_callS X hx (bytes := bytes) (maxL := maxL) (ret := ret) ho hl hstt hini hcode hy hK hg (hsize.trans hml.symm) (argsL := As) (rest := rest) (fun sig h => hn.trans (hlen sig h)) hstack hW (by rw [hb]; exact hdg)
    (fun vm₁ hW₁ => ⟨hf.1, hf.2, hp.2 (T.setVm vm₁) hT hW₁⟩) with ⟨v, vm₁, ⟨U', l2, c2, s2⟩, hW₁, X', ⟨g', mk, t, L, e1, e2, hq, h1, hL, h2, h3⟩, st⟩ | ⟨q, vm₁, ⟨U', l2, c2, s2⟩, hW₁, X', ⟨g', mk, t, L, E, ce, e1, e2, hq, hce, hcv, hcl, h1, hL, h2, h3⟩, st⟩
  · dsimp only [Pt.U, Pt.locs, Pt.cells, Pt.slots] at X' e1 e2 h1 h2 h3 st
    subst h1; subst h2; subst h3
    exact Or.inl ⟨v, (T.setVm vm₁).calling g' mk As.toArray, t, U', L, hT, X', hL, e1, e2, hq, st⟩
  · dsimp only [Pt.U, Pt.locs, Pt.cells, Pt.slots] at X' e1 e2 h1 h2 h3 st hcl
    subst h1; subst h2; subst h3
    exact Or.inr ⟨q, (T.setVm vm₁).calling g' mk As.toArray, t, U', L, E, ce, hT, X', hL, e1, e2, hq, hce, hcv, vx_cls hW₁ hcl, st⟩
end Runs
section Rows
variable {p : Program} {l : Launch} {e : Env} {R : Room} {s : State} {m : MethodId} {args : Array Value} {below : List Frame} {meth : Method} {c : Code} {H : Heap} {locs : List Loc} {cells slots : Nat} {Q : State → Prop}
variable {mc ms : Nat} {free : Addr → Prop} {A0 A1 : Nat → Prop} {H0 : Heap} {a : Array Value} {pc : Nat} {ls : Array Slot} {st0 rest : List Value}
theorem vx_keep {st₀ t T' : State} {L : List Loc} (h0 : st₀.heap = H) (e1 : T'.heap = t.heap) (hS : va_S A0 H0 H locs) (hA : ∀ q, q < H.size → A1 q → A0 q) (hf : ∀ q, free q → A0 q) (hL : ∀ q ∈ L, free q.base) (hF : va_F A1 st₀ t) :
    H.size ≤ T'.heap.size ∧ (∀ q : Nat, q < H.size → ¬ A1 q → T'.heap[q]? = H[q]?) ∧ va_S A0 H0 T'.heap (locs ++ L) := by
  obtain ⟨hz, hk⟩ := hF
  rw [h0] at hz hk
  exact ⟨by rw [e1]; exact hz, fun q h1 h2 => by rw [e1]; exact hk q h1 h2,
    ⟨Nat.le_trans hS.1 (by rw [e1]; exact hz), fun q h1 h2 => by rw [e1, hk q (Nat.lt_of_lt_of_le h1 hS.1) (fun z => h2 (hA q (Nat.lt_of_lt_of_le h1 hS.1) z))]; exact hS.2.1 q h1 h2, fun q hq => by
      rcases List.mem_append.mp hq with h | h
      · exact hS.2.2 q h
      · exact hf _ (hL q h)⟩⟩
theorem vx_calli {S SX : Type} {post : Int32 → S → Prop} {px : SX → Prop} {B : S → State → Prop} {BX : String → SX → State → Prop} {AX : Nat → Prop} (hr : vx_Run p l e R s m args below meth c H locs cells slots mc ms (F0 m pc ls st0) rest (va_Qi post B A1 a) (vx_X px BX AX) free) (hS : va_S A0 H0 H locs) (hA : ∀ q, q < H.size → A1 q → A0 q) (hf : ∀ q, free q → A0 q) (hAX : ∀ q, q < H.size → AX q → A0 q)
    (kx : ∀ (E : String) (ce : Cell) (q9 : Addr) (u : SX) (t : State) (H1 : Heap) (locs1 : List Loc), t.heap = H1 → s.vm.Alike t.vm → px u → BX E u t → H.size ≤ H1.size → (∀ q : Nat, q < H.size → ¬ AX q → H1[q]? = H[q]?) → va_S A0 H0 H1 locs1 → H1[q9]? = some ce → ce.vm = .none → s.vm.findClass E = some ce.cls → vx_W p l e R s m args below meth c H1 locs1 (cells + mc) (slots + ms) Q (F0 m pc ls rest) q9)
    (kk : ∀ (r : Int32) (u : S) (t : State) (H1 : Heap) (locs1 : List Loc), t.heap = H1 → s.vm.Alike t.vm → post r u → B u t → H.size ≤ H1.size → (∀ q : Nat, q < H.size → ¬ A1 q → H1[q]? = H[q]?) → va_S A0 H0 H1 locs1 → W p l e R s m args below meth c H1 locs1 (cells + mc) (slots + ms) Q (F0 m (pc + 3) ls (.int r :: rest))) : W p l e R s m args below meth c H locs cells slots Q (F0 m pc ls st0) := by
  intro T hT X
  rcases hr T hT X with ⟨v, st₀, t, T', L, h0, X', hL, e1, e2, ⟨⟨r, u, hv, hp, hb⟩, hF⟩, st⟩ | ⟨q, st₀, t, T', L, E, ce, h0, X', hL, e1, e2, ⟨u, hp, hb, hF⟩, hce, hcv, hcl, st⟩
  · cases hv
    obtain ⟨k1, k2, k3⟩ := vx_keep h0 e1 hS hA hf hL hF
    obtain ⟨t2, a1, b1⟩ := kk r u t T'.heap (locs ++ L) e1.symm (by rw [← e2]; exact X'.warmed.alike) hp hb k1 k2 k3 T' rfl X'
    exact ⟨t2, st t2 a1, b1⟩
  · obtain ⟨k1, k2, k3⟩ := vx_keep h0 e1 hS hAX hf hL hF
    obtain ⟨t2, a1, b1⟩ := kx E ce q u t T'.heap (locs ++ L) e1.symm (by rw [← e2]; exact X'.warmed.alike) hp hb k1 k2 k3 (by rw [e1]; exact hce) hcv hcl T' rfl X'
    exact ⟨t2, st.trans a1, b1⟩
theorem vx_calll {S SX : Type} {post : Int64 → S → Prop} {px : SX → Prop} {B : S → State → Prop} {BX : String → SX → State → Prop} {AX : Nat → Prop} (hr : vx_Run p l e R s m args below meth c H locs cells slots mc ms (F0 m pc ls st0) rest (va_Ql post B A1 a) (vx_X px BX AX) free) (hS : va_S A0 H0 H locs) (hA : ∀ q, q < H.size → A1 q → A0 q) (hf : ∀ q, free q → A0 q) (hAX : ∀ q, q < H.size → AX q → A0 q)
    (kx : ∀ (E : String) (ce : Cell) (q9 : Addr) (u : SX) (t : State) (H1 : Heap) (locs1 : List Loc), t.heap = H1 → s.vm.Alike t.vm → px u → BX E u t → H.size ≤ H1.size → (∀ q : Nat, q < H.size → ¬ AX q → H1[q]? = H[q]?) → va_S A0 H0 H1 locs1 → H1[q9]? = some ce → ce.vm = .none → s.vm.findClass E = some ce.cls → vx_W p l e R s m args below meth c H1 locs1 (cells + mc) (slots + ms) Q (F0 m pc ls rest) q9)
    (kk : ∀ (r : Int64) (u : S) (t : State) (H1 : Heap) (locs1 : List Loc), t.heap = H1 → s.vm.Alike t.vm → post r u → B u t → H.size ≤ H1.size → (∀ q : Nat, q < H.size → ¬ A1 q → H1[q]? = H[q]?) → va_S A0 H0 H1 locs1 → W p l e R s m args below meth c H1 locs1 (cells + mc) (slots + ms) Q (F0 m (pc + 3) ls (.long r :: rest))) : W p l e R s m args below meth c H locs cells slots Q (F0 m pc ls st0) := by
  intro T hT X
  rcases hr T hT X with ⟨v, st₀, t, T', L, h0, X', hL, e1, e2, ⟨⟨r, u, hv, hp, hb⟩, hF⟩, st⟩ | ⟨q, st₀, t, T', L, E, ce, h0, X', hL, e1, e2, ⟨u, hp, hb, hF⟩, hce, hcv, hcl, st⟩
  · cases hv
    obtain ⟨k1, k2, k3⟩ := vx_keep h0 e1 hS hA hf hL hF
    obtain ⟨t2, a1, b1⟩ := kk r u t T'.heap (locs ++ L) e1.symm (by rw [← e2]; exact X'.warmed.alike) hp hb k1 k2 k3 T' rfl X'
    exact ⟨t2, st t2 a1, b1⟩
  · obtain ⟨k1, k2, k3⟩ := vx_keep h0 e1 hS hAX hf hL hF
    obtain ⟨t2, a1, b1⟩ := kx E ce q u t T'.heap (locs ++ L) e1.symm (by rw [← e2]; exact X'.warmed.alike) hp hb k1 k2 k3 (by rw [e1]; exact hce) hcv hcl T' rfl X'
    exact ⟨t2, st.trans a1, b1⟩
theorem vx_callf {S SX : Type} {post : UInt32 → S → Prop} {px : SX → Prop} {B : S → State → Prop} {BX : String → SX → State → Prop} {AX : Nat → Prop} (hr : vx_Run p l e R s m args below meth c H locs cells slots mc ms (F0 m pc ls st0) rest (va_Qf post B A1 a) (vx_X px BX AX) free) (hS : va_S A0 H0 H locs) (hA : ∀ q, q < H.size → A1 q → A0 q) (hf : ∀ q, free q → A0 q) (hAX : ∀ q, q < H.size → AX q → A0 q)
    (kx : ∀ (E : String) (ce : Cell) (q9 : Addr) (u : SX) (t : State) (H1 : Heap) (locs1 : List Loc), t.heap = H1 → s.vm.Alike t.vm → px u → BX E u t → H.size ≤ H1.size → (∀ q : Nat, q < H.size → ¬ AX q → H1[q]? = H[q]?) → va_S A0 H0 H1 locs1 → H1[q9]? = some ce → ce.vm = .none → s.vm.findClass E = some ce.cls → vx_W p l e R s m args below meth c H1 locs1 (cells + mc) (slots + ms) Q (F0 m pc ls rest) q9)
    (kk : ∀ (r : UInt32) (u : S) (t : State) (H1 : Heap) (locs1 : List Loc), t.heap = H1 → s.vm.Alike t.vm → post r u → B u t → H.size ≤ H1.size → (∀ q : Nat, q < H.size → ¬ A1 q → H1[q]? = H[q]?) → va_S A0 H0 H1 locs1 → W p l e R s m args below meth c H1 locs1 (cells + mc) (slots + ms) Q (F0 m (pc + 3) ls (.float r :: rest))) : W p l e R s m args below meth c H locs cells slots Q (F0 m pc ls st0) := by
  intro T hT X
  rcases hr T hT X with ⟨v, st₀, t, T', L, h0, X', hL, e1, e2, ⟨⟨r, u, hv, hp, hb⟩, hF⟩, st⟩ | ⟨q, st₀, t, T', L, E, ce, h0, X', hL, e1, e2, ⟨u, hp, hb, hF⟩, hce, hcv, hcl, st⟩
  · cases hv
    obtain ⟨k1, k2, k3⟩ := vx_keep h0 e1 hS hA hf hL hF
    obtain ⟨t2, a1, b1⟩ := kk r u t T'.heap (locs ++ L) e1.symm (by rw [← e2]; exact X'.warmed.alike) hp hb k1 k2 k3 T' rfl X'
    exact ⟨t2, st t2 a1, b1⟩
  · obtain ⟨k1, k2, k3⟩ := vx_keep h0 e1 hS hAX hf hL hF
    obtain ⟨t2, a1, b1⟩ := kx E ce q u t T'.heap (locs ++ L) e1.symm (by rw [← e2]; exact X'.warmed.alike) hp hb k1 k2 k3 (by rw [e1]; exact hce) hcv hcl T' rfl X'
    exact ⟨t2, st.trans a1, b1⟩
theorem vx_calld {S SX : Type} {post : UInt64 → S → Prop} {px : SX → Prop} {B : S → State → Prop} {BX : String → SX → State → Prop} {AX : Nat → Prop} (hr : vx_Run p l e R s m args below meth c H locs cells slots mc ms (F0 m pc ls st0) rest (va_Qd post B A1 a) (vx_X px BX AX) free) (hS : va_S A0 H0 H locs) (hA : ∀ q, q < H.size → A1 q → A0 q) (hf : ∀ q, free q → A0 q) (hAX : ∀ q, q < H.size → AX q → A0 q)
    (kx : ∀ (E : String) (ce : Cell) (q9 : Addr) (u : SX) (t : State) (H1 : Heap) (locs1 : List Loc), t.heap = H1 → s.vm.Alike t.vm → px u → BX E u t → H.size ≤ H1.size → (∀ q : Nat, q < H.size → ¬ AX q → H1[q]? = H[q]?) → va_S A0 H0 H1 locs1 → H1[q9]? = some ce → ce.vm = .none → s.vm.findClass E = some ce.cls → vx_W p l e R s m args below meth c H1 locs1 (cells + mc) (slots + ms) Q (F0 m pc ls rest) q9)
    (kk : ∀ (r : UInt64) (u : S) (t : State) (H1 : Heap) (locs1 : List Loc), t.heap = H1 → s.vm.Alike t.vm → post r u → B u t → H.size ≤ H1.size → (∀ q : Nat, q < H.size → ¬ A1 q → H1[q]? = H[q]?) → va_S A0 H0 H1 locs1 → W p l e R s m args below meth c H1 locs1 (cells + mc) (slots + ms) Q (F0 m (pc + 3) ls (.double r :: rest))) : W p l e R s m args below meth c H locs cells slots Q (F0 m pc ls st0) := by
  intro T hT X
  rcases hr T hT X with ⟨v, st₀, t, T', L, h0, X', hL, e1, e2, ⟨⟨r, u, hv, hp, hb⟩, hF⟩, st⟩ | ⟨q, st₀, t, T', L, E, ce, h0, X', hL, e1, e2, ⟨u, hp, hb, hF⟩, hce, hcv, hcl, st⟩
  · cases hv
    obtain ⟨k1, k2, k3⟩ := vx_keep h0 e1 hS hA hf hL hF
    obtain ⟨t2, a1, b1⟩ := kk r u t T'.heap (locs ++ L) e1.symm (by rw [← e2]; exact X'.warmed.alike) hp hb k1 k2 k3 T' rfl X'
    exact ⟨t2, st t2 a1, b1⟩
  · obtain ⟨k1, k2, k3⟩ := vx_keep h0 e1 hS hAX hf hL hF
    obtain ⟨t2, a1, b1⟩ := kx E ce q u t T'.heap (locs ++ L) e1.symm (by rw [← e2]; exact X'.warmed.alike) hp hb k1 k2 k3 (by rw [e1]; exact hce) hcv hcl T' rfl X'
    exact ⟨t2, st.trans a1, b1⟩
theorem vx_callv {S SX : Type} {post : S → Prop} {px : SX → Prop} {B : S → State → Prop} {BX : String → SX → State → Prop} {AX : Nat → Prop} (hr : vx_Run p l e R s m args below meth c H locs cells slots mc ms (F0 m pc ls st0) rest (va_Qv post B A1 a) (vx_X px BX AX) free) (hS : va_S A0 H0 H locs) (hA : ∀ q, q < H.size → A1 q → A0 q) (hf : ∀ q, free q → A0 q) (hAX : ∀ q, q < H.size → AX q → A0 q)
    (kx : ∀ (E : String) (ce : Cell) (q9 : Addr) (u : SX) (t : State) (H1 : Heap) (locs1 : List Loc), t.heap = H1 → s.vm.Alike t.vm → px u → BX E u t → H.size ≤ H1.size → (∀ q : Nat, q < H.size → ¬ AX q → H1[q]? = H[q]?) → va_S A0 H0 H1 locs1 → H1[q9]? = some ce → ce.vm = .none → s.vm.findClass E = some ce.cls → vx_W p l e R s m args below meth c H1 locs1 (cells + mc) (slots + ms) Q (F0 m pc ls rest) q9)
    (kk : ∀ (u : S) (t : State) (H1 : Heap) (locs1 : List Loc), t.heap = H1 → s.vm.Alike t.vm → post u → B u t → H.size ≤ H1.size → (∀ q : Nat, q < H.size → ¬ A1 q → H1[q]? = H[q]?) → va_S A0 H0 H1 locs1 → W p l e R s m args below meth c H1 locs1 (cells + mc) (slots + ms) Q (F0 m (pc + 3) ls (rest))) : W p l e R s m args below meth c H locs cells slots Q (F0 m pc ls st0) := by
  intro T hT X
  rcases hr T hT X with ⟨v, st₀, t, T', L, h0, X', hL, e1, e2, ⟨⟨u, hv, hp, hb⟩, hF⟩, st⟩ | ⟨q, st₀, t, T', L, E, ce, h0, X', hL, e1, e2, ⟨u, hp, hb, hF⟩, hce, hcv, hcl, st⟩
  · cases hv
    obtain ⟨k1, k2, k3⟩ := vx_keep h0 e1 hS hA hf hL hF
    obtain ⟨t2, a1, b1⟩ := kk u t T'.heap (locs ++ L) e1.symm (by rw [← e2]; exact X'.warmed.alike) hp hb k1 k2 k3 T' rfl X'
    exact ⟨t2, st t2 a1, b1⟩
  · obtain ⟨k1, k2, k3⟩ := vx_keep h0 e1 hS hAX hf hL hF
    obtain ⟨t2, a1, b1⟩ := kx E ce q u t T'.heap (locs ++ L) e1.symm (by rw [← e2]; exact X'.warmed.alike) hp hb k1 k2 k3 (by rw [e1]; exact hce) hcv hcl T' rfl X'
    exact ⟨t2, st.trans a1, b1⟩
/-- caught by the row x of this method's table; the rows ahead don't take it -/
theorem vx_catch {own name : String} {E : String} {ce : Cell} {q : Addr} (hown : s.vm.findClass own = some m.cls) (pre : List ExceptionTableEntry) (x : ExceptionTableEntry) (suf : List ExceptionTableEntry) (hsplit : c.exceptionTable.toList = pre ++ x :: suf)
    (hpass : ∀ z ∈ pre, covers z pc = false ∨ (z.catchType ≠ 0 ∧ ∃ nm : String, (Cond.classLink own z.catchType nm).before args s = true ∧ va_Nc E nm s)) (hx : covers x pc = true) (h0 : x.catchType ≠ 0)
    (hlink : (Cond.classLink own x.catchType name).before args s = true) (hcast : (Cond.castable E name).before args s = true) (hcell : H[q]? = some ce) (hv : ce.vm = .none) (hcl : s.vm.findClass E = some ce.cls)
    (kk : W p l e R s m args below meth c H locs cells slots Q (F0 m x.handlerPc ls [.ref q])) : vx_W p l e R s m args below meth c H locs cells slots Q (F0 m pc ls rest) q := by
  intro T hT X
  have hpl : e.platform.magicAccessors = ({} : Platform).magicAccessors := by rw [X.admits.platform]
  obtain ⟨c3, c4, hc3, hc4, hasg⟩ := Cond.castable_spec hcast
  cases Option.some.inj (hc3.symm.trans hcl)
  obtain ⟨c5, hc5, hcl5⟩ := Cond.classLink_spec hown hlink e.platform hpl
  cases Option.some.inj (hc4.symm.trans hc5)
  obtain ⟨vm', X', st⟩ := X.thenCaughtThrough q (g := F0 m pc ls rest) rfl (Steps.refl _) (by rw [hT]; exact hcell) (by rw [hv]; rfl) (by obtain ⟨k9, h9, -⟩ := Vm.findClass_spec hcl; exact ⟨k9, h9⟩) pre x suf hsplit
    (fun z hz => by
      rcases hpass z hz with h | ⟨hz0, nm, hl1, hn1⟩
      · exact Or.inl h
      · obtain ⟨c6, hc6, hcl6⟩ := Cond.classLink_spec hown hl1 e.platform hpl
        obtain ⟨a8, b8, h1, h2, h3⟩ := hn1
        cases Option.some.inj (h1.symm.trans hcl)
        cases Option.some.inj (h2.symm.trans hc6)
        exact Or.inr ⟨hz0, _, hcl6, h3⟩) hx (Or.inr ⟨h0, c4, hcl5, hasg⟩)
  obtain ⟨t, a1, b1⟩ := kk (T.setVm vm') hT X'
  exact ⟨t, st.trans a1, b1⟩
end Rows
section Ends
variable {p : Program} {l : Launch} {e : Env} {R : Room} {s : State} {m : MethodId} {args : Array Value} {below : List Frame} {meth : Method} {c : Code} {H : Heap} {locs : List Loc} {cells slots : Nat} {Q : State → Prop}
variable {mc ms : Nat} {free : Addr → Prop} {A0 A1 : Nat → Prop} {H0 : Heap} {a : Array Value} {ls : Array Slot} {st0 rest : List Value}
variable {Qc : Array Value → State → Outcome → State → Prop} {XC : String → State → State → Prop}
/-- what a body that may throw owes at its end -/
def vx_MQ (below : List Frame) (Qc : Array Value → State → Outcome → State → Prop) (XC : String → State → State → Prop) (a : Array Value) (s : State) (mc ms : Nat) (free : Addr → Prop) : State → Prop := fun t =>
  ∃ o, t.status = .running ∧ Ended t below o ∧ vx_Q Qc XC mc ms free a s o t
theorem vx_ret {g : JFrame} {mc ms : Nat} (k : W p l e R s m args below meth c H locs cells slots (MQ below Qc args s mc ms free) g) : W p l e R s m args below meth c H locs cells slots (vx_MQ below Qc XC args s mc ms free) g := by
  intro T hT X
  obtain ⟨t, a1, o, b1, b2, b3, b4⟩ := k T hT X
  exact ⟨t, a1, o, b1, b2, Or.inl ⟨b3, b4⟩⟩
/-- not caught here: it goes on to the caller -/
theorem vx_widen {g : JFrame} {q : Addr} {k n : Nat} (h1 : cells ≤ k) (h2 : slots ≤ n) (kk : vx_W p l e R s m args below meth c H locs k n Q g q) : vx_W p l e R s m args below meth c H locs cells slots Q g q := fun T hT X => kk T hT (stand_widen X h1 h2)
theorem vx_out {pc : Nat} {E : String} {ce : Cell} {q : Addr} {mc ms : Nat} (hout : ∀ x ∈ c.exceptionTable.toList, covers x pc = false) (hlocks : meth.locks = false) (hcell : H[q]? = some ce) (hv : ce.vm = .none) (hcl : s.vm.findClass E = some ce.cls)
    (hx : ∀ t : State, t.heap = H → s.vm.Alike t.vm → XC E s t) (hf : ∀ z ∈ locs, free z.base) (hc : cells ≤ mc) (hs : slots ≤ ms) :
    vx_W p l e R s m args below meth c H locs cells slots (vx_MQ below Qc XC args s mc ms free) (F0 m pc ls rest) q := by
  intro T hT X
  obtain ⟨st1, hrun, hend, hW, hsm⟩ := X.leaveThrown q (g := F0 m pc ls rest) rfl rfl rfl hout hlocks
  have hcell9 : (T.setFrames (.throwing q :: below)).heap[q]? = some ce := by
    show T.heap[q]? = some ce
    rw [hT]; exact hcell
  exact ⟨_, st1, .threw q, hrun, hend, Or.inr ⟨q, rfl, E, ce, locs, hx _ hT hW.alike, hcell9, hv, hcl, hW, hsm.mono hc hs, hf⟩⟩
theorem vx_frame {U : State} {k n : Nat} (h : s.sameButNew ({ U with vm := s.vm } : State) locs k n) : s.heap.size ≤ U.heap.size ∧ ∀ q : Nat, q < s.heap.size → (∀ z ∈ locs, z.base ≠ q) → U.heap[q]? = s.heap[q]? := by
  obtain ⟨-, h2, -, -, -, h6⟩ := h
  refine ⟨h2, fun q hq hz => ?_⟩
  obtain ⟨c9, e1, e2, e3, e4⟩ := h6 q _ (Array.getElem?_eq_getElem hq)
  have hs : c9.slots = (s.heap[q]).slots := Array.ext_getElem? fun i => e4 i fun hm => hz _ hm rfl
  have h9 : c9 = s.heap[q] := by
    rw [hs] at e2
    exact e2
  have e5 : U.heap[q]? = some c9 := e1
  rw [e5, h9, Array.getElem?_eq_getElem hq]
/-- the words of a throw but the four that speak of the heap -/
def vx_no (w : Cond) : Bool := decide (w ≠ .isRef (.static Bundle.tN "UNASSIGNED_STACK" Bundle.steD)) && decide (w ≠ .isRef (.static Bundle.tN "SUPPRESSED_SENTINEL" Bundle.listD)) && decide (w ≠ .laysStatic Bundle.tN "UNASSIGNED_STACK" Bundle.steD) && decide (w ≠ .laysStatic Bundle.tN "SUPPRESSED_SENTINEL" Bundle.listD)
def vx_at0 (own : String) (ic : Nat) (X : String) (names : List String) : List Cond := (Bundle.ownAtoms0 own ic X names).filter vx_no
def vx_atS (own : String) (ic : Nat) (X : String) (names : List String) : List Cond := (Bundle.ownAtoms own ic X names).filter vx_no
/-- a word that the tables alone decide, or a good one -/
def vx_ot (w : Cond) : Bool := w.onTables || goodWord w
theorem vx_ot_at {args a' : Array Value} {s U : State} {w : Cond} (hW : s.WarmedH U.vm) (hvm : s.vm = U.vm) (hg : vx_ot w = true) (h : w.before args s = true) : w.before a' U = true := by
  simp only [vx_ot, Bool.or_eq_true] at hg
  rcases hg with hg | hg
  · exact va_tabs hg hvm h
  · exact word_at hW (good_of_word hg) h
/-- a list's words: the good ones out of the method's own list, the others by premises of their own -/
theorem vx_hat {args : Array Value} {s : State} {L B : List Cond} (h1 : ∀ w ∈ L.filter goodWord, w.before args s = true) (h2 : ∀ w ∈ L.filter (fun w => !goodWord w), w ∈ B) (h3 : ∀ w ∈ B, w.before args s = true) : ∀ w ∈ L, w.before args s = true := by
  intro w hw
  by_cases g : goodWord w = true
  · exact h1 w (List.mem_filter.mpr ⟨hw, g⟩)
  · refine h3 w (h2 w (List.mem_filter.mpr ⟨hw, ?_⟩))
    show (!goodWord w) = true
    cases hgw : goodWord w
    · rfl
    · exact absurd hgw g
theorem vx_c {args : Array Value} {s : State} {w : Cond} {B : List Cond} (h : w.before args s = true) (t : ∀ w ∈ B, w.before args s = true) : ∀ w' ∈ w :: B, w'.before args s = true := fun w' h' => (List.mem_cons.mp h').elim (fun e => by rw [e]; exact h) (t w')
theorem vx_n {args : Array Value} {s : State} : ∀ w ∈ ([] : List Cond), w.before args s = true := fun _ h => nomatch h
theorem vx_own {args : Array Value} {s : State} {L : List Cond} (h1 : ∀ w ∈ L.filter vx_no, w.before args s = true)
    (hU : (Cond.isRef (.static Bundle.tN "UNASSIGNED_STACK" Bundle.steD)).before args s = true) (hN : (Cond.isRef (.static Bundle.tN "SUPPRESSED_SENTINEL" Bundle.listD)).before args s = true)
    (lU : (Cond.laysStatic Bundle.tN "UNASSIGNED_STACK" Bundle.steD).before args s = true) (lN : (Cond.laysStatic Bundle.tN "SUPPRESSED_SENTINEL" Bundle.listD).before args s = true) : ∀ w ∈ L, w.before args s = true := by
  intro w hw
  by_cases e1 : w = .isRef (.static Bundle.tN "UNASSIGNED_STACK" Bundle.steD)
  · rw [e1]; exact hU
  · by_cases e2 : w = .isRef (.static Bundle.tN "SUPPRESSED_SENTINEL" Bundle.listD)
    · rw [e2]; exact hN
    · by_cases e3 : w = .laysStatic Bundle.tN "UNASSIGNED_STACK" Bundle.steD
      · rw [e3]; exact lU
      · by_cases e4 : w = .laysStatic Bundle.tN "SUPPRESSED_SENTINEL" Bundle.listD
        · rw [e4]; exact lN
        · exact h1 w (List.mem_filter.mpr ⟨hw, by unfold vx_no; rw [decide_eq_true e1, decide_eq_true e2, decide_eq_true e3, decide_eq_true e4]; rfl⟩)
/-- where a static field lies, its class's statics cell in H -/
def vx_L (C n d : String) (A : Nat → Prop) (U : State) (H : Heap) : Prop := ∃ (c : ClassId) (k : Class) (i : Nat) (f : Field) (a : Nat) (cell : Cell), U.vm.findClass C = some c ∧ U.fieldFound? C n d = some (c, k, i, f) ∧ f.isStatic = true ∧ k.statics = some a ∧ H[a]? = some cell ∧ cell.vm.isStatics = true ∧ cell.cls = c ∧ f.slot < cell.slots.size ∧ k.staticTypes[f.slot]? = some f.type ∧ ¬ A a
theorem vx_L.moved {C n d : String} {A : Nat → Prop} {u U : State} {H : Heap} (hvm : u.vm.Alike U.vm) (h : vx_L C n d A u H) : vx_L C n d A U H := by
  obtain ⟨c, k, i, f, a, cell, h1, h2, h3, h4, h5, h6, h7, h8, h9, h10⟩ := h
  obtain ⟨k', hi', he⟩ := State.fieldFound?_setVm hvm h2
  exact ⟨c, k', i, f, a, cell, by rw [hvm.findClass]; exact h1, hi', h3, by rw [he]; exact h4, h5, h6, h7, h8, by rw [he]; exact h9, h10⟩
theorem vx_L.kept {C n d : String} {A : Nat → Prop} {U : State} {H H1 : Heap} (h : vx_L C n d A U H) (hq : ∀ a : Nat, a < H.size → ¬ A a → H1[a]? = H[a]?) : vx_L C n d A U H1 := by
  obtain ⟨c, k, i, f, a, cell, h1, h2, h3, h4, h5, h6, h7, h8, h9, h10⟩ := h
  exact ⟨c, k, i, f, a, cell, h1, h2, h3, h4, by rw [hq a (Array.getElem?_eq_some_iff.mp h5).1 h10]; exact h5, h6, h7, h8, h9, h10⟩
theorem vx_L.narrow {C n d : String} {A B : Nat → Prop} {U : State} {H : Heap} (h : vx_L C n d A U H) (hAB : ∀ q, B q → A q) : vx_L C n d B U H := by
  obtain ⟨c, k, i, f, a, cell, h1, h2, h3, h4, h5, h6, h7, h8, h9, h10⟩ := h
  exact ⟨c, k, i, f, a, cell, h1, h2, h3, h4, h5, h6, h7, h8, h9, fun z => h10 (hAB _ z)⟩
theorem vx_L.word {C n d : String} {A : Nat → Prop} {s : State} {args : Array Value} (h : vx_L C n d A s s.heap) : (Cond.laysStatic C n d).before args s = true := by
  obtain ⟨c, k, i, f, a, cell, h1, h2, h3, h4, h5, h6, h7, h8, h9, -⟩ := h
  show (Cond.laysStatic C n d).holds args s none s [] = true
  exact Cond.laysStatic_of h1 h2 h3 h4 h5 h6 h7 h8 h9
/-- .. and what it holds: null or some reference -/
def vx_Zq (C n d : String) (A : Nat → Prop) (U : State) (H : Heap) : Prop := va_Zq C n d A U H ∧ vx_L C n d A U H
theorem vx_Zq.moved {C n d : String} {A : Nat → Prop} {u U : State} {H : Heap} (hvm : u.vm.Alike U.vm) (h : vx_Zq C n d A u H) : vx_Zq C n d A U H := ⟨va_Zq.moved hvm h.1, vx_L.moved hvm h.2⟩
theorem vx_Zq.kept {C n d : String} {A : Nat → Prop} {U : State} {H H1 : Heap} (h : vx_Zq C n d A U H) (hq : ∀ a : Nat, a < H.size → ¬ A a → H1[a]? = H[a]?) : vx_Zq C n d A U H1 := ⟨va_Zq.kept h.1 hq, vx_L.kept h.2 hq⟩
theorem vx_Zq.narrow {C n d : String} {A B : Nat → Prop} {U : State} {H : Heap} (h : vx_Zq C n d A U H) (hAB : ∀ q, B q → A q) : vx_Zq C n d B U H := ⟨va_Zq.narrow h.1 hAB, vx_L.narrow h.2 hAB⟩
theorem vx_Zqof {args : Array Value} {s : State} {C n d : String} {A : Nat → Prop} (hl : (Cond.laysStatic C n d).before args s = true) (hini : (Cond.initialized C).before args s = true) (h : (Cond.isRef (.static C n d)).before args s = true) (hA : ∀ a : Nat, a < s.heap.size → ¬ A a) : vx_Zq C n d A s s.heap := by
  refine ⟨va_Zqof hl hini h hA, ?_⟩
  obtain ⟨c, k, i, f, a, cell, h1, h2, h3, h4, h5, h6, h7, h8, h9⟩ := Cond.laysStatic_spec hl
  exact ⟨c, k, i, f, a, cell, h1, h2, h3, h4, h5, h6, h7, h8, h9, hA a (Array.getElem?_eq_some_iff.mp h5).1⟩
theorem vx_isRef {C n d : String} {v : Value} {A : Nat → Prop} {s : State} {args : Array Value} (h : va_Z C n d v A s s.heap) (hv : v.isRef = true) : (Cond.isRef (.static C n d)).before args s = true := by
  obtain ⟨cf, kf, fi, f, a, cell, h1, h2, h3, h4, h5, h6, h7, -⟩ := h
  have he : (Term.static C n d).eval args s none [] s = some v := by
    simp [Term.eval, State.fieldNamed?, h1, h2, h4, h5, h6, h7]
  simp only [Cond.before, Cond.holds, Cond.value, he]
  cases v <;> simp_all [Value.isRef]
theorem vx_isRefq {C n d : String} {A : Nat → Prop} {s : State} {args : Array Value} (h : va_Zq C n d A s s.heap) : (Cond.isRef (.static C n d)).before args s = true := by
  rcases h with h | ⟨t, h⟩
  · exact vx_isRef h rfl
  · exact vx_isRef h rfl
/-- the same frame, seen from here: as if the method were called anew in this heap -/
theorem vx_rebase {T : State} (X : Stand p l e R s m args below meth c T locs cells slots) {R' : Room} (hf : R'.frames ≤ R.frames) (hl : R'.locals ≤ R.locals) (hc : cells + R'.cells ≤ R.cells) (hs : slots + R'.slots ≤ R.slots) :
    Stand p l e R' ((T.setVm s.vm).setFrames (.invoking m args :: below)) m args below meth c T [] 0 0 := by
  have htop : (T.setVm s.vm).topJava?.isSome := X.here.top
  have hF : ((T.setVm s.vm).setFrames (.invoking m args :: below)).frames = .invoking m args :: below := State.frames_setFrames _ (State.cur_lt_of_top htop)
  obtain ⟨g₀, hg0⟩ := Option.isSome_iff_exists.mp htop
  obtain ⟨r, hr⟩ := State.topJava?_eq_some.mp hg0
  have hl9 : e.platform.stackLimits (T.setVm s.vm).me = e.platform.stackLimits s.me := X.limits
  have hb9 : (T.setVm s.vm).me.stackBytes = s.me.stackBytes := X.bytes
  refine ⟨X.admits, X.cas, X.clock, hF, ?_, X.hears, X.method, X.code, X.here, X.tail, X.warmed, ?_, ?_, ?_⟩
  · have h := X.room
    have hU : ((T.setVm s.vm).setFrames (.invoking m args :: below)).localsInUse = s.localsInUse := by
      rw [State.localsInUse_invoking hF (meth := meth) (c := c) X.method X.code, State.localsInUse_invoking X.frames X.method X.code]
    simp only [State.hasRoom, Bool.and_eq_true, decide_eq_true_eq] at h ⊢
    obtain ⟨⟨⟨⟨h1, h2, h3, h4, h5, h6⟩, h7⟩, h8⟩, h9⟩ := h
    rw [X.frames, List.length_cons] at h2 h3
    have q1 := X.heapSize
    have q2 := X.used
    simp only [hF, hU, List.length_cons, State.stackLimits_setFrames, State.stackBytes_setFrames, hl9, hb9]
    refine ⟨⟨⟨⟨by omega, by omega, by omega, by omega, by omega, h6⟩, ?_⟩, ?_⟩, X.book⟩
    · show T.heap.size + R'.cells ≤ e.platform.maxCells
      omega
    · show T.slotsUsed + R'.slots ≤ e.platform.maxSlots
      omega
  · rw [State.stackLimits_setFrames]; rfl
  · rw [State.stackBytes_setFrames]; rfl
  · refine ⟨?_, Nat.le_refl _, Nat.le_refl _, ?_, ?_, fun a c9 h9 => ⟨c9, h9, rfl, rfl, fun _ _ => rfl⟩⟩
    · obtain ⟨t, ht, -⟩ := State.frames_cons hr
      show T.setVm s.vm = { ((T.setVm s.vm).setFrames (.invoking m args :: below)).setFrames (T.setVm s.vm).frames with heap := T.heap, slotsUsed := T.slotsUsed }
      rw [State.setFrames_setFrames, State.setFrames_self ht]
      rfl
    · show T.slotsUsed = T.slotsUsed + ((T.heap.toList.drop T.heap.size).map (·.slots.size)).sum
      rw [List.drop_eq_nil_of_le (Nat.le_of_eq Array.length_toList)]
      rfl
    · show ((T.heap.toList.drop T.heap.size).map (·.slots.size)).sum ≤ 0
      rw [List.drop_eq_nil_of_le (Nat.le_of_eq Array.length_toList)]
      exact Nat.le_refl _
/-- 'throw new E()': new; dup; invokespecial; athrow -/
theorem vx_throw0 {cc : ByteArray} {pc : Nat} (hexec : p.tables.exec = Jvm.exec) (hb : c.code = cc) (hl : l.stackTraces = false) {own cls : String} {names : List String} {ik ic mc ms : Nat} {A : Nat → Prop}
    (hown : s.vm.findClass own = some m.cls) (hcls : Bundle.fit cls = true) (hnames : ∀ n ∈ names, Bundle.fit n = true)
    (hk : (Cond.classLink own ik cls).before args s = true) (hini : (Cond.initialized cls).before args s = true) (hat : ∀ w ∈ vx_at0 own ic cls names, w.before args s = true)
    (hgood : ∀ w ∈ Cond.classLink own ik cls :: Cond.initialized cls :: vx_at0 own ic cls names, vx_ot w = true)
    (hU : vx_Zq Bundle.tN "UNASSIGNED_STACK" Bundle.steD A s s.heap) (hN : vx_Zq Bundle.tN "SUPPRESSED_SENTINEL" Bundle.listD A s s.heap) (hS : va_S A s.heap H locs) (hsize : ls.size = c.maxLocals)
    (d0 : decode cc pc = .ok (.new ik, 3)) (d3 : decode cc (pc + 3) = .ok (.dup, 1)) (d4 : decode cc (pc + 4) = .ok (.invokespecial ic, 3)) (d7 : decode cc (pc + 7) = .ok (.athrow, 1))
    (hout : ∀ x ∈ c.exceptionTable.toList, covers x (pc + 7) = false)
    (hRframes : names.length + 3 < R.frames) (hRlocals : (rest.map fun v => v.category).sum + (13 * (names.length + 1) + 42) ≤ R.locals) (hRcells : cells + 1 ≤ R.cells) (hRslots : slots + 6 ≤ R.slots) (hlocks : meth.locks = false)
    (hx : ∀ t : State, s.vm.Alike t.vm → H.size ≤ t.heap.size → (∀ q : Nat, q < H.size → t.heap[q]? = H[q]?) → XC cls s t)
    (hf : ∀ z ∈ locs, free z.base) (hc : cells + 1 ≤ mc) (hs : slots + 6 ≤ ms) :
    W p l e R s m args below meth c H locs cells slots (vx_MQ below Qc XC args s mc ms free) (F0 m pc ls rest) := by
  intro T hT X
  have htr : e.platform.stackTraces = false := (show e.platform.stackTraces = l.stackTraces by rw [X.admits.platform]).trans hl
  have Y := vx_rebase X (R' := { frames := R.frames, locals := R.locals, cells := 1, slots := 6 }) (Nat.le_refl _) (Nat.le_refl _) hRcells hRslots
  obtain ⟨s', hA⟩ : ∃ z, z = (T.setVm s.vm).setFrames (.invoking m args :: below) := ⟨_, rfl⟩
  rw [← hA] at Y
  have hvm : s'.vm = s.vm := by rw [hA]; rfl
  have hhp : s'.heap = H := by rw [hA]; exact hT
  have hW0 : s.WarmedH s'.vm := by rw [hvm]; exact State.WarmedH.refl s
  have hat' : ∀ w ∈ vx_at0 own ic cls names, w.before args s' = true := fun w hw => vx_ot_at hW0 hvm.symm (hgood w (List.mem_cons_of_mem _ (List.mem_cons_of_mem _ hw))) (hat w hw)
  have hk' : (Cond.classLink own ik cls).before args s' = true := vx_ot_at hW0 hvm.symm (hgood _ List.mem_cons_self) hk
  have hini' : (Cond.initialized cls).before args s' = true := vx_ot_at hW0 hvm.symm (hgood _ (List.mem_cons_of_mem _ List.mem_cons_self)) hini
  have hU' : vx_Zq Bundle.tN "UNASSIGNED_STACK" Bundle.steD A s' s'.heap := by rw [hhp]; exact vx_Zq.moved hW0.alike (hU.kept hS.2.1)
  have hN' : vx_Zq Bundle.tN "SUPPRESSED_SENTINEL" Bundle.listD A s' s'.heap := by rw [hhp]; exact vx_Zq.moved hW0.alike (hN.kept hS.2.1)
  have h : ∀ w ∈ Bundle.ownAtoms0 own ic cls names, w.before args s' = true := vx_own hat' (vx_isRefq hU'.1) (vx_isRefq hN'.1) hU'.2.word hN'.2.word
  have hown' : s'.vm.findClass own = some m.cls := by rw [hvm]; exact hown
  have hins : (Cond.instantiable cls 6).before args s' = true := h _ (by simp [Bundle.ownAtoms0])
  obtain ⟨vm₁, cX, kX, hfX, hkX, -, -, X₁, st1⟩ := Y.newCold hexec (own := own) (C := cls) (index := ik) (n := 6) hown' hk' hins hini'
    (g := F0 m pc ls rest) rfl (by rw [hb]; exact d0) (Nat.le_refl _) (Nat.le_refl _)
  generalize hT1 : (T.setVm vm₁).pushCell { cls := cX, slots := kX.instanceTypes.map defaultValue, vm := .none } = T1 at X₁ st1
  have hcat : (Value.ref T.heap.size).category = 1 := rfl
  have hcellA : T1.heap[T.heap.size]? = some (freshCell cX kX) := by rw [← hT1]; exact State.heap_pushCell_size _ _
  have d3' : decode c.code (pc + 3) = .ok (.dup, 1) := by rw [hb]; exact d3
  obtain ⟨U, hsteps, hrun, hend, hW, hsame, ce, hce, hO⟩ := X₁.ctorThrow0 hexec htr (own := own) (cls := cls) (names := names) (ic := ic) hown' hcls hnames h (fun x hx => nomatch hx) hfX hkX hcellA (by rw [hhp, hT]; exact Nat.le_refl _)
    (g := { method := m, pc := pc + 4, locals := ls, stack := .ref T.heap.size :: .ref T.heap.size :: rest, locked := none }) rfl hsize rfl rfl (rest := rest) rfl
    (by rw [hb]; exact d4) (by rw [hb]; exact d7) hout hRframes (by simp only [List.map_cons, List.sum_cons, hcat]; omega) hlocks
  obtain ⟨f1, f2⟩ := vx_frame hsame
  rw [hhp] at f1 f2
  have hWs : s.WarmedH U.vm := State.WarmedH.trans hW0 hW
  have hcl : s.vm.findClass cls = some ce.cls := by
    have h9 := hO.cls
    rw [hvm] at h9
    exact h9
  have hall : s.sameButNew ({ U with vm := s.vm } : State) locs mc ms := by
    subst hA
    obtain ⟨e1, e2⟩ := hsame
    rw [State.setFrames_setFrames] at e1
    have h2 : (T.setVm s.vm).sameButNew ({ U with vm := s.vm } : State) [] (0 + 1) (0 + 6) := ⟨e1, e2⟩
    have h3 := X.same.trans h2
    rw [List.append_nil] at h3
    exact h3.mono hc hs
  refine ⟨U, ?_, .threw T.heap.size, hrun, hend, Or.inr ⟨T.heap.size, rfl, cls, ce, locs, hx U hWs.alike f1 (fun q hq => f2 q hq (fun z hz => nomatch hz)), hce, hO.vm, hcl, hWs, hall, hf⟩⟩
  refine st1 _ ?_
  show Steps p.tables e below (T1.setTop { method := m, pc := pc + 3, locals := ls, stack := .ref T.heap.size :: rest, locked := none }) _
  jvm_step X₁.here [X₁.here.top, hexec, d3', Value.category]
  exact hsteps
/-- 'throw new E("text")': new; dup; ldc; invokespecial; athrow -/
theorem vx_throwS {cc : ByteArray} {pc : Nat} (hexec : p.tables.exec = Jvm.exec) (hb : c.code = cc) (hl : l.stackTraces = false) {own cls text : String} {names : List String} {ik is ic mc ms sa : Nat} {A : Nat → Prop}
    (hown : s.vm.findClass own = some m.cls) (hcls : Bundle.fit cls = true) (hnames : ∀ n ∈ names, Bundle.fit n = true)
    (hk : (Cond.classLink own ik cls).before args s = true) (hini : (Cond.initialized cls).before args s = true) (hstr : vk_R own is text sa s) (hat : ∀ w ∈ vx_atS own ic cls names, w.before args s = true)
    (hgood : ∀ w ∈ Cond.classLink own ik cls :: Cond.initialized cls :: vx_atS own ic cls names, vx_ot w = true)
    (hU : vx_Zq Bundle.tN "UNASSIGNED_STACK" Bundle.steD A s s.heap) (hN : vx_Zq Bundle.tN "SUPPRESSED_SENTINEL" Bundle.listD A s s.heap) (hS : va_S A s.heap H locs) (hsize : ls.size = c.maxLocals)
    (d0 : decode cc pc = .ok (.new ik, 3)) (d3 : decode cc (pc + 3) = .ok (.dup, 1)) (d4 : decode cc (pc + 4) = .ok (.ldc is, 2)) (d6 : decode cc (pc + 6) = .ok (.invokespecial ic, 3)) (d9 : decode cc (pc + 9) = .ok (.athrow, 1))
    (hout : ∀ x ∈ c.exceptionTable.toList, covers x (pc + 9) = false)
    (hRframes : names.length + 3 < R.frames) (hRlocals : (rest.map fun v => v.category).sum + (13 * (names.length + 1) + 43) ≤ R.locals) (hRcells : cells + 1 ≤ R.cells) (hRslots : slots + 6 ≤ R.slots) (hlocks : meth.locks = false)
    (hx : ∀ t : State, s.vm.Alike t.vm → H.size ≤ t.heap.size → (∀ q : Nat, q < H.size → t.heap[q]? = H[q]?) → XC cls s t)
    (hf : ∀ z ∈ locs, free z.base) (hc : cells + 1 ≤ mc) (hs : slots + 6 ≤ ms) :
    W p l e R s m args below meth c H locs cells slots (vx_MQ below Qc XC args s mc ms free) (F0 m pc ls rest) := by
  intro T hT X
  have htr : e.platform.stackTraces = false := (show e.platform.stackTraces = l.stackTraces by rw [X.admits.platform]).trans hl
  have Y := vx_rebase X (R' := { frames := R.frames, locals := R.locals, cells := 1, slots := 6 }) (Nat.le_refl _) (Nat.le_refl _) hRcells hRslots
  obtain ⟨s', hA⟩ : ∃ z, z = (T.setVm s.vm).setFrames (.invoking m args :: below) := ⟨_, rfl⟩
  rw [← hA] at Y
  have hvm : s'.vm = s.vm := by rw [hA]; rfl
  have hhp : s'.heap = H := by rw [hA]; exact hT
  have hW0 : s.WarmedH s'.vm := by rw [hvm]; exact State.WarmedH.refl s
  have hat' : ∀ w ∈ vx_atS own ic cls names, w.before args s' = true := fun w hw => vx_ot_at hW0 hvm.symm (hgood w (List.mem_cons_of_mem _ (List.mem_cons_of_mem _ hw))) (hat w hw)
  have hk' : (Cond.classLink own ik cls).before args s' = true := vx_ot_at hW0 hvm.symm (hgood _ List.mem_cons_self) hk
  have hini' : (Cond.initialized cls).before args s' = true := vx_ot_at hW0 hvm.symm (hgood _ (List.mem_cons_of_mem _ List.mem_cons_self)) hini
  have hU' : vx_Zq Bundle.tN "UNASSIGNED_STACK" Bundle.steD A s' s'.heap := by rw [hhp]; exact vx_Zq.moved hW0.alike (hU.kept hS.2.1)
  have hN' : vx_Zq Bundle.tN "SUPPRESSED_SENTINEL" Bundle.listD A s' s'.heap := by rw [hhp]; exact vx_Zq.moved hW0.alike (hN.kept hS.2.1)
  have h : ∀ w ∈ Bundle.ownAtoms own ic cls names, w.before args s' = true := vx_own hat' (vx_isRefq hU'.1) (vx_isRefq hN'.1) hU'.2.word hN'.2.word
  have hown' : s'.vm.findClass own = some m.cls := by rw [hvm]; exact hown
  have hins : (Cond.instantiable cls 6).before args s' = true := h _ (by simp [Bundle.ownAtoms])
  obtain ⟨vm₁, cX, kX, hfX, hkX, -, -, X₁, st1⟩ := Y.newCold hexec (own := own) (C := cls) (index := ik) (n := 6) hown' hk' hins hini'
    (g := F0 m pc ls rest) rfl (by rw [hb]; exact d0) (Nat.le_refl _) (Nat.le_refl _)
  generalize hT1 : (T.setVm vm₁).pushCell { cls := cX, slots := kX.instanceTypes.map defaultValue, vm := .none } = T1 at X₁ st1
  have hcat : (Value.ref T.heap.size).category = 1 := rfl
  have hcellA : T1.heap[T.heap.size]? = some (freshCell cX kX) := by rw [← hT1]; exact State.heap_pushCell_size _ _
  have d3' : decode c.code (pc + 3) = .ok (.dup, 1) := by rw [hb]; exact d3
  have d4' : decode c.code (pc + 4) = .ok (.ldc is, 2) := by rw [hb]; exact d4
  have hstr' : vk_R own is text sa s' := vk_R.warm hW0 hstr
  obtain ⟨U, hsteps, hrun, hend, hW, hsame, ce, hce, hO⟩ := X₁.ctorThrowS hexec htr (own := own) (cls := cls) (names := names) (ic := ic) hown' hcls hnames h (fun x hx => nomatch hx) hfX hkX hcellA (by rw [hhp, hT]; exact Nat.le_refl _) (msg := .ref sa) rfl
    (g := { method := m, pc := pc + 6, locals := ls, stack := .ref sa :: .ref T.heap.size :: .ref T.heap.size :: rest, locked := none }) rfl hsize rfl rfl (rest := rest) rfl
    (by rw [hb]; exact d6) (by rw [hb]; exact d9) hout hRframes (by simp only [List.map_cons, List.sum_cons, hcat]; omega) hlocks
  obtain ⟨f1, f2⟩ := vx_frame hsame
  rw [hhp] at f1 f2
  have hWs : s.WarmedH U.vm := State.WarmedH.trans hW0 hW
  have hcl : s.vm.findClass cls = some ce.cls := by
    have h9 := hO.cls
    rw [hvm] at h9
    exact h9
  have hall : s.sameButNew ({ U with vm := s.vm } : State) locs mc ms := by
    subst hA
    obtain ⟨e1, e2⟩ := hsame
    rw [State.setFrames_setFrames] at e1
    have h2 : (T.setVm s.vm).sameButNew ({ U with vm := s.vm } : State) [] (0 + 1) (0 + 6) := ⟨e1, e2⟩
    have h3 := X.same.trans h2
    rw [List.append_nil] at h3
    exact h3.mono hc hs
  refine ⟨U, ?_, .threw T.heap.size, hrun, hend, Or.inr ⟨T.heap.size, rfl, cls, ce, locs, hx U hWs.alike f1 (fun q hq => f2 q hq (fun z hz => nomatch hz)), hce, hO.vm, hcl, hWs, hall, hf⟩⟩
  refine st1 _ ?_
  show Steps p.tables e below (T1.setTop { method := m, pc := pc + 3, locals := ls, stack := .ref T.heap.size :: rest, locked := none }) _
  jvm_step X₁.here [X₁.here.top, hexec, d3', Value.category]
  exact X₁.ldcString hexec (own := own) (text := text) (index := is) (a := sa) hown' hstr'.1 hstr'.2
    (g := { method := m, pc := pc + 4, locals := ls, stack := .ref T.heap.size :: .ref T.heap.size :: rest, locked := none }) rfl d4' _ hsteps
/-- 'throw new E("text")', the text by a wide index -/
theorem vx_throwSW {cc : ByteArray} {pc : Nat} (hexec : p.tables.exec = Jvm.exec) (hb : c.code = cc) (hl : l.stackTraces = false) {own cls text : String} {names : List String} {ik is ic mc ms sa : Nat} {A : Nat → Prop}
    (hown : s.vm.findClass own = some m.cls) (hcls : Bundle.fit cls = true) (hnames : ∀ n ∈ names, Bundle.fit n = true)
    (hk : (Cond.classLink own ik cls).before args s = true) (hini : (Cond.initialized cls).before args s = true) (hstr : vk_R own is text sa s) (hat : ∀ w ∈ vx_atS own ic cls names, w.before args s = true)
    (hgood : ∀ w ∈ Cond.classLink own ik cls :: Cond.initialized cls :: vx_atS own ic cls names, vx_ot w = true)
    (hU : vx_Zq Bundle.tN "UNASSIGNED_STACK" Bundle.steD A s s.heap) (hN : vx_Zq Bundle.tN "SUPPRESSED_SENTINEL" Bundle.listD A s s.heap) (hS : va_S A s.heap H locs) (hsize : ls.size = c.maxLocals)
    (d0 : decode cc pc = .ok (.new ik, 3)) (d3 : decode cc (pc + 3) = .ok (.dup, 1)) (d4 : decode cc (pc + 4) = .ok (.ldc_w is, 3)) (d7 : decode cc (pc + 7) = .ok (.invokespecial ic, 3)) (d10 : decode cc (pc + 10) = .ok (.athrow, 1))
    (hout : ∀ x ∈ c.exceptionTable.toList, covers x (pc + 10) = false)
    (hRframes : names.length + 3 < R.frames) (hRlocals : (rest.map fun v => v.category).sum + (13 * (names.length + 1) + 43) ≤ R.locals) (hRcells : cells + 1 ≤ R.cells) (hRslots : slots + 6 ≤ R.slots) (hlocks : meth.locks = false)
    (hx : ∀ t : State, s.vm.Alike t.vm → H.size ≤ t.heap.size → (∀ q : Nat, q < H.size → t.heap[q]? = H[q]?) → XC cls s t)
    (hf : ∀ z ∈ locs, free z.base) (hc : cells + 1 ≤ mc) (hs : slots + 6 ≤ ms) :
    W p l e R s m args below meth c H locs cells slots (vx_MQ below Qc XC args s mc ms free) (F0 m pc ls rest) := by
  intro T hT X
  have htr : e.platform.stackTraces = false := (show e.platform.stackTraces = l.stackTraces by rw [X.admits.platform]).trans hl
  have Y := vx_rebase X (R' := { frames := R.frames, locals := R.locals, cells := 1, slots := 6 }) (Nat.le_refl _) (Nat.le_refl _) hRcells hRslots
  obtain ⟨s', hA⟩ : ∃ z, z = (T.setVm s.vm).setFrames (.invoking m args :: below) := ⟨_, rfl⟩
  rw [← hA] at Y
  have hvm : s'.vm = s.vm := by rw [hA]; rfl
  have hhp : s'.heap = H := by rw [hA]; exact hT
  have hW0 : s.WarmedH s'.vm := by rw [hvm]; exact State.WarmedH.refl s
  have hat' : ∀ w ∈ vx_atS own ic cls names, w.before args s' = true := fun w hw => vx_ot_at hW0 hvm.symm (hgood w (List.mem_cons_of_mem _ (List.mem_cons_of_mem _ hw))) (hat w hw)
  have hk' : (Cond.classLink own ik cls).before args s' = true := vx_ot_at hW0 hvm.symm (hgood _ List.mem_cons_self) hk
  have hini' : (Cond.initialized cls).before args s' = true := vx_ot_at hW0 hvm.symm (hgood _ (List.mem_cons_of_mem _ List.mem_cons_self)) hini
  have hU' : vx_Zq Bundle.tN "UNASSIGNED_STACK" Bundle.steD A s' s'.heap := by rw [hhp]; exact vx_Zq.moved hW0.alike (hU.kept hS.2.1)
  have hN' : vx_Zq Bundle.tN "SUPPRESSED_SENTINEL" Bundle.listD A s' s'.heap := by rw [hhp]; exact vx_Zq.moved hW0.alike (hN.kept hS.2.1)
  have h : ∀ w ∈ Bundle.ownAtoms own ic cls names, w.before args s' = true := vx_own hat' (vx_isRefq hU'.1) (vx_isRefq hN'.1) hU'.2.word hN'.2.word
  have hown' : s'.vm.findClass own = some m.cls := by rw [hvm]; exact hown
  have hins : (Cond.instantiable cls 6).before args s' = true := h _ (by simp [Bundle.ownAtoms])
  obtain ⟨vm₁, cX, kX, hfX, hkX, -, -, X₁, st1⟩ := Y.newCold hexec (own := own) (C := cls) (index := ik) (n := 6) hown' hk' hins hini'
    (g := F0 m pc ls rest) rfl (by rw [hb]; exact d0) (Nat.le_refl _) (Nat.le_refl _)
  generalize hT1 : (T.setVm vm₁).pushCell { cls := cX, slots := kX.instanceTypes.map defaultValue, vm := .none } = T1 at X₁ st1
  have hcat : (Value.ref T.heap.size).category = 1 := rfl
  have hcellA : T1.heap[T.heap.size]? = some (freshCell cX kX) := by rw [← hT1]; exact State.heap_pushCell_size _ _
  have d3' : decode c.code (pc + 3) = .ok (.dup, 1) := by rw [hb]; exact d3
  have d4' : decode c.code (pc + 4) = .ok (.ldc_w is, 3) := by rw [hb]; exact d4
  have hstr' : vk_R own is text sa s' := vk_R.warm hW0 hstr
  obtain ⟨U, hsteps, hrun, hend, hW, hsame, ce, hce, hO⟩ := X₁.ctorThrowS hexec htr (own := own) (cls := cls) (names := names) (ic := ic) hown' hcls hnames h (fun x hx => nomatch hx) hfX hkX hcellA (by rw [hhp, hT]; exact Nat.le_refl _) (msg := .ref sa) rfl
    (g := { method := m, pc := pc + 7, locals := ls, stack := .ref sa :: .ref T.heap.size :: .ref T.heap.size :: rest, locked := none }) rfl hsize rfl rfl (rest := rest) rfl
    (by rw [hb]; exact d7) (by rw [hb]; exact d10) hout hRframes (by simp only [List.map_cons, List.sum_cons, hcat]; omega) hlocks
  obtain ⟨f1, f2⟩ := vx_frame hsame
  rw [hhp] at f1 f2
  have hWs : s.WarmedH U.vm := State.WarmedH.trans hW0 hW
  have hcl : s.vm.findClass cls = some ce.cls := by
    have h9 := hO.cls
    rw [hvm] at h9
    exact h9
  have hall : s.sameButNew ({ U with vm := s.vm } : State) locs mc ms := by
    subst hA
    obtain ⟨e1, e2⟩ := hsame
    rw [State.setFrames_setFrames] at e1
    have h2 : (T.setVm s.vm).sameButNew ({ U with vm := s.vm } : State) [] (0 + 1) (0 + 6) := ⟨e1, e2⟩
    have h3 := X.same.trans h2
    rw [List.append_nil] at h3
    exact h3.mono hc hs
  refine ⟨U, ?_, .threw T.heap.size, hrun, hend, Or.inr ⟨T.heap.size, rfl, cls, ce, locs, hx U hWs.alike f1 (fun q hq => f2 q hq (fun z hz => nomatch hz)), hce, hO.vm, hcl, hWs, hall, hf⟩⟩
  refine st1 _ ?_
  show Steps p.tables e below (T1.setTop { method := m, pc := pc + 3, locals := ls, stack := .ref T.heap.size :: rest, locked := none }) _
  jvm_step X₁.here [X₁.here.top, hexec, d3', Value.category]
  exact X₁.ldcStringW hexec (own := own) (text := text) (index := is) (a := sa) hown' hstr'.1 hstr'.2
    (g := { method := m, pc := pc + 4, locals := ls, stack := .ref T.heap.size :: .ref T.heap.size :: rest, locked := none }) rfl d4' _ hsteps
end Ends
section Bodies
variable {l : Launch}
theorem vx_ofW {y : MethodName} {ws ws' : List Cond} {rm : Room} {Pc : Array Value → State → Prop} {Qc : Array Value → State → Outcome → State → Prop} {XC : String → State → State → Prop} {mc ms : Nat} {free : Addr → Prop} {cc : ByteArray} {maxL : Nat} {ret : Option FieldType}
    (hy : plainName y.cls = true) (hw : ws = Cond.code y cc maxL ret :: ws')
    (body : ∀ p e s m args below meth c s₁, BodyLoose p l y (headSpec ws rm) cc maxL ret e s m args below meth c s₁ → c.maxLocals = maxL → (∀ x ∈ c.exceptionTable.toList, False) → Pc args s →
      W p l e (headSpec ws rm).room s m args below meth c s.heap [] 0 0 (vx_MQ below Qc XC args s mc ms free) (entryFrame m args maxL)) : vx_Met l y ws rm Pc Qc XC mc ms free := by
  refine MetFree.of_bodyS (code := cc) (maxLocals := maxL) (ret := ret) hy ?_ ?_
  · intro args s m h hn
    obtain ⟨meth, c, h1, h2, h3, h4, h5, h6, -, -⟩ := Cond.code_spec hn (atoms_spec (ws := ws) h _ (by rw [hw]; exact List.mem_cons_self))
    exact ⟨meth, c, h1, h2, h3, h4, h5, h6⟩
  · intro p e s m args below meth c s₁ B hml hP _
    have hh0 : s₁.heap = s.heap := by rw [B.state]; rfl
    have ht : ∀ x ∈ c.exceptionTable.toList, False := by
      obtain ⟨meth9, c9, h1, h2, -, -, -, -, h7, -⟩ := Cond.code_spec B.named (atoms_spec (ws := ws) B.pre _ (by rw [hw]; exact List.mem_cons_self))
      cases Option.some.inj (h1.symm.trans B.method)
      cases Option.some.inj (h2.symm.trans (Stand.of_body B).code)
      intro x hx
      rw [Array.isEmpty_iff.mp h7] at hx
      cases hx
    obtain ⟨t, a1, o, b1, b2, b3⟩ := body p e s m args below meth c s₁ B hml ht hP s₁ hh0 (Stand.of_body B)
    exact ⟨t, o, a1, b1, b2, b3⟩
/-- the table of a body with handlers -/
theorem vx_table {p : Program} {x y : MethodName} {S : Spec} {cc bytes : ByteArray} {maxL maxL' : Nat} {ret ret' : Option FieldType} {e : Env} {s s₁ : State} {m : MethodId} {args : Array Value} {below : List Frame} {meth : Method} {c : Code} {hh : List (Nat × Nat × Nat × Nat)}
    (B : BodyLoose p l y S cc maxL ret e s m args below meth c s₁) (h : (Cond.codeWith y bytes maxL' ret' hh).before args s = true) : c.exceptionTable.toList = tableOf hh := by
  obtain ⟨m9, meth9, c9, hn9, h1, h2, -, -, h6, -⟩ := Cond.codeWith_spec h
  cases Option.some.inj (hn9.symm.trans B.named)
  cases Option.some.inj (h1.symm.trans B.method)
  cases Option.some.inj (h2.symm.trans (Stand.of_body B).code)
  rw [← h6, table_eq]
end Bodies
end VXA
/-! ===== END ===== -/
/-! ===== BEGIN a static call of a method with an exception table ===== -/
section VXS
variable {p : Program} {l : Launch} {e : Env} {R : Room} {s : State} {m : MethodId} {args : Array Value} {below : List Frame} {meth : Method} {c : Code} {T : State} {H : Heap} {locs : List Loc} {cells slots : Nat}
abbrev vx_CSW (R : Room) (s : State) (args : Array Value) (own : String) (index : Nat) (y : MethodName) (bytes : ByteArray) (maxL : Nat) (ret : Option FieldType) (hh : List (Nat × Nat × Nat × Nat)) (ws : List Cond) (rm : Room) (mc ms n : Nat) : Prop :=
  (rm.cells = mc ∧ rm.slots = ms ∧ rm.frames + 1 ≤ R.frames ∧ 8 + (maxL + 11) + rm.locals ≤ R.locals ∧ (∀ w ∈ ws, ∀ (a' : Array Value) (U : State), s.WarmedH U.vm → w.before a' U = true) ∧ Cond.codeWith y bytes maxL ret hh ∈ ws) ∧
  (Cond.codeWith y bytes maxL ret hh).before args s = true ∧ (Cond.initialized y.cls).before args s = true ∧ (y.cls ≠ "java/lang/invoke/MethodHandle" ∧ y.cls ≠ "java/lang/invoke/VarHandle") ∧
  (∀ sig, parseMethodDescriptor y.desc = some sig → n = sig.parameters.length) ∧ (Cond.methodLink own index y).before args s = true ∧ (Cond.static y).before args s = true
theorem vx_cwSW {own : String} {index maxL mc ms : Nat} {y : MethodName} {bytes : ByteArray} {ret : Option FieldType} {hh : List (Nat × Nat × Nat × Nat)} {Ts ws ws' : List Cond} {rm : Room} (n : Nat) (ht : ∀ w ∈ Ts, w.before args s = true) (hT : GoodIn Ts (va_wsS own index y ws)) (hw : ws = Cond.codeWith y bytes maxL ret hh :: ws') (hrc : rm.cells = mc) (hrs : rm.slots = ms)
    (hd : y.cls ≠ "java/lang/invoke/MethodHandle" ∧ y.cls ≠ "java/lang/invoke/VarHandle" ∧ (parseMethodDescriptor y.desc).map (fun d => d.parameters.length) = some n) (hR : rm.frames + 1 ≤ R.frames ∧ 8 + (maxL + 11) + rm.locals ≤ R.locals) :
    vx_CSW R s args own index y bytes maxL ret hh ws rm mc ms n := by
  have ok : ∀ w ∈ va_wsS own index y ws, w.before args s = true := fun w h => ht w (hT w h).1
  have hG : GoodIn Ts ws := fun w h => hT w (by unfold va_wsS; exact List.mem_append_right _ h)
  have hc : Cond.codeWith y bytes maxL ret hh ∈ ws := by rw [hw]; exact List.mem_cons_self
  refine ⟨⟨hrc, hrs, hR.1, hR.2, pay_in ht hG, hc⟩, ht _ (hG _ hc).1, ok _ (by simp [va_wsS]), ⟨hd.1, hd.2.1⟩, fun sig h => ?_, ok _ (by simp [va_wsS]), ok _ (by simp [va_wsS])⟩
  have h2 := hd.2.2
  rw [h] at h2
  exact (Option.some.inj h2).symm
theorem vx_callSW (X : Stand p l e R s m args below meth c T locs cells slots) (hexec : p.tables.exec = Jvm.exec) {own : String} {index : Nat} {y : MethodName} {bytes : ByteArray} {maxL : Nat} {ret : Option FieldType} {hh : List (Nat × Nat × Nat × Nat)}
    (hown : s.vm.findClass own = some m.cls) (hlink : (Cond.methodLink own index y).before args s = true) (hstat : (Cond.static y).before args s = true) (hinit : (Cond.initialized y.cls).before args s = true)
    (hcode : (Cond.codeWith y bytes maxL ret hh).before args s = true) (hy : y.cls ≠ "java/lang/invoke/MethodHandle" ∧ y.cls ≠ "java/lang/invoke/VarHandle")
    {W9 : Nat} {Pre : Pt → Array Value → Prop} {Post : Pt → Array Value → Option Value → Pt → Prop} (hK : Back l R p e below s args y 3 W9 Pre Post)
    {g : JFrame} (hg : g.method = m) (hsize : g.locals.size = c.maxLocals) {argsL rest : List Value} (hlen : ∀ sig, parseMethodDescriptor y.desc = some sig → argsL.length = sig.parameters.length)
    (hstack : g.stack = argsL.reverse ++ rest) (hW : 2 * g.monitorRoom + (rest.map fun v => v.category).sum ≤ W9) (hdg : decode c.code g.pc = .ok (.invokestatic index, 3))
    (hpre : ∀ vm₁, s.WarmedH vm₁ → Pre ⟨T.setVm vm₁, locs, cells, slots⟩ argsL.toArray) :
    ∃ (v : Option Value) (vm₁ : Vm) (B : Pt), s.WarmedH vm₁ ∧ Stand p l e R s m args below meth c B.U B.locs B.cells B.slots ∧ Post ⟨T.setVm vm₁, locs, cells, slots⟩ argsL.toArray v B ∧
      ∀ target, Steps p.tables e below (B.U.setTop { g with pc := g.pc + 3, stack := v.toList ++ rest }) target → Steps p.tables e below (T.setTop g) target := by
  obtain ⟨mk, methM, cM, hnamed, hmethM, -, -, -, -, -, -, hsigM⟩ := Cond.codeWith_spec hcode
  have hstatic : methM.isStatic = true := Cond.static_spec hnamed hmethM hstat
  obtain ⟨kP, hkP, -⟩ := className_of_methodNamed hnamed
  have hinitP : kP.init = .initialized := Cond.initialized_spec (findClass_of_methodNamed hnamed) hkP hinit
  obtain ⟨vm₁, X₁, hstep₁⟩ := X.invokestatic hexec hown hlink hnamed hmethM hstatic hkP hinitP hy (g := g) hg (argsL := argsL) (rest := rest) (hlen _ hsigM) hstack hdg
  obtain ⟨v, B, X', hpost, hsteps⟩ := hK m meth c ⟨T.setVm vm₁, locs, cells, slots⟩ { g with stack := rest } (.invokestatic index) mk argsL.toArray X₁ hg hsize hdg hW (X₁.named hnamed) (hpre vm₁ X₁.warmed)
  exact ⟨v, vm₁, B, X₁.warmed, X', hpost, fun target h => hstep₁ _ fun acts => by rw [doInvoke_state]; exact hsteps.trans h⟩
theorem vx_runSW {y : MethodName} {bytes cc : ByteArray} {maxL nL mc ms n index : Nat} {ret : Option FieldType} {hh : List (Nat × Nat × Nat × Nat)} {ws : List Cond} {rm : Room} {Pc : Array Value → State → Prop} {Qc : Array Value → State → Outcome → State → Prop} {free : Addr → Prop} {Ts : List Cond} {own : String} {As rest : List Value} {g : JFrame}
    (S : CallFix p m c cc nL s args Ts own) (hM : Met l y ws rm Pc Qc mc ms free) (cw : vx_CSW R s args own index y bytes maxL ret hh ws rm mc ms n) (hp : PreS s H Pc As)
    (hg : g.method = m) (hn : As.length = n) (hsize : g.locals.size = nL) (hstack : g.stack = As.reverse ++ rest) (hW : 2 * g.monitorRoom + (rest.map fun v => v.category).sum ≤ 8) (hdg : decode cc g.pc = .ok (.invokestatic index, 3)) (hf : cells + mc ≤ R.cells ∧ slots + ms ≤ R.slots) :
    va_Run p l e R s m args below meth c H locs cells slots mc ms g rest (Qc As.toArray) (free) := by
  obtain ⟨⟨hrc, hrs, hfr, hlo, hws, hcw⟩, hcode, hini, hy, hlen, hl, hstt⟩ := cw
  have hK : Back l R p e below s args y 3 8 (PreOf R mc ms Pc) (PostOf Qc mc ms free) := va_backW (hh := hh) (bytes := bytes) (maxL := maxL) (ret := ret) hM hp.1 hrc hrs hfr hlo hws hcw (fun a' U hW => word_at hW (Or.inl (by first | rfl | simp [Cond.onTables, Cond.keeps, Cond.steady])) hini)
  obtain ⟨hx, hb, hml, ho, -⟩ := S
  intro T hT X
  obtain ⟨v, vm₁, ⟨U', l2, c2, s2⟩, hW₁, X', ⟨g', mk, t, L, e1, e2, hq, h1, hL, h2, h3⟩, st⟩ := vx_callSW X hx (hh := hh) (bytes := bytes) (maxL := maxL) (ret := ret) ho hl hstt hini hcode hy hK hg (hsize.trans hml.symm) (argsL := As) (rest := rest) (fun sig h => hn.trans (hlen sig h)) hstack hW (by rw [hb]; exact hdg)
    (fun vm₁ hW₁ => ⟨hf.1, hf.2, hp.2 (T.setVm vm₁) hT hW₁⟩)
  dsimp only [Pt.U, Pt.locs, Pt.cells, Pt.slots] at X' e1 e2 h1 h2 h3 st
  subst h1; subst h2; subst h3
  exact ⟨v, (T.setVm vm₁).calling g' mk As.toArray, t, U', L, hT, X', hL, e1, e2, hq, st⟩
/-- not caught here, past rows that name other classes: it goes on to the caller -/
theorem vx_outP {p : Program} {l : Launch} {e : Env} {R : Room} {s : State} {m : MethodId} {args : Array Value} {below : List Frame} {meth : Method} {c : Code} {H : Heap} {locs : List Loc} {cells slots : Nat} {free : Addr → Prop} {ls : Array Slot} {rest : List Value} {Qc : Array Value → State → Outcome → State → Prop} {XC : String → State → State → Prop}
    {pc : Nat} {own E : String} {ce : Cell} {q : Addr} {mc ms : Nat} (hown : s.vm.findClass own = some m.cls) (hlocks : meth.locks = false)
    (hpass : ∀ z ∈ c.exceptionTable.toList, covers z pc = false ∨ (z.catchType ≠ 0 ∧ ∃ nm : String, (Cond.classLink own z.catchType nm).before args s = true ∧ va_Nc E nm s)) (hcell : H[q]? = some ce) (hv : ce.vm = .none) (hcl : s.vm.findClass E = some ce.cls)
    (hx : ∀ t : State, t.heap = H → s.vm.Alike t.vm → XC E s t) (hf : ∀ z ∈ locs, free z.base) (hc : cells ≤ mc) (hs : slots ≤ ms) :
    vx_W p l e R s m args below meth c H locs cells slots (vx_MQ below Qc XC args s mc ms free) (F0 m pc ls rest) q := by
  intro T hT X
  have hpl : e.platform.magicAccessors = ({} : Platform).magicAccessors := by rw [X.admits.platform]
  obtain ⟨vm', hW', X', st⟩ := X.outThrough hlocks q (g := F0 m pc ls rest) rfl rfl rfl (cell := ce) (by rw [hT]; exact hcell) (by rw [hv]; rfl)
    (by obtain ⟨k9, h9, -⟩ := Vm.findClass_spec hcl; exact ⟨k9, h9⟩) (fun z hz => by
      rcases hpass z hz with h | ⟨hz0, nm, hl1, hn1⟩
      · exact Or.inl h
      · obtain ⟨c6, hc6, hcl6⟩ := Cond.classLink_spec hown hl1 e.platform hpl
        obtain ⟨a8, b8, h1, h2, h3⟩ := hn1
        cases Option.some.inj (h1.symm.trans hcl)
        cases Option.some.inj (h2.symm.trans hc6)
        exact Or.inr ⟨hz0, _, hcl6, h3⟩)
  obtain ⟨g₀, hfr⟩ := X'.frames_eq
  have hcell9 : ((T.setVm vm').setFrames (.throwing q :: below)).heap[q]? = some ce := by
    show T.heap[q]? = some ce
    rw [hT]; exact hcell
  have hend : Ended ((T.setVm vm').setFrames (.throwing q :: below)) below (.threw q) := State.frames_setFrames _ (State.cur_lt_of_frames hfr)
  refine ⟨(T.setVm vm').setFrames (.throwing q :: below), ?_, .threw q, X'.here.running, hend, Or.inr ⟨q, rfl, E, ce, locs, hx _ hT (X'.ends _).1.alike, hcell9, hv, hcl, (X'.ends _).1, (X'.ends _).2.mono hc hs, hf⟩⟩
  rw [X.pushThrowing_eq]
  exact st
/-- a thing of a world lies in the heap -/
theorem vx_lt {D : va_G} {cl : List vw_C} {ws : va_W} {H1 : Heap} (h : va_P D cl ws H1) {k : Nat} {q : Nat × va_E} (hk : ws[k]? = some q) : q.1 < H1.size := (h k q hk).lt
end VXS
/-! ===== END ===== -/
/-! ===== BEGIN methods with a table of their own: called by a name, returning or throwing ===== -/
section VXH
/-! vx_backW, vx_callVX, vx_callSX, vx_callVW, vx_runVW, vx_runVX, vx_runSX, vx_ofWH follow the same proofs as their sisters above (Free/Laws.lean, Shelf42/LK1.lean); vx_outP calls Shelf42/NT130.lean (outThrough). -/
section
variable {l : Launch} {R : Room} {p : Program} {e : Env} {below : List Frame} {s : State} {sargs : Array Value} {y : MethodName} {len W9 : Nat}
theorem vx_backW {ws : List Cond} {rm : Room} {Pc : Array Value → State → Prop} {Qc : Array Value → State → Outcome → State → Prop} {XC : String → State → State → Prop} {mc ms : Nat} {free : Addr → Prop} {bytes : ByteArray} {maxL : Nat} {ret : Option FieldType} {hh : List (Nat × Nat × Nat × Nat)}
    (hM : vx_Met l y ws rm Pc Qc XC mc ms free) (hblind : FrameBlind Pc) (hrc : rm.cells = mc) (hrs : rm.slots = ms)
    (hframes : rm.frames + 1 ≤ R.frames) (hlocals : W9 + (maxL + 11) + rm.locals ≤ R.locals)
    (hws : ∀ w ∈ ws, ∀ a' U, s.WarmedH U.vm → w.before a' U = true) (hcode : Cond.codeWith y bytes maxL ret hh ∈ ws) (hinit : ∀ a' U, s.WarmedH U.vm → (Cond.initialized y.cls).before a' U = true) :
    vx_Back l R p e below s sargs y len W9 (PreOf R mc ms Pc) (PostOf Qc mc ms free) (vx_Post XC mc ms free) := by
  intro m meth c A g ig mk a X hg hsize hdg hW hn hp
  have h1 : (headSpec ws rm).pre.before a A.U = true := atoms_intro fun w hw => hws w hw _ _ X.warmed
  have h2 : (Cond.codeWith y bytes maxL ret hh).before a A.U = true := hws _ hcode _ _ X.warmed
  have h3 : (Cond.initialized y.cls).before a A.U = true := hinit _ _ X.warmed
  have h4 : A.cells + (headSpec ws rm).room.cells ≤ R.cells := by rw [show (headSpec ws rm).room.cells = mc from hrc]; exact hp.1
  have h5 : A.slots + (headSpec ws rm).room.slots ≤ R.slots := by rw [show (headSpec ws rm).room.slots = ms from hrs]; exact hp.2.1
  have hPc : Pc a (A.U.calling g mk a) := hblind _ _ _ _ hp.2.2
  obtain ⟨U, Ls, c0, s0⟩ := A
  dsimp only [Pt.U, Pt.locs, Pt.cells, Pt.slots] at h1 h2 h3 h4 h5 X hn hPc ⊢
  obtain ⟨m9, methY, cY, hn9, hmY, hcY, -, hlY, -⟩ := Cond.codeWith_spec h2
  cases Option.some.inj (hn9.symm.trans hn)
  obtain ⟨kY, hkY, -⟩ := className_of_methodNamed hn
  have hinitY : kY.init = .initialized := Cond.initialized_spec (findClass_of_methodNamed hn) hkY h3
  have h : At U g.method c below := by rw [hg]; exact X.here
  have hlocals9 : W9 + (maxL + 11) + (headSpec ws rm).room.locals ≤ R.locals := hlocals
  have happ : (headSpec ws rm).appliesLoose y e.platform (U.calling g mk a) = true :=
    Spec.appliesLoose_calling (g := g) h hdg hn hkY hinitY
      (X.room_calling (g := g) (R' := (headSpec ws rm).room) hsize hmY hcY hframes (by rw [hlY]; omega) h4 h5) h1
  obtain ⟨mid, hmid⟩ := h.above
  have hfr : (U.setTop g).frames = (.java g :: mid) ++ below := by rw [State.frames_setTop' g h.top, hmid]; rfl
  obtain ⟨o, s₂, hsteps, -, hend, hq⟩ := Steps.callFree hM p X.admits X.cas X.clock (acts := []) hfr happ hPc trivial
  have hq' : vx_Q Qc XC mc ms free a (U.calling g mk a) o s₂ := hq
  rw [State.frames_setTop' g h.top] at hend
  obtain ⟨g₀, hg0⟩ := Option.isSome_iff_exists.mp h.top
  obtain ⟨r, hr⟩ := State.topJava?_eq_some.mp hg0
  have hr' : (({ U with heap := s₂.heap, slotsUsed := s₂.slotsUsed } : State).setVm s₂.vm).frames = .java g₀ :: r := hr
  rcases hq' with ⟨hqc, L, hfe, hL⟩ | ⟨q, rfl, E, ce, L, hx, hce, hcv, hcl, hW₂, hsm, hL⟩
  · obtain ⟨⟨v, rfl⟩, hW₂, e2, q2, q3, q4, q5, q6⟩ := id hfe
    have e3 : s₂ = ({ (U.calling g mk a).setFrames s₂.frames with heap := s₂.heap, slotsUsed := s₂.slotsUsed } : State).setVm s₂.vm := by
      have : s₂ = ({ s₂ with vm := (U.calling g mk a).vm } : State).setVm s₂.vm := rfl
      rw [e2] at this
      exact this
    obtain ⟨c₂, i₂, len₂, hc₂, hd₂, hf₂⟩ := hend
    have hW' : U.WarmedH s₂.vm := hW₂
    have hcc : c₂ = c := by
      have h1 : s₂.code? g.method = U.code? g.method := by
        rw [State.code?_eq, State.code?_eq, hW'.alike.method?]
      exact Option.some.inj (hc₂.symm.trans (h1.trans h.code))
    subst hcc
    have hlen : len₂ = len := by rw [hdg] at hd₂; cases hd₂; rfl
    subst hlen
    have hs₂ : s₂ = (({ U with heap := s₂.heap, slotsUsed := s₂.slotsUsed } : State).setVm s₂.vm).setTop { g with pc := g.pc + len₂, stack := v.toList ++ g.stack } := by
      refine e3.trans ?_
      rw [hf₂, State.calling_eq h.top, State.setFrames_setFrames, State.setTop_of_frames _ hr', hr]
      rfl
    have hsame : U.sameButNew ({ U with heap := s₂.heap, slotsUsed := s₂.slotsUsed } : State) L mc ms := by
      refine ⟨?_, q2, q3, q4, q5, q6⟩
      obtain ⟨t, ht, -⟩ := State.frames_cons hr
      show ({ U with heap := s₂.heap, slotsUsed := s₂.slotsUsed } : State) = { U.setFrames U.frames with heap := s₂.heap, slotsUsed := s₂.slotsUsed }
      rw [State.setFrames_self ht]
    subst hg
    refine Or.inl ⟨v, ⟨(({ U with heap := s₂.heap, slotsUsed := s₂.slotsUsed } : State).setVm s₂.vm), Ls ++ L, c0 + mc, s0 + ms⟩,
      ⟨X.admits, X.cas, X.clock, X.frames, X.room, X.hears, X.method, X.code, (X.here.setHeapUsed s₂.heap s₂.slotsUsed).setVm hW'.alike, X.tail, State.WarmedH.trans X.warmed hW', X.limits, X.bytes, X.same.trans (hsame.setVm s.vm)⟩,
      ⟨g, mk, s₂, L, rfl, rfl, hqc, rfl, hL, rfl, rfl⟩, ?_⟩
    show Steps p.tables e below _ ((({ U with heap := s₂.heap, slotsUsed := s₂.slotsUsed } : State).setVm s₂.vm).setTop { g with pc := g.pc + len₂, stack := v.toList ++ g.stack })
    rw [← hs₂]
    exact hsteps
  · obtain ⟨e2, q2, q3, q4, q5, q6⟩ := id hsm
    have e3 : s₂ = ({ (U.calling g mk a).setFrames s₂.frames with heap := s₂.heap, slotsUsed := s₂.slotsUsed } : State).setVm s₂.vm := by
      have : s₂ = ({ s₂ with vm := (U.calling g mk a).vm } : State).setVm s₂.vm := rfl
      rw [e2] at this
      exact this
    have hf₂ : s₂.frames = .throwing q :: .java g :: U.frames.tail := hend
    have hW' : U.WarmedH s₂.vm := hW₂
    have hs₂ : s₂ = ((({ U with heap := s₂.heap, slotsUsed := s₂.slotsUsed } : State).setVm s₂.vm).setTop g).pushFrame (.throwing q) := by
      refine e3.trans ?_
      rw [hf₂, State.calling_eq h.top, State.setFrames_setFrames, State.pushFrame, State.frames_setTop _ hr', State.setTop_of_frames _ hr', State.setFrames_setFrames, hr]
      rfl
    have hsame : U.sameButNew ({ U with heap := s₂.heap, slotsUsed := s₂.slotsUsed } : State) L mc ms := by
      refine ⟨?_, q2, q3, q4, q5, q6⟩
      obtain ⟨t, ht, -⟩ := State.frames_cons hr
      show ({ U with heap := s₂.heap, slotsUsed := s₂.slotsUsed } : State) = { U.setFrames U.frames with heap := s₂.heap, slotsUsed := s₂.slotsUsed }
      rw [State.setFrames_self ht]
    subst hg
    refine Or.inr ⟨q, ⟨(({ U with heap := s₂.heap, slotsUsed := s₂.slotsUsed } : State).setVm s₂.vm), Ls ++ L, c0 + mc, s0 + ms⟩,
      ⟨X.admits, X.cas, X.clock, X.frames, X.room, X.hears, X.method, X.code, (X.here.setHeapUsed s₂.heap s₂.slotsUsed).setVm hW'.alike, X.tail, State.WarmedH.trans X.warmed hW', X.limits, X.bytes, X.same.trans (hsame.setVm s.vm)⟩,
      ⟨g, mk, s₂, L, E, ce, rfl, rfl, hx, hce, hcv, hcl, rfl, hL, rfl, rfl⟩, ?_⟩
    show Steps p.tables e below _ (((({ U with heap := s₂.heap, slotsUsed := s₂.slotsUsed } : State).setVm s₂.vm).setTop g).pushFrame (.throwing q))
    rw [← hs₂]
    exact hsteps
end
variable {p : Program} {l : Launch} {e : Env} {R : Room} {s : State} {m : MethodId} {args : Array Value} {below : List Frame} {meth : Method} {c : Code} {T : State} {H : Heap} {locs : List Loc} {cells slots : Nat}
theorem vx_callVX (X : Stand p l e R s m args below meth c T locs cells slots) (hexec : p.tables.exec = Jvm.exec) {own C : String} {index : Nat} {y : MethodName} {bytes : ByteArray} {maxL : Nat} {ret : Option FieldType} {hh : List (Nat × Nat × Nat × Nat)}
    (hown : s.vm.findClass own = some m.cls) (hlink : (Cond.methodLink own index y).before args s = true) (hinst : (Cond.instanceMethod y).before args s = true) (hsel : (Cond.selects C y y).before args s = true)
    (hcode : (Cond.codeWith y bytes maxL ret hh).before args s = true) (hy : y.cls ≠ "java/lang/invoke/MethodHandle" ∧ y.cls ≠ "java/lang/invoke/VarHandle")
    {W9 : Nat} {Pre : Pt → Array Value → Prop} {Post : Pt → Array Value → Option Value → Pt → Prop} {PostX : Pt → Array Value → Addr → Pt → Prop} (hK : vx_Back l R p e below s args y 3 W9 Pre Post PostX)
    {b : Addr} {cellB : Cell} (hcell : T.heap[b]? = some cellB) (hobj : cellB.vm.isStatics = false) (hcls : s.vm.findClass C = some cellB.cls)
    {g : JFrame} (hg : g.method = m) (hsize : g.locals.size = c.maxLocals) {argsL rest : List Value} (hlen : ∀ sig, parseMethodDescriptor y.desc = some sig → argsL.length = sig.parameters.length)
    (hstack : g.stack = argsL.reverse ++ .ref b :: rest) (hW : 2 * g.monitorRoom + (rest.map fun v => v.category).sum ≤ W9) (hdg : decode c.code g.pc = .ok (.invokevirtual index, 3))
    (hpre : ∀ vm₁, s.WarmedH vm₁ → Pre ⟨T.setVm vm₁, locs, cells, slots⟩ (Value.ref b :: argsL).toArray) :
    (∃ (v : Option Value) (vm₁ : Vm) (B : Pt), s.WarmedH vm₁ ∧ Stand p l e R s m args below meth c B.U B.locs B.cells B.slots ∧ Post ⟨T.setVm vm₁, locs, cells, slots⟩ (Value.ref b :: argsL).toArray v B ∧
      ∀ target, Steps p.tables e below (B.U.setTop { g with pc := g.pc + 3, stack := v.toList ++ rest }) target → Steps p.tables e below (T.setTop g) target) ∨
    (∃ (q : Addr) (vm₁ : Vm) (B : Pt), s.WarmedH vm₁ ∧ Stand p l e R s m args below meth c B.U B.locs B.cells B.slots ∧ PostX ⟨T.setVm vm₁, locs, cells, slots⟩ (Value.ref b :: argsL).toArray q B ∧
      Steps p.tables e below (T.setTop g) ((B.U.setTop { g with stack := rest }).pushFrame (.throwing q))) := by
  obtain ⟨mk, methM, hnamed, hmethM, hstM, habM⟩ := Cond.instanceMethod_spec hinst
  obtain ⟨m8, methM', cM, hn8, hmethM', -, -, -, -, -, -, hsigM⟩ := Cond.codeWith_spec hcode
  cases Option.some.inj (hn8.symm.trans hnamed)
  cases hmethM.symm.trans hmethM'
  obtain ⟨c2, r2, m2, q1, q2, q3, q4, kP, hkP, hkPi⟩ := Cond.selects_spec hsel
  cases hcls.symm.trans q1
  cases (State.methodFound?_of_named hnamed hy).symm.trans q2
  cases hnamed.symm.trans q3
  have hselP : selectMethod e.platform s.vm cellB.cls mk = .method mk := by rw [Launch.admits_selectMethod X.admits]; exact q4
  obtain ⟨vm₁, X₁, hstep₁⟩ := X.invokevirtual hexec hown hlink hnamed hmethM hstM hkP hkPi hy (a := b) (cell := cellB) hcell
    (fun z h => by rw [h] at hobj; cases hobj) hselP hmethM habM hkP hkPi (g := g) hg (argsL := argsL) (rest := rest) (hlen _ hsigM) hstack hdg
  rcases hK m meth c ⟨T.setVm vm₁, locs, cells, slots⟩ { g with stack := rest } (.invokevirtual index) mk (Value.ref b :: argsL).toArray X₁ hg hsize hdg hW (X₁.named hnamed) (hpre vm₁ X₁.warmed) with ⟨v, B, X', hpost, hsteps⟩ | ⟨q, B, X', hpost, hsteps⟩
  · exact Or.inl ⟨v, vm₁, B, X₁.warmed, X', hpost, fun target h => hstep₁ _ fun acts => by rw [doInvoke_state]; exact hsteps.trans h⟩
  · exact Or.inr ⟨q, vm₁, B, X₁.warmed, X', hpost, hstep₁ _ fun acts => by rw [doInvoke_state]; exact hsteps⟩
theorem vx_callSX (X : Stand p l e R s m args below meth c T locs cells slots) (hexec : p.tables.exec = Jvm.exec) {own : String} {index : Nat} {y : MethodName} {bytes : ByteArray} {maxL : Nat} {ret : Option FieldType} {hh : List (Nat × Nat × Nat × Nat)}
    (hown : s.vm.findClass own = some m.cls) (hlink : (Cond.methodLink own index y).before args s = true) (hstat : (Cond.static y).before args s = true) (hinit : (Cond.initialized y.cls).before args s = true)
    (hcode : (Cond.codeWith y bytes maxL ret hh).before args s = true) (hy : y.cls ≠ "java/lang/invoke/MethodHandle" ∧ y.cls ≠ "java/lang/invoke/VarHandle")
    {W9 : Nat} {Pre : Pt → Array Value → Prop} {Post : Pt → Array Value → Option Value → Pt → Prop} {PostX : Pt → Array Value → Addr → Pt → Prop} (hK : vx_Back l R p e below s args y 3 W9 Pre Post PostX)
    {g : JFrame} (hg : g.method = m) (hsize : g.locals.size = c.maxLocals) {argsL rest : List Value} (hlen : ∀ sig, parseMethodDescriptor y.desc = some sig → argsL.length = sig.parameters.length)
    (hstack : g.stack = argsL.reverse ++ rest) (hW : 2 * g.monitorRoom + (rest.map fun v => v.category).sum ≤ W9) (hdg : decode c.code g.pc = .ok (.invokestatic index, 3))
    (hpre : ∀ vm₁, s.WarmedH vm₁ → Pre ⟨T.setVm vm₁, locs, cells, slots⟩ argsL.toArray) :
    (∃ (v : Option Value) (vm₁ : Vm) (B : Pt), s.WarmedH vm₁ ∧ Stand p l e R s m args below meth c B.U B.locs B.cells B.slots ∧ Post ⟨T.setVm vm₁, locs, cells, slots⟩ argsL.toArray v B ∧
      ∀ target, Steps p.tables e below (B.U.setTop { g with pc := g.pc + 3, stack := v.toList ++ rest }) target → Steps p.tables e below (T.setTop g) target) ∨
    (∃ (q : Addr) (vm₁ : Vm) (B : Pt), s.WarmedH vm₁ ∧ Stand p l e R s m args below meth c B.U B.locs B.cells B.slots ∧ PostX ⟨T.setVm vm₁, locs, cells, slots⟩ argsL.toArray q B ∧
      Steps p.tables e below (T.setTop g) ((B.U.setTop { g with stack := rest }).pushFrame (.throwing q))) := by
  obtain ⟨mk, methM, cM, hnamed, hmethM, -, -, -, -, -, -, hsigM⟩ := Cond.codeWith_spec hcode
  have hstatic : methM.isStatic = true := Cond.static_spec hnamed hmethM hstat
  obtain ⟨kP, hkP, -⟩ := className_of_methodNamed hnamed
  have hinitP : kP.init = .initialized := Cond.initialized_spec (findClass_of_methodNamed hnamed) hkP hinit
  obtain ⟨vm₁, X₁, hstep₁⟩ := X.invokestatic hexec hown hlink hnamed hmethM hstatic hkP hinitP hy (g := g) hg (argsL := argsL) (rest := rest) (hlen _ hsigM) hstack hdg
  rcases hK m meth c ⟨T.setVm vm₁, locs, cells, slots⟩ { g with stack := rest } (.invokestatic index) mk argsL.toArray X₁ hg hsize hdg hW (X₁.named hnamed) (hpre vm₁ X₁.warmed) with ⟨v, B, X', hpost, hsteps⟩ | ⟨q, B, X', hpost, hsteps⟩
  · exact Or.inl ⟨v, vm₁, B, X₁.warmed, X', hpost, fun target h => hstep₁ _ fun acts => by rw [doInvoke_state]; exact hsteps.trans h⟩
  · exact Or.inr ⟨q, vm₁, B, X₁.warmed, X', hpost, hstep₁ _ fun acts => by rw [doInvoke_state]; exact hsteps⟩
theorem vx_callVW (X : Stand p l e R s m args below meth c T locs cells slots) (hexec : p.tables.exec = Jvm.exec) {own C : String} {index : Nat} {y : MethodName} {bytes : ByteArray} {maxL : Nat} {ret : Option FieldType} {hh : List (Nat × Nat × Nat × Nat)}
    (hown : s.vm.findClass own = some m.cls) (hlink : (Cond.methodLink own index y).before args s = true) (hinst : (Cond.instanceMethod y).before args s = true) (hsel : (Cond.selects C y y).before args s = true)
    (hcode : (Cond.codeWith y bytes maxL ret hh).before args s = true) (hy : y.cls ≠ "java/lang/invoke/MethodHandle" ∧ y.cls ≠ "java/lang/invoke/VarHandle")
    {W9 : Nat} {Pre : Pt → Array Value → Prop} {Post : Pt → Array Value → Option Value → Pt → Prop} (hK : Back l R p e below s args y 3 W9 Pre Post)
    {b : Addr} {cellB : Cell} (hcell : T.heap[b]? = some cellB) (hobj : cellB.vm.isStatics = false) (hcls : s.vm.findClass C = some cellB.cls)
    {g : JFrame} (hg : g.method = m) (hsize : g.locals.size = c.maxLocals) {argsL rest : List Value} (hlen : ∀ sig, parseMethodDescriptor y.desc = some sig → argsL.length = sig.parameters.length)
    (hstack : g.stack = argsL.reverse ++ .ref b :: rest) (hW : 2 * g.monitorRoom + (rest.map fun v => v.category).sum ≤ W9) (hdg : decode c.code g.pc = .ok (.invokevirtual index, 3))
    (hpre : ∀ vm₁, s.WarmedH vm₁ → Pre ⟨T.setVm vm₁, locs, cells, slots⟩ (Value.ref b :: argsL).toArray) :
    ∃ (v : Option Value) (vm₁ : Vm) (B : Pt), s.WarmedH vm₁ ∧ Stand p l e R s m args below meth c B.U B.locs B.cells B.slots ∧ Post ⟨T.setVm vm₁, locs, cells, slots⟩ (Value.ref b :: argsL).toArray v B ∧
      ∀ target, Steps p.tables e below (B.U.setTop { g with pc := g.pc + 3, stack := v.toList ++ rest }) target → Steps p.tables e below (T.setTop g) target := by
  obtain ⟨mk, methM, hnamed, hmethM, hstM, habM⟩ := Cond.instanceMethod_spec hinst
  obtain ⟨m8, methM', cM, hn8, hmethM', -, -, -, -, -, -, hsigM⟩ := Cond.codeWith_spec hcode
  cases Option.some.inj (hn8.symm.trans hnamed)
  cases hmethM.symm.trans hmethM'
  obtain ⟨c2, r2, m2, q1, q2, q3, q4, kP, hkP, hkPi⟩ := Cond.selects_spec hsel
  cases hcls.symm.trans q1
  cases (State.methodFound?_of_named hnamed hy).symm.trans q2
  cases hnamed.symm.trans q3
  have hselP : selectMethod e.platform s.vm cellB.cls mk = .method mk := by rw [Launch.admits_selectMethod X.admits]; exact q4
  obtain ⟨vm₁, X₁, hstep₁⟩ := X.invokevirtual hexec hown hlink hnamed hmethM hstM hkP hkPi hy (a := b) (cell := cellB) hcell
    (fun z h => by rw [h] at hobj; cases hobj) hselP hmethM habM hkP hkPi (g := g) hg (argsL := argsL) (rest := rest) (hlen _ hsigM) hstack hdg
  obtain ⟨v, B, X', hpost, hsteps⟩ := hK m meth c ⟨T.setVm vm₁, locs, cells, slots⟩ { g with stack := rest } (.invokevirtual index) mk (Value.ref b :: argsL).toArray X₁ hg hsize hdg hW (X₁.named hnamed) (hpre vm₁ X₁.warmed)
  exact ⟨v, vm₁, B, X₁.warmed, X', hpost, fun target h => hstep₁ _ fun acts => by rw [doInvoke_state]; exact hsteps.trans h⟩
abbrev vx_CVW (R : Room) (s : State) (args : Array Value) (own C : String) (index : Nat) (y : MethodName) (bytes : ByteArray) (maxL : Nat) (ret : Option FieldType) (hh : List (Nat × Nat × Nat × Nat)) (ws : List Cond) (rm : Room) (mc ms n : Nat) : Prop :=
  (rm.cells = mc ∧ rm.slots = ms ∧ rm.frames + 1 ≤ R.frames ∧ 8 + (maxL + 11) + rm.locals ≤ R.locals ∧ (∀ w ∈ ws, ∀ (a' : Array Value) (U : State), s.WarmedH U.vm → w.before a' U = true) ∧ Cond.codeWith y bytes maxL ret hh ∈ ws) ∧
  (Cond.codeWith y bytes maxL ret hh).before args s = true ∧ (Cond.initialized y.cls).before args s = true ∧ (y.cls ≠ "java/lang/invoke/MethodHandle" ∧ y.cls ≠ "java/lang/invoke/VarHandle") ∧
  (∀ sig, parseMethodDescriptor y.desc = some sig → n = sig.parameters.length) ∧ (Cond.methodLink own index y).before args s = true ∧ (Cond.instanceMethod y).before args s = true ∧ (Cond.selects C y y).before args s = true
theorem vx_cwVW {own C : String} {index maxL mc ms : Nat} {y : MethodName} {bytes : ByteArray} {ret : Option FieldType} {hh : List (Nat × Nat × Nat × Nat)} {Ts ws ws' : List Cond} {rm : Room} (n : Nat) (ht : ∀ w ∈ Ts, w.before args s = true) (hT : GoodIn Ts (wsV own index C y ws)) (hw : ws = Cond.codeWith y bytes maxL ret hh :: ws') (hrc : rm.cells = mc) (hrs : rm.slots = ms)
    (hd : y.cls = C ∧ y.cls ≠ "java/lang/invoke/MethodHandle" ∧ y.cls ≠ "java/lang/invoke/VarHandle" ∧ (parseMethodDescriptor y.desc).map (fun d => d.parameters.length) = some n) (hR : rm.frames + 1 ≤ R.frames ∧ 8 + (maxL + 11) + rm.locals ≤ R.locals) :
    vx_CVW R s args own C index y bytes maxL ret hh ws rm mc ms n := by
  obtain ⟨hC, hd⟩ := hd
  subst hC
  have ok : ∀ w ∈ wsV own index y.cls y ws, w.before args s = true := fun w h => ht w (hT w h).1
  have hG : GoodIn Ts ws := fun w h => hT w (by unfold wsV; exact List.mem_append_right _ h)
  have hc : Cond.codeWith y bytes maxL ret hh ∈ ws := by rw [hw]; exact List.mem_cons_self
  refine ⟨⟨hrc, hrs, hR.1, hR.2, pay_in ht hG, hc⟩, ht _ (hG _ hc).1, ok _ (by simp [wsV]), ⟨hd.1, hd.2.1⟩, fun sig h => ?_, ok _ (by simp [wsV]), ok _ (by simp [wsV]), ok _ (by simp [wsV])⟩
  have h2 := hd.2.2
  rw [h] at h2
  exact (Option.some.inj h2).symm
theorem vx_runVW {y : MethodName} {bytes cc : ByteArray} {maxL nL mc ms n index : Nat} {ret : Option FieldType} {hh : List (Nat × Nat × Nat × Nat)} {ws : List Cond} {rm : Room} {Pc : Array Value → State → Prop} {Qc : Array Value → State → Outcome → State → Prop} {free : Addr → Prop} {Ts : List Cond} {own C : String} {b : Addr} {As rest : List Value} {g : JFrame}
    (S : CallFix p m c cc nL s args Ts own) (hM : Met l y ws rm Pc Qc mc ms free) (cw : vx_CVW R s args own C index y bytes maxL ret hh ws rm mc ms n) (hp : PreV s H C b Pc As)
    (hg : g.method = m) (hn : As.length = n) (hsize : g.locals.size = nL) (hstack : g.stack = As.reverse ++ .ref b :: rest) (hW : 2 * g.monitorRoom + (rest.map fun v => v.category).sum ≤ 8) (hdg : decode cc g.pc = .ok (.invokevirtual index, 3)) (hf : cells + mc ≤ R.cells ∧ slots + ms ≤ R.slots) :
    va_Run p l e R s m args below meth c H locs cells slots mc ms g rest (Qc (Value.ref b :: As).toArray) free := by
  obtain ⟨⟨hrc, hrs, hfr, hlo, hws, hcw⟩, hcode, hini, hy, hlen, hl, hin, hse⟩ := cw
  have hK : Back l R p e below s args y 3 8 (PreOf R mc ms Pc) (PostOf Qc mc ms free) := va_backW (hh := hh) (bytes := bytes) (maxL := maxL) (ret := ret) hM hp.1 hrc hrs hfr hlo hws hcw (fun a' U hW => word_at hW (Or.inl (by first | rfl | simp [Cond.onTables, Cond.keeps, Cond.steady])) hini)
  obtain ⟨hx, hb, hml, ho, -⟩ := S
  obtain ⟨-, ⟨cellB, hcB, hoB, hclB⟩, hPc⟩ := hp
  intro T hT X
  obtain ⟨v, vm₁, ⟨U', l2, c2, s2⟩, hW₁, X', ⟨g', mk, t, L, e1, e2, hq, h1, hL, h2, h3⟩, st⟩ := vx_callVW X hx (C := C) (hh := hh) (bytes := bytes) (maxL := maxL) (ret := ret) ho hl hin hse hcode hy hK (by rw [hT]; exact hcB) hoB hclB hg (hsize.trans hml.symm) (argsL := As) (rest := rest) (fun sig h => hn.trans (hlen sig h)) hstack hW (by rw [hb]; exact hdg)
    (fun vm₁ hW₁ => ⟨hf.1, hf.2, hPc (T.setVm vm₁) hT hW₁⟩)
  dsimp only [Pt.U, Pt.locs, Pt.cells, Pt.slots] at X' e1 e2 h1 h2 h3 st
  subst h1; subst h2; subst h3
  exact ⟨v, (T.setVm vm₁).calling g' mk (Value.ref b :: As).toArray, t, U', L, hT, X', hL, e1, e2, hq, st⟩
section
variable {y : MethodName} {bytes cc : ByteArray} {maxL nL mc ms n index : Nat} {ret : Option FieldType} {ws : List Cond} {rm : Room} {Pc : Array Value → State → Prop} {Qc : Array Value → State → Outcome → State → Prop} {XC : String → State → State → Prop} {free : Addr → Prop} {Ts : List Cond} {own C : String} {b : Addr} {As rest : List Value} {g : JFrame}
theorem vx_runVX {hh : List (Nat × Nat × Nat × Nat)} (S : CallFix p m c cc nL s args Ts own) (hM : vx_Met l y ws rm Pc Qc XC mc ms free) (cw : vx_CVW R s args own C index y bytes maxL ret hh ws rm mc ms n) (hp : PreV s H C b Pc As)
    (hg : g.method = m) (hn : As.length = n) (hsize : g.locals.size = nL) (hstack : g.stack = As.reverse ++ .ref b :: rest) (hW : 2 * g.monitorRoom + (rest.map fun v => v.category).sum ≤ 8) (hdg : decode cc g.pc = .ok (.invokevirtual index, 3)) (hf : cells + mc ≤ R.cells ∧ slots + ms ≤ R.slots) :
    vx_Run p l e R s m args below meth c H locs cells slots mc ms g rest (Qc (Value.ref b :: As).toArray) XC free := by
  obtain ⟨⟨hrc, hrs, hfr, hlo, hws, hcw⟩, hcode, hini, hy, hlen, hl, hin, hse⟩ := cw
  have hK : vx_Back l R p e below s args y 3 8 (PreOf R mc ms Pc) (PostOf Qc mc ms free) (vx_Post XC mc ms free) := vx_backW (hh := hh) (bytes := bytes) (maxL := maxL) (ret := ret) hM hp.1 hrc hrs hfr hlo hws hcw (fun a' U hW => word_at hW (Or.inl (by first | rfl | simp [Cond.onTables, Cond.keeps, Cond.steady])) hini)
  obtain ⟨hx, hb, hml, ho, -⟩ := S
  obtain ⟨-, ⟨cellB, hcB, hoB, hclB⟩, hPc⟩ := hp
  intro T hT X
  rcases vx_callVX X hx (C := C) (hh := hh) (bytes := bytes) (maxL := maxL) (ret := ret) ho hl hin hse hcode hy hK (by rw [hT]; exact hcB) hoB hclB hg (hsize.trans hml.symm) (argsL := As) (rest := rest) (fun sig h => hn.trans (hlen sig h)) hstack hW (by rw [hb]; exact hdg)
    (fun vm₁ hW₁ => ⟨hf.1, hf.2, hPc (T.setVm vm₁) hT hW₁⟩) with ⟨v, vm₁, ⟨U', l2, c2, s2⟩, hW₁, X', ⟨g', mk, t, L, e1, e2, hq, h1, hL, h2, h3⟩, st⟩ | ⟨q, vm₁, ⟨U', l2, c2, s2⟩, hW₁, X', ⟨g', mk, t, L, E, ce, e1, e2, hq, hce, hcv, hcl, h1, hL, h2, h3⟩, st⟩
  · dsimp only [Pt.U, Pt.locs, Pt.cells, Pt.slots] at X' e1 e2 h1 h2 h3 st
    subst h1; subst h2; subst h3
    exact Or.inl ⟨v, (T.setVm vm₁).calling g' mk (Value.ref b :: As).toArray, t, U', L, hT, X', hL, e1, e2, hq, st⟩
  · dsimp only [Pt.U, Pt.locs, Pt.cells, Pt.slots] at X' e1 e2 h1 h2 h3 st hcl
    subst h1; subst h2; subst h3
    exact Or.inr ⟨q, (T.setVm vm₁).calling g' mk (Value.ref b :: As).toArray, t, U', L, E, ce, hT, X', hL, e1, e2, hq, hce, hcv, vx_cls hW₁ hcl, st⟩
theorem vx_runSX {hh : List (Nat × Nat × Nat × Nat)} (S : CallFix p m c cc nL s args Ts own) (hM : vx_Met l y ws rm Pc Qc XC mc ms free) (cw : vx_CSW R s args own index y bytes maxL ret hh ws rm mc ms n) (hp : PreS s H Pc As)
    (hg : g.method = m) (hn : As.length = n) (hsize : g.locals.size = nL) (hstack : g.stack = As.reverse ++ rest) (hW : 2 * g.monitorRoom + (rest.map fun v => v.category).sum ≤ 8) (hdg : decode cc g.pc = .ok (.invokestatic index, 3)) (hf : cells + mc ≤ R.cells ∧ slots + ms ≤ R.slots) :
    vx_Run p l e R s m args below meth c H locs cells slots mc ms g rest (Qc As.toArray) XC free := by
  obtain ⟨⟨hrc, hrs, hfr, hlo, hws, hcw⟩, hcode, hini, hy, hlen, hl, hstt⟩ := cw
  have hK : vx_Back l R p e below s args y 3 8 (PreOf R mc ms Pc) (PostOf Qc mc ms free) (vx_Post XC mc ms free) := vx_backW (hh := hh) (bytes := bytes) (maxL := maxL) (ret := ret) hM hp.1 hrc hrs hfr hlo hws hcw (fun a' U hW => word_at hW (Or.inl (by first | rfl | simp [Cond.onTables, Cond.keeps, Cond.steady])) hini)
  obtain ⟨hx, hb, hml, ho, -⟩ := S
  intro T hT X
  rcases vx_callSX X hx (hh := hh) (bytes := bytes) (maxL := maxL) (ret := ret) ho hl hstt hini hcode hy hK hg (hsize.trans hml.symm) (argsL := As) (rest := rest) (fun sig h => hn.trans (hlen sig h)) hstack hW (by rw [hb]; exact hdg)
    (fun vm₁ hW₁ => ⟨hf.1, hf.2, hp.2 (T.setVm vm₁) hT hW₁⟩) with ⟨v, vm₁, ⟨U', l2, c2, s2⟩, hW₁, X', ⟨g', mk, t, L, e1, e2, hq, h1, hL, h2, h3⟩, st⟩ | ⟨q, vm₁, ⟨U', l2, c2, s2⟩, hW₁, X', ⟨g', mk, t, L, E, ce, e1, e2, hq, hce, hcv, hcl, h1, hL, h2, h3⟩, st⟩
  · dsimp only [Pt.U, Pt.locs, Pt.cells, Pt.slots] at X' e1 e2 h1 h2 h3 st
    subst h1; subst h2; subst h3
    exact Or.inl ⟨v, (T.setVm vm₁).calling g' mk As.toArray, t, U', L, hT, X', hL, e1, e2, hq, st⟩
  · dsimp only [Pt.U, Pt.locs, Pt.cells, Pt.slots] at X' e1 e2 h1 h2 h3 st hcl
    subst h1; subst h2; subst h3
    exact Or.inr ⟨q, (T.setVm vm₁).calling g' mk As.toArray, t, U', L, E, ce, hT, X', hL, e1, e2, hq, hce, hcv, vx_cls hW₁ hcl, st⟩
end
end VXH
theorem vx_ofWH {l : Launch} {y : MethodName} {ws ws' : List Cond} {rm : Room} {Pc : Array Value → State → Prop} {Qc : Array Value → State → Outcome → State → Prop} {XC : String → State → State → Prop} {mc ms : Nat} {free : Addr → Prop} {cc : ByteArray} {maxL : Nat} {ret : Option FieldType} {hh : List (Nat × Nat × Nat × Nat)}
    (hy : plainName y.cls = true) (hw : ws = Cond.codeWith y cc maxL ret hh :: ws')
    (body : ∀ p e s m args below meth c s₁, BodyLoose p l y (headSpec ws rm) cc maxL ret e s m args below meth c s₁ → c.maxLocals = maxL → Pc args s →
      W p l e (headSpec ws rm).room s m args below meth c s.heap [] 0 0 (vx_MQ below Qc XC args s mc ms free) (entryFrame m args maxL)) : vx_Met l y ws rm Pc Qc XC mc ms free := by
  refine MetFree.of_bodyS (code := cc) (maxLocals := maxL) (ret := ret) hy ?_ ?_
  · intro args s m h hn
    obtain ⟨m9, meth, c, hn9, h1, h2, h3, h4, -, h5, h6, -⟩ := Cond.codeWith_spec (atoms_spec (ws := ws) h _ (by rw [hw]; exact List.mem_cons_self))
    cases hn.symm.trans hn9
    exact ⟨meth, c, h1, h2, h3, h4, h5, h6⟩
  · intro p e s m args below meth c s₁ B hml hP _
    have hh0 : s₁.heap = s.heap := by rw [B.state]; rfl
    obtain ⟨t, a1, o, b1, b2, b3⟩ := body p e s m args below meth c s₁ B hml hP s₁ hh0 (Stand.of_body B)
    exact ⟨t, o, a1, b1, b2, b3⟩
/-! ===== END ===== -/
end
section
def RX0 : String := "AccessGate$Ask"
def TX0 : u_T := fun k => match k with
  | 0 => ("AccessGate$Ask", "who", "LAccessGate$Person;", true)
  | 1 => ("AccessGate$Ask", "where", "LAccessGate$Machine;", true)
  | 2 => ("AccessGate$Ask", "minutes", "I", true)
  | 3 => ("AccessGate$Ask", "time", "I", true)
  | 4 => ("AccessGate$Ask", "firstApprover", "LAccessGate$Person;", false)
  | _ => ("AccessGate$Ask", "settled", "I", false)
def tyX0 : Nat → FieldType := fun k => match k with
  | 0 => .object "AccessGate$Person"
  | 1 => .object "AccessGate$Machine"
  | 2 => .int
  | 3 => .int
  | 4 => .object "AccessGate$Person"
  | _ => .int
abbrev wsX00 : List Cond := u_ws RX0 TX0 6
theorem nmX0 : ∀ a, a < 6 → ∀ b, b < 6 → a ≠ b → (TX0 a).2.1 ≠ (TX0 b).2.1 := by decide +kernel
theorem tyX0_ok : ∀ k, k < 6 → parseFieldDescriptor (TX0 k).2.2.1 = some (tyX0 k) := by decide +kernel
abbrev cX0_init : ByteArray := prog_2_method_1_code
def yX0_init : MethodName := ⟨RX0, "<init>", "(LAccessGate$Person;LAccessGate$Machine;II)V"⟩
abbrev cX0_stateAt : ByteArray := prog_2_method_2_code
def yX0_stateAt : MethodName := ⟨RX0, "stateAt", "(I)I"⟩
def RX1 : String := "AccessGate$Entry"
def TX1 : u_T := fun k => match k with
  | 0 => ("AccessGate$Entry", "who", "LAccessGate$Person;", true)
  | 1 => ("AccessGate$Entry", "where", "LAccessGate$Machine;", true)
  | 2 => ("AccessGate$Entry", "time", "I", true)
  | _ => ("AccessGate$Entry", "lookedAt", "Z", false)
def tyX1 : Nat → FieldType := fun k => match k with
  | 0 => .object "AccessGate$Person"
  | 1 => .object "AccessGate$Machine"
  | 2 => .int
  | _ => .boolean
abbrev wsX10 : List Cond := u_ws RX1 TX1 4
theorem nmX1 : ∀ a, a < 4 → ∀ b, b < 4 → a ≠ b → (TX1 a).2.1 ≠ (TX1 b).2.1 := by decide +kernel
theorem tyX1_ok : ∀ k, k < 4 → parseFieldDescriptor (TX1 k).2.2.1 = some (tyX1 k) := by decide +kernel
abbrev cX1_init : ByteArray := prog_3_method_1_code
def yX1_init : MethodName := ⟨RX1, "<init>", "(LAccessGate$Person;LAccessGate$Machine;I)V"⟩
abbrev cX1_isOverdueAt : ByteArray := prog_3_method_2_code
def yX1_isOverdueAt : MethodName := ⟨RX1, "isOverdueAt", "(I)Z"⟩
def RX2 : String := "AccessGate$Machine"
def TX2 : u_T := fun k => match k with
  | 0 => ("AccessGate$Machine", "number", "I", true)
  | _ => ("AccessGate$Machine", "label", "I", true)
def tyX2 : Nat → FieldType := fun k => match k with
  | 0 => .int
  | _ => .int
abbrev wsX20 : List Cond := u_ws RX2 TX2 2
theorem nmX2 : ∀ a, a < 2 → ∀ b, b < 2 → a ≠ b → (TX2 a).2.1 ≠ (TX2 b).2.1 := by decide +kernel
theorem tyX2_ok : ∀ k, k < 2 → parseFieldDescriptor (TX2 k).2.2.1 = some (tyX2 k) := by decide +kernel
abbrev cX2_init : ByteArray := prog_4_method_1_code
def yX2_init : MethodName := ⟨RX2, "<init>", "(II)V"⟩
def RX3 : String := "AccessGate$Person"
def TX3 : u_T := fun k => match k with
  | 0 => ("AccessGate$Person", "number", "I", true)
  | 1 => ("AccessGate$Person", "team", "I", true)
  | _ => ("AccessGate$Person", "labelBits", "I", false)
def tyX3 : Nat → FieldType := fun k => match k with
  | 0 => .int
  | 1 => .int
  | _ => .int
abbrev wsX30 : List Cond := u_ws RX3 TX3 3
theorem nmX3 : ∀ a, a < 3 → ∀ b, b < 3 → a ≠ b → (TX3 a).2.1 ≠ (TX3 b).2.1 := by decide +kernel
theorem tyX3_ok : ∀ k, k < 3 → parseFieldDescriptor (TX3 k).2.2.1 = some (tyX3 k) := by decide +kernel
abbrev cX3_init : ByteArray := prog_5_method_1_code
def yX3_init : MethodName := ⟨RX3, "<init>", "(II)V"⟩
abbrev cX3_hasLabel : ByteArray := prog_5_method_2_code
def yX3_hasLabel : MethodName := ⟨RX3, "hasLabel", "(I)Z"⟩
abbrev cX3_keepLabel : ByteArray := prog_5_method_3_code
def yX3_keepLabel : MethodName := ⟨RX3, "keepLabel", "(IZ)V"⟩
abbrev cX3_mayJudge : ByteArray := prog_5_method_4_code
def yX3_mayJudge : MethodName := ⟨RX3, "mayJudge", "(LAccessGate$Person;LAccessGate$Machine;)Z"⟩
def RX4 : String := "AccessGate$Right"
def TX4 : u_T := fun k => match k with
  | 0 => ("AccessGate$Right", "who", "LAccessGate$Person;", true)
  | 1 => ("AccessGate$Right", "where", "LAccessGate$Machine;", true)
  | 2 => ("AccessGate$Right", "begin", "I", true)
  | _ => ("AccessGate$Right", "end", "I", false)
def tyX4 : Nat → FieldType := fun k => match k with
  | 0 => .object "AccessGate$Person"
  | 1 => .object "AccessGate$Machine"
  | 2 => .int
  | _ => .int
abbrev wsX40 : List Cond := u_ws RX4 TX4 4
theorem nmX4 : ∀ a, a < 4 → ∀ b, b < 4 → a ≠ b → (TX4 a).2.1 ≠ (TX4 b).2.1 := by decide +kernel
theorem tyX4_ok : ∀ k, k < 4 → parseFieldDescriptor (TX4 k).2.2.1 = some (tyX4 k) := by decide +kernel
abbrev cX4_init : ByteArray := prog_6_method_1_code
def yX4_init : MethodName := ⟨RX4, "<init>", "(LAccessGate$Person;LAccessGate$Machine;II)V"⟩
abbrev cX4_holdsAt : ByteArray := prog_6_method_2_code
def yX4_holdsAt : MethodName := ⟨RX4, "holdsAt", "(I)Z"⟩
def RX5 : String := "AccessGate$Session"
def TX5 : u_T := fun k => match k with
  | 0 => ("AccessGate$Session", "who", "LAccessGate$Person;", true)
  | 1 => ("AccessGate$Session", "where", "LAccessGate$Machine;", true)
  | 2 => ("AccessGate$Session", "closed", "Z", false)
  | 3 => ("AccessGate$Session", "lastLine", "I", false)
  | 4 => ("AccessGate$Session", "heldSince", "I", false)
  | _ => ("AccessGate$Session", "linesLetThrough", "I", false)
def tyX5 : Nat → FieldType := fun k => match k with
  | 0 => .object "AccessGate$Person"
  | 1 => .object "AccessGate$Machine"
  | 2 => .boolean
  | 3 => .int
  | 4 => .int
  | _ => .int
abbrev wsX50 : List Cond := u_ws RX5 TX5 6
theorem nmX5 : ∀ a, a < 6 → ∀ b, b < 6 → a ≠ b → (TX5 a).2.1 ≠ (TX5 b).2.1 := by decide +kernel
theorem tyX5_ok : ∀ k, k < 6 → parseFieldDescriptor (TX5 k).2.2.1 = some (tyX5 k) := by decide +kernel
abbrev cX5_init : ByteArray := prog_7_method_1_code
def yX5_init : MethodName := ⟨RX5, "<init>", "(LAccessGate$Person;LAccessGate$Machine;I)V"⟩
abbrev cX5_holdsLine : ByteArray := prog_7_method_2_code
def yX5_holdsLine : MethodName := ⟨RX5, "holdsLine", "()Z"⟩
abbrev cX5_restsAt : ByteArray := prog_7_method_3_code
def yX5_restsAt : MethodName := ⟨RX5, "restsAt", "(I)Z"⟩
def RX6 : String := "AccessGate$StepRecord"
def TX6 : u_T := fun k => match k with
  | 0 => ("AccessGate$StepRecord", "kinds", "[I", true)
  | 1 => ("AccessGate$StepRecord", "seals", "[I", true)
  | 2 => ("AccessGate$StepRecord", "count", "I", false)
  | _ => ("AccessGate$StepRecord", "lastSeal", "I", false)
def tyX6 : Nat → FieldType := fun k => match k with
  | 0 => .array .int
  | 1 => .array .int
  | 2 => .int
  | _ => .int
abbrev wsX60 : List Cond := u_ws RX6 TX6 4
theorem nmX6 : ∀ a, a < 4 → ∀ b, b < 4 → a ≠ b → (TX6 a).2.1 ≠ (TX6 b).2.1 := by decide +kernel
theorem tyX6_ok : ∀ k, k < 4 → parseFieldDescriptor (TX6 k).2.2.1 = some (tyX6 k) := by decide +kernel
abbrev cX6_init : ByteArray := prog_8_method_1_code
def yX6_init : MethodName := ⟨RX6, "<init>", "()V"⟩
abbrev cX6_add : ByteArray := prog_8_method_2_code
def yX6_add : MethodName := ⟨RX6, "add", "(ILAccessGate$Person;LAccessGate$Machine;I)V"⟩
def RX7 : String := "AccessGate"
def TX7 : u_T := fun k => match k with
  | 0 => ("AccessGate", "people", "Ljava/util/ArrayList;", true)
  | 1 => ("AccessGate", "machines", "Ljava/util/ArrayList;", true)
  | 2 => ("AccessGate", "asks", "Ljava/util/ArrayList;", true)
  | 3 => ("AccessGate", "entries", "Ljava/util/ArrayList;", true)
  | 4 => ("AccessGate", "rights", "Ljava/util/ArrayList;", true)
  | 5 => ("AccessGate", "sessions", "Ljava/util/ArrayList;", true)
  | 6 => ("AccessGate", "record", "LAccessGate$StepRecord;", true)
  | 7 => ("AccessGate", "openCount", "I", false)
  | _ => ("AccessGate", "now", "I", false)
def tyX7 : Nat → FieldType := fun k => match k with
  | 0 => .object "java/util/ArrayList"
  | 1 => .object "java/util/ArrayList"
  | 2 => .object "java/util/ArrayList"
  | 3 => .object "java/util/ArrayList"
  | 4 => .object "java/util/ArrayList"
  | 5 => .object "java/util/ArrayList"
  | 6 => .object "AccessGate$StepRecord"
  | 7 => .int
  | _ => .int
abbrev wsX70 : List Cond := u_ws RX7 TX7 9
theorem nmX7 : ∀ a, a < 9 → ∀ b, b < 9 → a ≠ b → (TX7 a).2.1 ≠ (TX7 b).2.1 := by decide +kernel
theorem tyX7_ok : ∀ k, k < 9 → parseFieldDescriptor (TX7 k).2.2.1 = some (tyX7 k) := by decide +kernel
abbrev cX7_init : ByteArray := prog_1_method_1_code
def yX7_init : MethodName := ⟨RX7, "<init>", "()V"⟩
abbrev cX7_addPerson : ByteArray := prog_1_method_2_code
def yX7_addPerson : MethodName := ⟨RX7, "addPerson", "(I)I"⟩
abbrev cX7_addMachine : ByteArray := prog_1_method_3_code
def yX7_addMachine : MethodName := ⟨RX7, "addMachine", "(I)I"⟩
abbrev cX7_setLabel : ByteArray := prog_1_method_4_code
def yX7_setLabel : MethodName := ⟨RX7, "setLabel", "(IIZ)I"⟩
abbrev cX7_takeAway : ByteArray := prog_1_method_5_code
def yX7_takeAway : MethodName := ⟨RX7, "takeAway", "(II)I"⟩
abbrev cX7_ask : ByteArray := prog_1_method_6_code
def yX7_ask : MethodName := ⟨RX7, "ask", "(III)I"⟩
abbrev cX7_approve : ByteArray := prog_1_method_7_code
def yX7_approve : MethodName := ⟨RX7, "approve", "(II)Z"⟩
abbrev cX7_deny : ByteArray := prog_1_method_8_code
def yX7_deny : MethodName := ⟨RX7, "deny", "(II)V"⟩
abbrev cX7_askState : ByteArray := prog_1_method_9_code
def yX7_askState : MethodName := ⟨RX7, "askState", "(I)I"⟩
abbrev cX7_enter : ByteArray := prog_1_method_10_code
def yX7_enter : MethodName := ⟨RX7, "enter", "(II)I"⟩
abbrev cX7_lookAt : ByteArray := prog_1_method_11_code
def yX7_lookAt : MethodName := ⟨RX7, "lookAt", "(II)I"⟩
abbrev cX7_overdue : ByteArray := prog_1_method_12_code
def yX7_overdue : MethodName := ⟨RX7, "overdue", "(I)I"⟩
abbrev cX7_couldEnter : ByteArray := prog_1_method_13_code
def yX7_couldEnter : MethodName := ⟨RX7, "couldEnter", "(III)Z"⟩
abbrev cX7_open : ByteArray := prog_1_method_14_code
def yX7_open : MethodName := ⟨RX7, "open", "(II)I"⟩
abbrev cX7_type : ByteArray := prog_1_method_15_code
def yX7_type : MethodName := ⟨RX7, "type", "(II)Z"⟩
abbrev cX7_letThrough : ByteArray := prog_1_method_16_code
def yX7_letThrough : MethodName := ⟨RX7, "letThrough", "(II)I"⟩
abbrev cX7_close : ByteArray := prog_1_method_17_code
def yX7_close : MethodName := ⟨RX7, "close", "(I)I"⟩
abbrev cX7_isOpen : ByteArray := prog_1_method_18_code
def yX7_isOpen : MethodName := ⟨RX7, "isOpen", "(I)Z"⟩
abbrev cX7_openSessions : ByteArray := prog_1_method_19_code
def yX7_openSessions : MethodName := ⟨RX7, "openSessions", "()I"⟩
abbrev cX7_pass : ByteArray := prog_1_method_20_code
def yX7_pass : MethodName := ⟨RX7, "pass", "(I)I"⟩
abbrev cX7_clock : ByteArray := prog_1_method_21_code
def yX7_clock : MethodName := ⟨RX7, "clock", "()I"⟩
abbrev cX7_steps : ByteArray := prog_1_method_22_code
def yX7_steps : MethodName := ⟨RX7, "steps", "()I"⟩
abbrev cX7_kind : ByteArray := prog_1_method_23_code
def yX7_kind : MethodName := ⟨RX7, "kind", "(I)I"⟩
abbrev cX7_seal : ByteArray := prog_1_method_24_code
def yX7_seal : MethodName := ⟨RX7, "seal", "(I)I"⟩
abbrev cX7_personAt : ByteArray := prog_1_method_25_code
def yX7_personAt : MethodName := ⟨RX7, "personAt", "(I)LAccessGate$Person;"⟩
abbrev cX7_machineAt : ByteArray := prog_1_method_26_code
def yX7_machineAt : MethodName := ⟨RX7, "machineAt", "(I)LAccessGate$Machine;"⟩
abbrev cX7_askAt : ByteArray := prog_1_method_27_code
def yX7_askAt : MethodName := ⟨RX7, "askAt", "(I)LAccessGate$Ask;"⟩
abbrev cX7_entryAt : ByteArray := prog_1_method_28_code
def yX7_entryAt : MethodName := ⟨RX7, "entryAt", "(I)LAccessGate$Entry;"⟩
abbrev cX7_sessionAt : ByteArray := prog_1_method_29_code
def yX7_sessionAt : MethodName := ⟨RX7, "sessionAt", "(I)LAccessGate$Session;"⟩
abbrev cX7_requireStep : ByteArray := prog_1_method_30_code
def yX7_requireStep : MethodName := ⟨RX7, "requireStep", "(I)V"⟩
abbrev cX7_requireLabel : ByteArray := prog_1_method_31_code
def yX7_requireLabel : MethodName := ⟨RX7, "requireLabel", "(I)V"⟩
abbrev cX7_requireRoomFor : ByteArray := prog_1_method_32_code
def yX7_requireRoomFor : MethodName := ⟨RX7, "requireRoomFor", "(I)V"⟩
abbrev cX7_requireOpen : ByteArray := prog_1_method_33_code
def yX7_requireOpen : MethodName := ⟨RX7, "requireOpen", "(LAccessGate$Session;)V"⟩
abbrev cX7_requireMayAskOrEnter : ByteArray := prog_1_method_34_code
def yX7_requireMayAskOrEnter : MethodName := ⟨RX7, "requireMayAskOrEnter", "(LAccessGate$Person;LAccessGate$Machine;)V"⟩
abbrev cX7_requireMayJudge : ByteArray := prog_1_method_35_code
def yX7_requireMayJudge : MethodName := ⟨RX7, "requireMayJudge", "(LAccessGate$Ask;LAccessGate$Person;)V"⟩
abbrev cX7_countOverdue : ByteArray := prog_1_method_36_code
def yX7_countOverdue : MethodName := ⟨RX7, "countOverdue", "(LAccessGate$Person;)I"⟩
abbrev cX7_rightHolds : ByteArray := prog_1_method_37_code
def yX7_rightHolds : MethodName := ⟨RX7, "rightHolds", "(LAccessGate$Person;LAccessGate$Machine;I)Z"⟩
abbrev cX7_endRights : ByteArray := prog_1_method_38_code
def yX7_endRights : MethodName := ⟨RX7, "endRights", "(LAccessGate$Person;LAccessGate$Machine;)V"⟩
abbrev cX7_denyWaitingAsks : ByteArray := prog_1_method_39_code
def yX7_denyWaitingAsks : MethodName := ⟨RX7, "denyWaitingAsks", "(LAccessGate$Person;LAccessGate$Machine;)V"⟩
abbrev cX7_closeEndedSessions : ByteArray := prog_1_method_40_code
def yX7_closeEndedSessions : MethodName := ⟨RX7, "closeEndedSessions", "()I"⟩
abbrev cX7_endSession : ByteArray := prog_1_method_41_code
def yX7_endSession : MethodName := ⟨RX7, "endSession", "(LAccessGate$Session;)V"⟩
def RX8 : String := "AccessGateModel"
def TX8 : u_T := fun k => match k with
  | 0 => ("AccessGateModel", "teams", "[I", true)
  | 1 => ("AccessGateModel", "labels", "[Z", true)
  | 2 => ("AccessGateModel", "people", "I", false)
  | 3 => ("AccessGateModel", "labelOf", "[I", true)
  | 4 => ("AccessGateModel", "machines", "I", false)
  | 5 => ("AccessGateModel", "clock", "I", false)
  | 6 => ("AccessGateModel", "rightPeople", "[I", true)
  | 7 => ("AccessGateModel", "rightMachines", "[I", true)
  | 8 => ("AccessGateModel", "begins", "[I", true)
  | 9 => ("AccessGateModel", "ends", "[I", true)
  | 10 => ("AccessGateModel", "rights", "I", false)
  | 11 => ("AccessGateModel", "askPeople", "[I", true)
  | 12 => ("AccessGateModel", "askMachines", "[I", true)
  | 13 => ("AccessGateModel", "askMinutes", "[I", true)
  | 14 => ("AccessGateModel", "askTimes", "[I", true)
  | 15 => ("AccessGateModel", "askStates", "[I", true)
  | 16 => ("AccessGateModel", "firstBy", "[I", true)
  | 17 => ("AccessGateModel", "asks", "I", false)
  | 18 => ("AccessGateModel", "entryPeople", "[I", true)
  | 19 => ("AccessGateModel", "entryMachines", "[I", true)
  | 20 => ("AccessGateModel", "entryTimes", "[I", true)
  | 21 => ("AccessGateModel", "looked", "[Z", true)
  | 22 => ("AccessGateModel", "entries", "I", false)
  | 23 => ("AccessGateModel", "sessionPeople", "[I", true)
  | 24 => ("AccessGateModel", "sessionMachines", "[I", true)
  | 25 => ("AccessGateModel", "opens", "[Z", true)
  | 26 => ("AccessGateModel", "typed", "[I", true)
  | 27 => ("AccessGateModel", "held", "[I", true)
  | 28 => ("AccessGateModel", "through", "[I", true)
  | 29 => ("AccessGateModel", "sessions", "I", false)
  | 30 => ("AccessGateModel", "kinds", "[I", true)
  | 31 => ("AccessGateModel", "seals", "[I", true)
  | 32 => ("AccessGateModel", "steps", "I", false)
  | _ => ("AccessGateModel", "last", "I", false)
def tyX8 : Nat → FieldType := fun k => match k with
  | 0 => .array .int
  | 1 => .array .boolean
  | 2 => .int
  | 3 => .array .int
  | 4 => .int
  | 5 => .int
  | 6 => .array .int
  | 7 => .array .int
  | 8 => .array .int
  | 9 => .array .int
  | 10 => .int
  | 11 => .array .int
  | 12 => .array .int
  | 13 => .array .int
  | 14 => .array .int
  | 15 => .array .int
  | 16 => .array .int
  | 17 => .int
  | 18 => .array .int
  | 19 => .array .int
  | 20 => .array .int
  | 21 => .array .boolean
  | 22 => .int
  | 23 => .array .int
  | 24 => .array .int
  | 25 => .array .boolean
  | 26 => .array .int
  | 27 => .array .int
  | 28 => .array .int
  | 29 => .int
  | 30 => .array .int
  | 31 => .array .int
  | 32 => .int
  | _ => .int
abbrev wsX80 : List Cond := u_ws RX8 TX8 34
theorem nmX8 : ∀ a, a < 34 → ∀ b, b < 34 → a ≠ b → (TX8 a).2.1 ≠ (TX8 b).2.1 := by decide +kernel
theorem tyX8_ok : ∀ k, k < 34 → parseFieldDescriptor (TX8 k).2.2.1 = some (tyX8 k) := by decide +kernel
abbrev cX8_init : ByteArray := prog_10_method_1_code
def yX8_init : MethodName := ⟨RX8, "<init>", "()V"⟩
abbrev cX8_thrown : ByteArray := prog_10_method_2_code
def yX8_thrown : MethodName := ⟨RX8, "thrown", "()I"⟩
abbrev cX8_in : ByteArray := prog_10_method_3_code
def yX8_in : MethodName := ⟨RX8, "in", "(III)Z"⟩
abbrev cX8_goes : ByteArray := prog_10_method_4_code
def yX8_goes : MethodName := ⟨RX8, "goes", "(ZZZ)Z"⟩
abbrev cX8_isPerson : ByteArray := prog_10_method_5_code
def yX8_isPerson : MethodName := ⟨RX8, "isPerson", "(I)Z"⟩
abbrev cX8_isMachine : ByteArray := prog_10_method_6_code
def yX8_isMachine : MethodName := ⟨RX8, "isMachine", "(I)Z"⟩
abbrev cX8_areBoth : ByteArray := prog_10_method_7_code
def yX8_areBoth : MethodName := ⟨RX8, "areBoth", "(II)Z"⟩
abbrev cX8_isAsk : ByteArray := prog_10_method_8_code
def yX8_isAsk : MethodName := ⟨RX8, "isAsk", "(I)Z"⟩
abbrev cX8_isEntry : ByteArray := prog_10_method_9_code
def yX8_isEntry : MethodName := ⟨RX8, "isEntry", "(I)Z"⟩
abbrev cX8_isSession : ByteArray := prog_10_method_10_code
def yX8_isSession : MethodName := ⟨RX8, "isSession", "(I)Z"⟩
abbrev cX8_writes : ByteArray := prog_10_method_11_code
def yX8_writes : MethodName := ⟨RX8, "writes", "(III)V"⟩
abbrev cX8_addPerson : ByteArray := prog_10_method_12_code
def yX8_addPerson : MethodName := ⟨RX8, "addPerson", "(I)I"⟩
abbrev cX8_addMachine : ByteArray := prog_10_method_13_code
def yX8_addMachine : MethodName := ⟨RX8, "addMachine", "(I)I"⟩
abbrev cX8_hasLabel : ByteArray := prog_10_method_14_code
def yX8_hasLabel : MethodName := ⟨RX8, "hasLabel", "(II)Z"⟩
abbrev cX8_holdsAt : ByteArray := prog_10_method_15_code
def yX8_holdsAt : MethodName := ⟨RX8, "holdsAt", "(III)Z"⟩
abbrev cX8_grants : ByteArray := prog_10_method_16_code
def yX8_grants : MethodName := ⟨RX8, "grants", "(III)V"⟩
abbrev cX8_endsRights : ByteArray := prog_10_method_17_code
def yX8_endsRights : MethodName := ⟨RX8, "endsRights", "(II)V"⟩
abbrev cX8_deniesAsks : ByteArray := prog_10_method_18_code
def yX8_deniesAsks : MethodName := ⟨RX8, "deniesAsks", "(II)V"⟩
abbrev cX8_shuts : ByteArray := prog_10_method_19_code
def yX8_shuts : MethodName := ⟨RX8, "shuts", "(I)V"⟩
abbrev cX8_closes : ByteArray := prog_10_method_20_code
def yX8_closes : MethodName := ⟨RX8, "closes", "(I)I"⟩
abbrev cX8_setLabel : ByteArray := prog_10_method_21_code
def yX8_setLabel : MethodName := ⟨RX8, "setLabel", "(IIZ)I"⟩
abbrev cX8_takeAway : ByteArray := prog_10_method_22_code
def yX8_takeAway : MethodName := ⟨RX8, "takeAway", "(II)I"⟩
abbrev cX8_overdues : ByteArray := prog_10_method_23_code
def yX8_overdues : MethodName := ⟨RX8, "overdues", "(I)I"⟩
abbrev cX8_canAsk : ByteArray := prog_10_method_24_code
def yX8_canAsk : MethodName := ⟨RX8, "canAsk", "(II)Z"⟩
abbrev cX8_ask : ByteArray := prog_10_method_25_code
def yX8_ask : MethodName := ⟨RX8, "ask", "(III)I"⟩
abbrev cX8_canJudge : ByteArray := prog_10_method_26_code
def yX8_canJudge : MethodName := ⟨RX8, "canJudge", "(II)Z"⟩
abbrev cX8_approve : ByteArray := prog_10_method_27_code
def yX8_approve : MethodName := ⟨RX8, "approve", "(II)Z"⟩
abbrev cX8_deny : ByteArray := prog_10_method_28_code
def yX8_deny : MethodName := ⟨RX8, "deny", "(II)V"⟩
abbrev cX8_askState : ByteArray := prog_10_method_29_code
def yX8_askState : MethodName := ⟨RX8, "askState", "(I)I"⟩
abbrev cX8_enter : ByteArray := prog_10_method_30_code
def yX8_enter : MethodName := ⟨RX8, "enter", "(II)I"⟩
abbrev cX8_lookAt : ByteArray := prog_10_method_31_code
def yX8_lookAt : MethodName := ⟨RX8, "lookAt", "(II)I"⟩
abbrev cX8_overdue : ByteArray := prog_10_method_32_code
def yX8_overdue : MethodName := ⟨RX8, "overdue", "(I)I"⟩
abbrev cX8_couldEnter : ByteArray := prog_10_method_33_code
def yX8_couldEnter : MethodName := ⟨RX8, "couldEnter", "(III)Z"⟩
abbrev cX8_open : ByteArray := prog_10_method_34_code
def yX8_open : MethodName := ⟨RX8, "open", "(II)I"⟩
abbrev cX8_type : ByteArray := prog_10_method_35_code
def yX8_type : MethodName := ⟨RX8, "type", "(II)Z"⟩
abbrev cX8_letThrough : ByteArray := prog_10_method_36_code
def yX8_letThrough : MethodName := ⟨RX8, "letThrough", "(II)I"⟩
abbrev cX8_close : ByteArray := prog_10_method_37_code
def yX8_close : MethodName := ⟨RX8, "close", "(I)I"⟩
abbrev cX8_isOpen : ByteArray := prog_10_method_38_code
def yX8_isOpen : MethodName := ⟨RX8, "isOpen", "(I)Z"⟩
abbrev cX8_openSessions : ByteArray := prog_10_method_39_code
def yX8_openSessions : MethodName := ⟨RX8, "openSessions", "()I"⟩
abbrev cX8_pass : ByteArray := prog_10_method_40_code
def yX8_pass : MethodName := ⟨RX8, "pass", "(I)I"⟩
abbrev cX8_clock : ByteArray := prog_10_method_41_code
def yX8_clock : MethodName := ⟨RX8, "clock", "()I"⟩
abbrev cX8_steps : ByteArray := prog_10_method_42_code
def yX8_steps : MethodName := ⟨RX8, "steps", "()I"⟩
abbrev cX8_kind : ByteArray := prog_10_method_43_code
def yX8_kind : MethodName := ⟨RX8, "kind", "(I)I"⟩
abbrev cX8_seal : ByteArray := prog_10_method_44_code
def yX8_seal : MethodName := ⟨RX8, "seal", "(I)I"⟩
def RJx145de : String := "java/io/Serializable"
def TJx145de : u_T := fun k => match k with
  | _ => ("", "", "", false)
def tyJx145de : Nat → FieldType := fun k => match k with
  | _ => .int
abbrev wsJx145de0 : List Cond := u_ws RJx145de TJx145de 0
theorem nmJx145de : ∀ a, a < 0 → ∀ b, b < 0 → a ≠ b → (TJx145de a).2.1 ≠ (TJx145de b).2.1 := by decide +kernel
theorem tyJx145de_ok : ∀ k, k < 0 → parseFieldDescriptor (TJx145de k).2.2.1 = some (tyJx145de k) := by decide +kernel
def RJx8e188 : String := "java/lang/Cloneable"
def TJx8e188 : u_T := fun k => match k with
  | _ => ("", "", "", false)
def tyJx8e188 : Nat → FieldType := fun k => match k with
  | _ => .int
abbrev wsJx8e1880 : List Cond := u_ws RJx8e188 TJx8e188 0
theorem nmJx8e188 : ∀ a, a < 0 → ∀ b, b < 0 → a ≠ b → (TJx8e188 a).2.1 ≠ (TJx8e188 b).2.1 := by decide +kernel
theorem tyJx8e188_ok : ∀ k, k < 0 → parseFieldDescriptor (TJx8e188 k).2.2.1 = some (tyJx8e188 k) := by decide +kernel
def RJxab1ab : String := "java/lang/Iterable"
def TJxab1ab : u_T := fun k => match k with
  | _ => ("", "", "", false)
def tyJxab1ab : Nat → FieldType := fun k => match k with
  | _ => .int
abbrev wsJxab1ab0 : List Cond := u_ws RJxab1ab TJxab1ab 0
theorem nmJxab1ab : ∀ a, a < 0 → ∀ b, b < 0 → a ≠ b → (TJxab1ab a).2.1 ≠ (TJxab1ab b).2.1 := by decide +kernel
theorem tyJxab1ab_ok : ∀ k, k < 0 → parseFieldDescriptor (TJxab1ab k).2.2.1 = some (tyJxab1ab k) := by decide +kernel
def RJ9 : String := "java/lang/Math"
def TJ9 : u_T := fun k => match k with
  | _ => ("", "", "", false)
def tyJ9 : Nat → FieldType := fun k => match k with
  | _ => .int
abbrev wsJ90 : List Cond := u_ws RJ9 TJ9 0
theorem nmJ9 : ∀ a, a < 0 → ∀ b, b < 0 → a ≠ b → (TJ9 a).2.1 ≠ (TJ9 b).2.1 := by decide +kernel
theorem tyJ9_ok : ∀ k, k < 0 → parseFieldDescriptor (TJ9 k).2.2.1 = some (tyJ9 k) := by decide +kernel
abbrev cJ9_max_7cf53 : ByteArray := prog_18_method_65_code
def yJ9_max_7cf53 : MethodName := ⟨RJ9, "max", "(II)I"⟩
abbrev cJ9_min_7cf53 : ByteArray := prog_18_method_69_code
def yJ9_min_7cf53 : MethodName := ⟨RJ9, "min", "(II)I"⟩
def RJ0 : String := "java/lang/String"
def TJ0 : u_T := fun k => match k with
  | _ => ("", "", "", false)
def tyJ0 : Nat → FieldType := fun k => match k with
  | _ => .int
abbrev wsJ00 : List Cond := u_ws RJ0 TJ0 0
theorem nmJ0 : ∀ a, a < 0 → ∀ b, b < 0 → a ≠ b → (TJ0 a).2.1 ≠ (TJ0 b).2.1 := by decide +kernel
theorem tyJ0_ok : ∀ k, k < 0 → parseFieldDescriptor (TJ0 k).2.2.1 = some (tyJ0 k) := by decide +kernel
def RJ10 : String := "java/lang/System"
def TJ10 : u_T := fun k => match k with
  | _ => ("", "", "", false)
def tyJ10 : Nat → FieldType := fun k => match k with
  | _ => .int
abbrev wsJ100 : List Cond := u_ws RJ10 TJ10 0
theorem nmJ10 : ∀ a, a < 0 → ∀ b, b < 0 → a ≠ b → (TJ10 a).2.1 ≠ (TJ10 b).2.1 := by decide +kernel
theorem tyJ10_ok : ∀ k, k < 0 → parseFieldDescriptor (TJ10 k).2.2.1 = some (tyJ10 k) := by decide +kernel
def RJxa1e45 : String := "java/util/AbstractCollection"
def TJxa1e45 : u_T := fun k => match k with
  | _ => ("", "", "", false)
def tyJxa1e45 : Nat → FieldType := fun k => match k with
  | _ => .int
abbrev wsJxa1e450 : List Cond := u_ws RJxa1e45 TJxa1e45 0
theorem nmJxa1e45 : ∀ a, a < 0 → ∀ b, b < 0 → a ≠ b → (TJxa1e45 a).2.1 ≠ (TJxa1e45 b).2.1 := by decide +kernel
theorem tyJxa1e45_ok : ∀ k, k < 0 → parseFieldDescriptor (TJxa1e45 k).2.2.1 = some (tyJxa1e45 k) := by decide +kernel
abbrev cJxa1e45_init_da8c8 : ByteArray := prog_23_method_1_code
def yJxa1e45_init_da8c8 : MethodName := ⟨RJxa1e45, "<init>", "()V"⟩
def RJxc12de : String := "java/util/AbstractList"
def TJxc12de : u_T := fun k => match k with
  | _ => ("", "", "", false)
def tyJxc12de : Nat → FieldType := fun k => match k with
  | _ => .int
abbrev wsJxc12de0 : List Cond := u_ws RJxc12de TJxc12de 0
theorem nmJxc12de : ∀ a, a < 0 → ∀ b, b < 0 → a ≠ b → (TJxc12de a).2.1 ≠ (TJxc12de b).2.1 := by decide +kernel
theorem tyJxc12de_ok : ∀ k, k < 0 → parseFieldDescriptor (TJxc12de k).2.2.1 = some (tyJxc12de k) := by decide +kernel
abbrev cJxc12de_init_da8c8 : ByteArray := prog_24_method_1_code
def yJxc12de_init_da8c8 : MethodName := ⟨RJxc12de, "<init>", "()V"⟩
def RJx4a65c : String := "java/util/ArrayList"
def TJx4a65c : u_T := fun k => match k with
  | 0 => ("java/util/AbstractList", "modCount", "I", false)
  | 1 => ("java/util/ArrayList", "elementData", "[Ljava/lang/Object;", false)
  | _ => ("java/util/ArrayList", "size", "I", false)
def tyJx4a65c : Nat → FieldType := fun k => match k with
  | 0 => .int
  | 1 => .array (.object "java/lang/Object")
  | _ => .int
abbrev wsJx4a65c0 : List Cond := u_ws RJx4a65c TJx4a65c 3
theorem nmJx4a65c : ∀ a, a < 3 → ∀ b, b < 3 → a ≠ b → (TJx4a65c a).2.1 ≠ (TJx4a65c b).2.1 := by decide +kernel
theorem tyJx4a65c_ok : ∀ k, k < 3 → parseFieldDescriptor (TJx4a65c k).2.2.1 = some (tyJx4a65c k) := by decide +kernel
abbrev cJx4a65c_init_da8c8 : ByteArray := prog_25_method_2_code
def yJx4a65c_init_da8c8 : MethodName := ⟨RJx4a65c, "<init>", "()V"⟩
abbrev cJx4a65c_grow_92f84 : ByteArray := prog_25_method_6_code
def yJx4a65c_grow_92f84 : MethodName := ⟨RJx4a65c, "grow", "(I)[Ljava/lang/Object;"⟩
abbrev cJx4a65c_grow_d5877 : ByteArray := prog_25_method_7_code
def yJx4a65c_grow_d5877 : MethodName := ⟨RJx4a65c, "grow", "()[Ljava/lang/Object;"⟩
abbrev cJx4a65c_size_8abf5 : ByteArray := prog_25_method_8_code
def yJx4a65c_size_8abf5 : MethodName := ⟨RJx4a65c, "size", "()I"⟩
abbrev cJx4a65c_elementData_915e3 : ByteArray := prog_25_method_18_code
def yJx4a65c_elementData_915e3 : MethodName := ⟨RJx4a65c, "elementData", "(I)Ljava/lang/Object;"⟩
abbrev cJx4a65c_get_915e3 : ByteArray := prog_25_method_20_code
def yJx4a65c_get_915e3 : MethodName := ⟨RJx4a65c, "get", "(I)Ljava/lang/Object;"⟩
abbrev cJx4a65c_add_72be8 : ByteArray := prog_25_method_24_code
def yJx4a65c_add_72be8 : MethodName := ⟨RJx4a65c, "add", "(Ljava/lang/Object;[Ljava/lang/Object;I)V"⟩
abbrev cJx4a65c_add_9ea2d : ByteArray := prog_25_method_25_code
def yJx4a65c_add_9ea2d : MethodName := ⟨RJx4a65c, "add", "(Ljava/lang/Object;)Z"⟩
def RJ7 : String := "java/util/Arrays"
def TJ7 : u_T := fun k => match k with
  | _ => ("", "", "", false)
def tyJ7 : Nat → FieldType := fun k => match k with
  | _ => .int
abbrev wsJ70 : List Cond := u_ws RJ7 TJ7 0
theorem nmJ7 : ∀ a, a < 0 → ∀ b, b < 0 → a ≠ b → (TJ7 a).2.1 ≠ (TJ7 b).2.1 := by decide +kernel
theorem tyJ7_ok : ∀ k, k < 0 → parseFieldDescriptor (TJ7 k).2.2.1 = some (tyJ7 k) := by decide +kernel
abbrev cJ7_copyOf_1904c : ByteArray := prog_26_method_119_code
def yJ7_copyOf_1904c : MethodName := ⟨RJ7, "copyOf", "([Ljava/lang/Object;I)[Ljava/lang/Object;"⟩
abbrev cJ7_copyOf_6403c : ByteArray := prog_26_method_120_code
def yJ7_copyOf_6403c : MethodName := ⟨RJ7, "copyOf", "([Ljava/lang/Object;ILjava/lang/Class;)[Ljava/lang/Object;"⟩
def RJx5ef63 : String := "java/util/Collection"
def TJx5ef63 : u_T := fun k => match k with
  | _ => ("", "", "", false)
def tyJx5ef63 : Nat → FieldType := fun k => match k with
  | _ => .int
abbrev wsJx5ef630 : List Cond := u_ws RJx5ef63 TJx5ef63 0
theorem nmJx5ef63 : ∀ a, a < 0 → ∀ b, b < 0 → a ≠ b → (TJx5ef63 a).2.1 ≠ (TJx5ef63 b).2.1 := by decide +kernel
theorem tyJx5ef63_ok : ∀ k, k < 0 → parseFieldDescriptor (TJx5ef63 k).2.2.1 = some (tyJx5ef63 k) := by decide +kernel
def RJxbd725 : String := "java/util/List"
def TJxbd725 : u_T := fun k => match k with
  | _ => ("", "", "", false)
def tyJxbd725 : Nat → FieldType := fun k => match k with
  | _ => .int
abbrev wsJxbd7250 : List Cond := u_ws RJxbd725 TJxbd725 0
theorem nmJxbd725 : ∀ a, a < 0 → ∀ b, b < 0 → a ≠ b → (TJxbd725 a).2.1 ≠ (TJxbd725 b).2.1 := by decide +kernel
theorem tyJxbd725_ok : ∀ k, k < 0 → parseFieldDescriptor (TJxbd725 k).2.2.1 = some (tyJxbd725 k) := by decide +kernel
def RJ15 : String := "java/util/Objects"
def TJ15 : u_T := fun k => match k with
  | _ => ("", "", "", false)
def tyJ15 : Nat → FieldType := fun k => match k with
  | _ => .int
abbrev wsJ150 : List Cond := u_ws RJ15 TJ15 0
theorem nmJ15 : ∀ a, a < 0 → ∀ b, b < 0 → a ≠ b → (TJ15 a).2.1 ≠ (TJ15 b).2.1 := by decide +kernel
theorem tyJ15_ok : ∀ k, k < 0 → parseFieldDescriptor (TJ15 k).2.2.1 = some (tyJ15 k) := by decide +kernel
abbrev cJ15_checkIndex_7cf53 : ByteArray := prog_29_method_17_code
def yJ15_checkIndex_7cf53 : MethodName := ⟨RJ15, "checkIndex", "(II)I"⟩
def RJxf0a74 : String := "java/util/RandomAccess"
def TJxf0a74 : u_T := fun k => match k with
  | _ => ("", "", "", false)
def tyJxf0a74 : Nat → FieldType := fun k => match k with
  | _ => .int
abbrev wsJxf0a740 : List Cond := u_ws RJxf0a74 TJxf0a74 0
theorem nmJxf0a74 : ∀ a, a < 0 → ∀ b, b < 0 → a ≠ b → (TJxf0a74 a).2.1 ≠ (TJxf0a74 b).2.1 := by decide +kernel
theorem tyJxf0a74_ok : ∀ k, k < 0 → parseFieldDescriptor (TJxf0a74 k).2.2.1 = some (tyJxf0a74 k) := by decide +kernel
def RJxa66e6 : String := "java/util/SequencedCollection"
def TJxa66e6 : u_T := fun k => match k with
  | _ => ("", "", "", false)
def tyJxa66e6 : Nat → FieldType := fun k => match k with
  | _ => .int
abbrev wsJxa66e60 : List Cond := u_ws RJxa66e6 TJxa66e6 0
theorem nmJxa66e6 : ∀ a, a < 0 → ∀ b, b < 0 → a ≠ b → (TJxa66e6 a).2.1 ≠ (TJxa66e6 b).2.1 := by decide +kernel
theorem tyJxa66e6_ok : ∀ k, k < 0 → parseFieldDescriptor (TJxa66e6 k).2.2.1 = some (tyJxa66e6 k) := by decide +kernel
def RJ8 : String := "jdk/internal/util/ArraysSupport"
def TJ8 : u_T := fun k => match k with
  | _ => ("", "", "", false)
def tyJ8 : Nat → FieldType := fun k => match k with
  | _ => .int
abbrev wsJ80 : List Cond := u_ws RJ8 TJ8 0
theorem nmJ8 : ∀ a, a < 0 → ∀ b, b < 0 → a ≠ b → (TJ8 a).2.1 ≠ (TJ8 b).2.1 := by decide +kernel
theorem tyJ8_ok : ∀ k, k < 0 → parseFieldDescriptor (TJ8 k).2.2.1 = some (tyJ8 k) := by decide +kernel
abbrev cJ8_newLength_cabcc : ByteArray := prog_32_method_27_code
def yJ8_newLength_cabcc : MethodName := ⟨RJ8, "newLength", "(III)I"⟩
abbrev cJ8_hugeLength_7cf53 : ByteArray := prog_32_method_28_code
def yJ8_hugeLength_7cf53 : MethodName := ⟨RJ8, "hugeLength", "(II)I"⟩
def RJ3 : String := "jdk/internal/util/Preconditions"
def TJ3 : u_T := fun k => match k with
  | _ => ("", "", "", false)
def tyJ3 : Nat → FieldType := fun k => match k with
  | _ => .int
abbrev wsJ30 : List Cond := u_ws RJ3 TJ3 0
theorem nmJ3 : ∀ a, a < 0 → ∀ b, b < 0 → a ≠ b → (TJ3 a).2.1 ≠ (TJ3 b).2.1 := by decide +kernel
theorem tyJ3_ok : ∀ k, k < 0 → parseFieldDescriptor (TJ3 k).2.2.1 = some (tyJ3 k) := by decide +kernel
abbrev cJ3_checkIndex_8e157 : ByteArray := prog_33_method_11_code
def yJ3_checkIndex_8e157 : MethodName := ⟨RJ3, "checkIndex", "(IILjava/util/function/BiFunction;)I"⟩
def RL : String := "AccessGateLaw"
abbrev cL_addPerson : ByteArray := method_3_code
def yL_addPerson : MethodName := ⟨RL, "addPerson", "(LAccessGate;I[J)I"⟩
abbrev cL_addMachine : ByteArray := method_4_code
def yL_addMachine : MethodName := ⟨RL, "addMachine", "(LAccessGate;I[J)I"⟩
abbrev cL_setLabel : ByteArray := method_5_code
def yL_setLabel : MethodName := ⟨RL, "setLabel", "(LAccessGate;IIZ[J)I"⟩
abbrev cL_takeAway : ByteArray := method_6_code
def yL_takeAway : MethodName := ⟨RL, "takeAway", "(LAccessGate;II[J)I"⟩
abbrev cL_ask : ByteArray := method_7_code
def yL_ask : MethodName := ⟨RL, "ask", "(LAccessGate;III[J)I"⟩
abbrev cL_approve : ByteArray := method_8_code
def yL_approve : MethodName := ⟨RL, "approve", "(LAccessGate;II[J)I"⟩
abbrev cL_deny : ByteArray := method_9_code
def yL_deny : MethodName := ⟨RL, "deny", "(LAccessGate;II)I"⟩
abbrev cL_askState : ByteArray := method_10_code
def yL_askState : MethodName := ⟨RL, "askState", "(LAccessGate;I[J)I"⟩
abbrev cL_enter : ByteArray := method_11_code
def yL_enter : MethodName := ⟨RL, "enter", "(LAccessGate;II[J)I"⟩
abbrev cL_lookAt : ByteArray := method_12_code
def yL_lookAt : MethodName := ⟨RL, "lookAt", "(LAccessGate;II[J)I"⟩
abbrev cL_overdue : ByteArray := method_13_code
def yL_overdue : MethodName := ⟨RL, "overdue", "(LAccessGate;I[J)I"⟩
abbrev cL_couldEnter : ByteArray := method_14_code
def yL_couldEnter : MethodName := ⟨RL, "couldEnter", "(LAccessGate;III[J)I"⟩
abbrev cL_open : ByteArray := method_15_code
def yL_open : MethodName := ⟨RL, "open", "(LAccessGate;II[J)I"⟩
abbrev cL_type : ByteArray := method_16_code
def yL_type : MethodName := ⟨RL, "type", "(LAccessGate;II[J)I"⟩
abbrev cL_letThrough : ByteArray := method_17_code
def yL_letThrough : MethodName := ⟨RL, "letThrough", "(LAccessGate;II[J)I"⟩
abbrev cL_close : ByteArray := method_18_code
def yL_close : MethodName := ⟨RL, "close", "(LAccessGate;I[J)I"⟩
abbrev cL_isOpen : ByteArray := method_19_code
def yL_isOpen : MethodName := ⟨RL, "isOpen", "(LAccessGate;I[J)I"⟩
abbrev cL_pass : ByteArray := method_20_code
def yL_pass : MethodName := ⟨RL, "pass", "(LAccessGate;I[J)I"⟩
abbrev cL_kind : ByteArray := method_21_code
def yL_kind : MethodName := ⟨RL, "kind", "(LAccessGate;I[J)I"⟩
abbrev cL_seal : ByteArray := method_22_code
def yL_seal : MethodName := ⟨RL, "seal", "(LAccessGate;I[J)I"⟩
abbrev cL_law : ByteArray := code
def yL_law : MethodName := ⟨RL, "law", "([I)Z"⟩
abbrev vwCl : List vw_C := [(RJx4a65c, TJx4a65c, 3), (RX0, TX0, 6), (RX1, TX1, 4), (RX2, TX2, 2), (RX3, TX3, 3), (RX4, TX4, 4), (RX5, TX5, 6), (RX6, TX6, 4), (RX7, TX7, 9), (RX8, TX8, 34)]
end
section
/-! WORLDS AS MAPS: a partial map of cells (an address, what lies there); one set of facts of the tables; rows over it. -/
abbrev mw_M : Type := Nat → Option va_E
abbrev mw_G : Type := va_G × (Nat → ClassId) × Nat
def mw_tys (G : mw_G) : List (ClassId × FieldType) := [(G.2.1 0, .int), (G.2.1 1, .boolean), (G.2.1 2, .object "java/lang/Object"), (G.2.1 3, .long)]
/-- words of the tables that stay: what the kit calls good, and links of nest mates, casts, declarations -/
def mw_ok (w : Cond) : Bool := match w with
  | .fieldLinkNest .. => true
  | .methodLinkNest .. => true
  | .castable .. => true
  | .declares _ => true
  | w => goodWord w
def mw_W (U : State) : Prop := ∀ w ∈ lw_tbl, mw_ok w = true → w.before #[] U = true
theorem mw_use {U : State} {w : Cond} (h : mw_W U) (hm : w ∈ lw_tbl) (hk : mw_ok w = true) {A : Array Value} : w.before A U = true := by
  have h1 := h w hm hk
  unfold mw_ok at hk
  split at hk
  · exact va_Nw.use rfl h1
  · exact va_Nw.use rfl h1
  · exact va_Nw.use rfl h1
  · exact va_Nw.use rfl h1
  · exact word_at (State.WarmedH.refl U) (good_of_word hk) h1
theorem mw_W.warm {s U : State} (hW : s.WarmedH U.vm) (h : mw_W s) : mw_W U := by
  intro w hm hk
  have h1 := h w hm hk
  unfold mw_ok at hk
  split at hk
  · exact va_Nw.warmF hW h1
  · exact va_Nw.warmM hW h1
  · exact va_Nw.warmC hW h1
  · exact va_Nw.warmD hW h1
  · exact word_at hW (good_of_word hk) h1
/-- the written texts: some class, its entry, the text -/
def mw_Sr (q : String × Nat × String) (U : State) : Prop := ∃ a : Nat, vk_R q.1 q.2.1 q.2.2 a U
/-- all that a method knows of the tables -/
def mw_K (S : List (String × Nat × String)) (G : mw_G) (U : State) : Prop := mw_W U ∧ va_K G.1 vwCl (mw_tys G) U ∧ va_AO "java/lang/Object" U ∧ (∀ q ∈ S, mw_Sr q U) ∧ ∃ mi : Nat, va_Mi "[Ljava/lang/Object;" mi U
theorem mw_K.warm {S : List (String × Nat × String)} {G : mw_G} {s U : State} (hW : s.WarmedH U.vm) (h : mw_K S G s) : mw_K S G U := by
  obtain ⟨h1, h2, h3, h4, mi, h5⟩ := h
  refine ⟨h1.warm hW, va_K.moved hW.alike h2, va_AO.moved hW.alike h3, fun q hq => ?_, mi, va_Mi.moved hW.alike h5⟩
  obtain ⟨a, ha⟩ := h4 q hq
  exact ⟨a, vk_R.warm hW ha⟩
theorem mw_K.calling {S : List (String × Nat × String)} {G : mw_G} {U : State} {g : JFrame} {mk : MethodId} {a : Array Value} (h : mw_K S G U) : mw_K S G (U.calling g mk a) := mw_K.warm (s := U) (State.WarmedH.refl U) h
/-- what a method knows of cells that nobody writes -/
def mw_Z (G : mw_G) (A : Nat → Prop) (U : State) (H : Heap) : Prop :=
  va_Z "java/util/ArrayList" "DEFAULTCAPACITY_EMPTY_ELEMENTDATA" "[Ljava/lang/Object;" (.ref G.2.2) A U H ∧ (G.2.2 < H.size ∧ ¬ A G.2.2 ∧ va_at G.1 vwCl (G.2.2, .inl (G.2.1 2, 0, .inr (.inr (.inr (.inr (fun _ => none)))))) H) ∧
  vx_Zq Bundle.tN "UNASSIGNED_STACK" Bundle.steD A U H ∧ vx_Zq Bundle.tN "SUPPRESSED_SENTINEL" Bundle.listD A U H
theorem mw_Z.moved {G : mw_G} {A : Nat → Prop} {u U : State} {H : Heap} (hvm : u.vm.Alike U.vm) (h : mw_Z G A u H) : mw_Z G A U H := ⟨h.1.moved hvm, h.2.1, h.2.2.1.moved hvm, h.2.2.2.moved hvm⟩
theorem mw_Z.kept {G : mw_G} {A : Nat → Prop} {U : State} {H H1 : Heap} (h : mw_Z G A U H) (hz : H.size ≤ H1.size) (hq : ∀ a : Nat, a < H.size → ¬ A a → H1[a]? = H[a]?) : mw_Z G A U H1 :=
  ⟨h.1.kept hq, ⟨Nat.lt_of_lt_of_le h.2.1.1 hz, h.2.1.2.1, h.2.1.2.2.kept (hq _ h.2.1.1 h.2.1.2.1)⟩, h.2.2.1.kept hq, h.2.2.2.kept hq⟩
theorem mw_Z.narrow {G : mw_G} {A B : Nat → Prop} {U : State} {H : Heap} (h : mw_Z G A U H) (hAB : ∀ q, B q → A q) : mw_Z G B U H :=
  ⟨h.1.narrow hAB, ⟨h.2.1.1, fun z => h.2.1.2.1 (hAB _ z), h.2.1.2.2⟩, h.2.2.1.narrow hAB, h.2.2.2.narrow hAB⟩
theorem mw_Z.narrowH {G : mw_G} {A B : Nat → Prop} {U : State} {H : Heap} (h : mw_Z G A U H) (hAB : ∀ q, q < H.size → B q → A q) : mw_Z G B U H := by
  have hZ : ∀ {C n d : String} {v : Value}, va_Z C n d v A U H → va_Z C n d v B U H := fun h => by
    obtain ⟨cf, kf, fi, f, a, cell, h1, h2, h3, h4, h5, h6, h7, h8⟩ := h
    exact ⟨cf, kf, fi, f, a, cell, h1, h2, h3, h4, h5, h6, h7, fun z => h8 (hAB a (Array.getElem?_eq_some_iff.mp h5).1 z)⟩
  have hL : ∀ {C n d : String}, vx_L C n d A U H → vx_L C n d B U H := fun h => by
    obtain ⟨c, k, i, f, a, cell, h1, h2, h3, h4, h5, h6, h7, h8, h9, h10⟩ := h
    exact ⟨c, k, i, f, a, cell, h1, h2, h3, h4, h5, h6, h7, h8, h9, fun z => h10 (hAB a (Array.getElem?_eq_some_iff.mp h5).1 z)⟩
  have hQ : ∀ {C n d : String}, vx_Zq C n d A U H → vx_Zq C n d B U H := fun h => ⟨h.1.elim (fun h => Or.inl (hZ h)) (fun ⟨t, h⟩ => Or.inr ⟨t, hZ h⟩), hL h.2⟩
  exact ⟨hZ h.1, ⟨h.2.1.1, fun z => h.2.1.2.1 (hAB _ h.2.1.1 z), h.2.1.2.2⟩, hQ h.2.2.1, hQ h.2.2.2⟩
/-- the cells that a method may write: those of its map, and new ones -/
def mw_A (M : mw_M) (sz : Nat) : Nat → Prop := fun q => M q ≠ none ∨ sz ≤ q
def mw_P (G : mw_G) (M : mw_M) (H : Heap) : Prop := ∀ (a : Nat) (e : va_E), M a = some e → va_at G.1 vwCl (a, e) H
theorem mw_P.lt {G : mw_G} {M : mw_M} {H : Heap} (h : mw_P G M H) {a : Nat} {e : va_E} (hM : M a = some e) : a < H.size := (h a e hM).lt
theorem mw_P.kept {G : mw_G} {M : mw_M} {H H1 : Heap} (h : mw_P G M H) (hq : ∀ a : Nat, M a ≠ none → H1[a]? = H[a]?) : mw_P G M H1 := fun a e hM => (h a e hM).kept (hq a (by rw [hM]; exact fun z => by cases z))
/-- where a method stands: its map holds in the heap, the map is its own, nothing else has changed -/
def mw_T (G : mw_G) (A : Nat → Prop) (s : State) (M : mw_M) (H : Heap) (locs : List Loc) : Prop := mw_P G M H ∧ (∀ a : Nat, M a ≠ none → A a) ∧ va_S A s.heap H locs
theorem mw_T.set {G : mw_G} {A : Nat → Prop} {s : State} {M : mw_M} {H H1 : Heap} {locs : List Loc} {a k : Nat} {e0 e : va_E} (h : mw_T G A s M H locs) (hM : M a = some e0) (he : va_at G.1 vwCl (a, e) H1) (z : H1.size = H.size) (oq : ∀ q : Nat, q ≠ a → H1[q]? = H[q]?) : mw_T G A s (va_up M a (some e)) H1 (locs ++ [⟨a, k⟩]) := by
  have hA : A a := h.2.1 a (by rw [hM]; exact fun z => by cases z)
  refine ⟨fun b e1 hb => ?_, fun b hb => ?_, h.2.2.put z oq hA⟩
  · by_cases hba : b = a
    · subst hba
      rw [va_up_self] at hb
      cases hb
      exact he
    · rw [va_up_ne _ _ hba] at hb
      exact (h.1 b e1 hb).kept (oq b hba)
  · by_cases hba : b = a
    · rw [hba]; exact hA
    · rw [va_up_ne _ _ hba] at hb
      exact h.2.1 b hb
theorem mw_T.push {G : mw_G} {A : Nat → Prop} {s : State} {M : mw_M} {H H1 : Heap} {locs : List Loc} {e : va_E} (h : mw_T G A s M H locs) (hA : ∀ q, s.heap.size ≤ q → A q) (he : va_at G.1 vwCl (H.size, e) H1) (z : H1.size = H.size + 1) (oq : ∀ q : Nat, q < H.size → H1[q]? = H[q]?) : M H.size = none ∧ mw_T G A s (va_up M H.size (some e)) H1 locs := by
  have hn : M H.size = none := by
    cases hM : M H.size with
    | none => rfl
    | some e1 => exact absurd (h.1.lt hM) (Nat.lt_irrefl _)
  refine ⟨hn, fun b e1 hb => ?_, fun b hb => ?_, ⟨Nat.le_trans h.2.2.1 (by omega), fun q h1 h2 => (oq q (Nat.lt_of_lt_of_le h1 h.2.2.1)).trans (h.2.2.2.1 q h1 h2), h.2.2.2.2⟩⟩
  · by_cases hba : b = H.size
    · subst hba
      rw [va_up_self] at hb
      cases hb
      exact he
    · rw [va_up_ne _ _ hba] at hb
      exact (h.1 b e1 hb).kept (oq b (h.1.lt hb))
  · by_cases hba : b = H.size
    · rw [hba]; exact hA _ h.2.2.1
    · rw [va_up_ne _ _ hba] at hb
      exact h.2.1 b hb
theorem mw_ne {M : mw_M} {a b : Nat} {e f : va_E} (ha : M a = some e) (hb : M b = some f) (h : e ≠ f) : a ≠ b := fun q => h (Option.some.inj ((q ▸ ha).symm.trans hb))
theorem mw_old {M : mw_M} {a b : Nat} {e : va_E} (ha : M a = some e) (hb : M b = none) : a ≠ b := fun q => by rw [q, hb] at ha; cases ha
end
section
/-- the written texts of the class -/
def mw_S : List (String × Nat × String) := [("AccessGate", 47, "team is out of range"), ("AccessGate", 58, "there are no more people than 12"), ("AccessGate", 74, "there are no more machines than 8"), ("AccessGate", 108, "minutes is out of range"), ("AccessGate", 136, "the person has approved it"), ("AccessGate", 171, "somebody has looked at the entry"), ("AccessGate", 177, "the person is of the team of the one who entered"), ("AccessGate", 188, "time is out of range"), ("AccessGate", 194, "no right of the person for the machine holds"), ("AccessGate", 203, "kind is out of range"), ("AccessGate", 213, "the session holds a line"), ("AccessGate", 226, "the session holds no line"), ("AccessGate", 232, "the person cannot let the line through"), ("AccessGate", 240, "the clock would be above 100000"), ("AccessGate", 257, "no such person"), ("AccessGate", 260, "no such machine"), ("AccessGate", 262, "no such ask"), ("AccessGate", 264, "no such entry"), ("AccessGate", 266, "no such session"), ("AccessGate", 268, "no such step"), ("AccessGate", 270, "label is out of range"), ("AccessGate", 272, "the object has been used for more than 512 calls"), ("AccessGate", 274, "the session is closed"), ("AccessGate", 280, "the person does not have the label of the machine"), ("AccessGate", 282, "the person has an overdue entry"), ("AccessGate", 284, "the ask does not wait"), ("AccessGate", 286, "the person cannot approve the ask")]

def mw_FL (own : String) (index ci k : Nat) : Prop := ∃ (C : String) (T : u_T) (N : Nat) (ref : String), vwCl[ci]? = some (C, T, N) ∧ k < N ∧ (∀ w ∈ u_ws C T N, w ∈ lw_tbl) ∧ (∀ (U : State) (A : Array Value), mw_W U → (Cond.fieldLink own index ref (T k).2.1 (T k).2.2.1).before A U = true ∨ ∃ host : String, (Cond.fieldLinkNest own index ref (T k).2.1 (T k).2.2.1 host).before A U = true) ∧ (∀ (U : State) (x : ClassId × Class × Nat × Field), mw_W U → U.fieldFound? (T k).1 (T k).2.1 (T k).2.2.1 = some x → U.fieldFound? ref (T k).2.1 (T k).2.2.1 = some x)
def mw_FP (own : String) (index ci k : Nat) (ty : FieldType) (fin : Bool) : Prop := ∃ (C : String) (T : u_T) (N : Nat) (ref : String) (ty0 : Nat → FieldType), vwCl[ci]? = some (C, T, N) ∧ k < N ∧ (∀ w ∈ u_ws C T N, w ∈ lw_tbl) ∧ (∀ (U : State) (A : Array Value), mw_W U → (Cond.fieldLink own index ref (T k).2.1 (T k).2.2.1).before A U = true ∨ (fin = false ∧ ∃ host : String, (Cond.fieldLinkNest own index ref (T k).2.1 (T k).2.2.1 host).before A U = true)) ∧ (∀ (U : State) (x : ClassId × Class × Nat × Field), mw_W U → U.fieldFound? (T k).1 (T k).2.1 (T k).2.2.1 = some x → U.fieldFound? ref (T k).2.1 (T k).2.2.1 = some x) ∧
  (∀ j, j < N → parseFieldDescriptor (T j).2.2.1 = some (ty0 j)) ∧ (∀ a, a < N → ∀ b, b < N → a ≠ b → (T a).2.1 ≠ (T b).2.1) ∧ parseFieldDescriptor (T k).2.2.1 = some ty ∧ (T k).2.2.2 = fin ∧ (fin = true → (T k).1 = own)
/-- what holds all through a method's body -/
def mw_B (p : Program) (l : Launch) (s : State) (m : MethodId) (meth : Method) (c : Code) (cc : ByteArray) (maxL : Nat) (own : String) (G : mw_G) (A : Nat → Prop) : Prop :=
  p.tables.exec = Jvm.exec ∧ c.code = cc ∧ c.maxLocals = maxL ∧ s.vm.findClass own = some m.cls ∧ mw_K mw_S G s ∧ mw_Z G A s s.heap ∧ (∀ q : Nat, s.heap.size ≤ q → A q) ∧ meth.locks = false ∧ l.stackTraces = false
theorem mw_tbl {s : State} {args : Array Value} (h : mw_W s) {ws : List Cond} (hin : ∀ w ∈ ws, w ∈ lw_tbl) (hg : ws.all mw_ok = true) : ∀ w ∈ ws, w.before args s = true := fun w hw => mw_use h (hin w hw) (List.all_eq_true.mp hg w hw)
section MR
variable {p : Program} {l : Launch} {e : Env} {R : Room} {s : State} {m : MethodId} {args : Array Value} {below : List Frame} {meth : Method} {c : Code} {H : Heap} {locs : List Loc} {cells slots : Nat} {Q : State → Prop}
variable {cc : ByteArray} {pc maxL : Nat} {own : String} {ls : Array Slot} {rest : List Value} {A : Nat → Prop} {a : Nat} {G : mw_G} {M : mw_M}
theorem u_ws_ok {C : String} {T : u_T} {N : Nat} : ∀ w ∈ u_ws C T N, mw_ok w = true := by
  intro w hw
  have h1 := hw
  unfold u_ws at h1
  simp only [List.mem_append, List.mem_map, List.mem_range, List.mem_cons, List.mem_singleton, List.not_mem_nil, or_false] at h1
  first
    | (rcases h1 with ⟨k, -, rfl⟩ | rfl <;> first | rfl | (unfold u_lay; split <;> rfl))
    | (rcases h1 with ⟨k, -, rfl⟩ <;> first | rfl | (unfold u_lay; split <;> rfl))
theorem mr_uws (X : mw_B p l s m meth c cc maxL own G A) {C : String} {T : u_T} {N : Nat} (hin : ∀ w ∈ u_ws C T N, w ∈ lw_tbl) : ∀ w ∈ u_ws C T N, w.before args s = true := fun w hw => mw_use X.2.2.2.2.1.1 (hin w hw) (u_ws_ok w hw)
/-- getfield -/
theorem mr_get (X : mw_B p l s m meth c cc maxL own G A) (hT : mw_T G A s M H locs) {index ci k : Nat} (hF : mw_FL own index ci k) {fs : List Value} (he : M a = some (.inr (ci, fs))) {v : Value} (hv : fs[k]? = some v) (hdg : decode cc pc = .ok (.getfield index, 3))
    (kk : W p l e R s m args below meth c H locs cells slots Q (F0 m (pc + 3) ls (v :: rest))) : W p l e R s m args below meth c H locs cells slots Q (F0 m pc ls (.ref a :: rest)) := by
  obtain ⟨C, T, N, ref, hc, hk, hin, hlink, hsame⟩ := hF
  have hW := X.2.2.2.2.1.1
  have hP : va_P G.1 vwCl [(a, .inr (ci, fs))] H := fun j q hj => by
    have hz : j < 1 := (List.getElem?_eq_some_iff.mp hj).1
    rw [show j = 0 by omega] at hj
    cases hj
    exact hT.1 _ _ he
  rcases hlink s args hW with hl | ⟨host, hl⟩
  · exact va_get (D := G.1) (ci := ci) (v := v) (C := C) (T := T) (N := N) X.1 X.2.1 (Ts := u_ws C T N) (mr_uws X hin) (fun _ h => h) X.2.2.2.1 X.2.2.2.2.1.2.1 hP 0 rfl hc k hk hl (fun x hx => hsame s x hW hx) hv hdg kk
  · exact va_getN (D := G.1) (ci := ci) (v := v) (C := C) (T := T) (N := N) X.1 X.2.1 (Ts := u_ws C T N) (mr_uws X hin) (fun _ h => h) X.2.2.2.1 X.2.2.2.2.1.2.1 hP 0 rfl hc k hk hl (fun x hx => hsame s x hW hx) hv hdg kk
/-- putfield -/
theorem mr_put (X : mw_B p l s m meth c cc maxL own G A) (hT : mw_T G A s M H locs) {index ci k : Nat} {ty : FieldType} {fin : Bool} (hF : mw_FP own index ci k ty fin) (hin2 : fin = true → meth.name = "<init>") {fs : List Value} (he : M a = some (.inr (ci, fs))) {v : Value} (hn : narrow ty v = v) (hfit : fits ty v = true) (hlen : k < fs.length) (hdg : decode cc pc = .ok (.putfield index, 3))
    (kk : ∀ (H1 : Heap) (locs1 : List Loc), mw_T G A s (va_up M a (some (.inr (ci, fs.set k v)))) H1 locs1 → W p l e R s m args below meth c H1 locs1 cells slots Q (F0 m (pc + 3) ls rest)) : W p l e R s m args below meth c H locs cells slots Q (F0 m pc ls (v :: .ref a :: rest)) := by
  obtain ⟨C, T, N, ref, ty0, hc, hk, hin, hlink, hsame, hty, hnm, hd, hfin, hdecl⟩ := hF
  have hW := X.2.2.2.2.1.1
  have hK := X.2.2.2.2.1.2.1
  have hts := mr_uws (args := args) X hin
  have hap := va_apart (own := own) hts (fun _ h => h) ty0 hty hnm hK hc
  obtain ⟨r, h1, cell, q1, q2, q3, q4⟩ := hT.1 _ _ he
  have hr : r = (C, T, N) := Option.some.inj (h1.symm.trans hc)
  subst hr
  obtain ⟨hS, hfc, kC, hkC, hkind⟩ := hK.1 ci _ hc
  obtain ⟨cf, kf, fi, f, hi, hsl⟩ := hS k hk
  have hlay := hts _ (u_in_lay hk)
  have hst := (u_facts hfc hkC (u_lays hts (fun _ h => h) hk) hi).1
  cases fin with
  | false =>
    unfold u_lay at hlay
    rw [if_neg (by rw [hfin]; decide)] at hlay
    have h6 := u_store hfc hkC hkind hlay hi hd hn hfit
    rcases hlink s args hW with hl | ⟨-, host, hl⟩
    · refine W.putK X.1 X.2.1 (f := f) ⟨X.2.2.2.1, hl, ⟨_, _, _, hsame s _ hW hi⟩, hst⟩ (by rw [q2]; exact h6) q1 q3 (by rw [hsl]; exact k2_hasslot (q4 k hk)) rfl rfl hdg fun H' e1 e2 e3 => ?_
      rw [hsl] at e1 ⊢
      exact kk H' _ (hT.set he ⟨_, hc, t_OB.to (V := updV (vp_V fs) k v) ⟨_, e1, q2, q3, t_set q4 hap hk v⟩ (fun j _ => vp_updV_set hlen v j)⟩ e2 e3)
    · refine va_WputK X.1 X.2.1 (f := f) X.2.2.2.1 hl (hsame s _ hW hi) hst (by rw [q2]; exact h6) q1 q3 (by rw [hsl]; exact k2_hasslot (q4 k hk)) rfl rfl hdg fun H' e1 e2 e3 => ?_
      rw [hsl] at e1 ⊢
      exact kk H' _ (hT.set he ⟨_, hc, t_OB.to (V := updV (vp_V fs) k v) ⟨_, e1, q2, q3, t_set q4 hap hk v⟩ (fun j _ => vp_updV_set hlen v j)⟩ e2 e3)
  | true =>
    unfold u_lay at hlay
    rw [if_pos hfin] at hlay
    have hcf : m.cls = cf := by
      obtain ⟨_, _, c', _, _, _, -, -, hf', -, -, -, hown2, -⟩ := Cond.laysFinal_spec hlay
      have e1 : c' = cf := by have := hi.symm.trans hf'; simp at this; exact this.1.symm
      rw [hdecl rfl] at hown2
      rw [← e1]; exact Option.some.inj (X.2.2.2.1.symm.trans hown2)
    have h6 := u_fits hfc hkC hkind (Or.inr hlay) hi hd hn hfit
    rcases hlink s args hW with hl | ⟨hno, -⟩
    · refine W.putFinK X.1 X.2.1 X.2.2.2.1 hl (hsame s _ hW hi) hst hcf (hin2 rfl) (by rw [q2]; exact h6) q1 q3 (by rw [hsl]; exact k2_hasslot (q4 k hk)) rfl rfl hdg fun H' e1 e2 e3 => ?_
      rw [hsl] at e1 ⊢
      exact kk H' _ (hT.set he ⟨_, hc, t_OB.to (V := updV (vp_V fs) k v) ⟨_, e1, q2, q3, t_set q4 hap hk v⟩ (fun j _ => vp_updV_set hlen v j)⟩ e2 e3)
    · cases hno
theorem mr_one (hT : mw_T G A s M H locs) {e0 : va_E} (he : M a = some e0) : va_P G.1 vwCl [(a, e0)] H := fun j q hj => by
  have hz : j < 1 := (List.getElem?_eq_some_iff.mp hj).1
  rw [show j = 0 by omega] at hj
  cases hj
  exact hT.1 _ _ he
/-- arrays of ints: a read, a write -/
theorem mr_iald (X : mw_B p l s m meth c cc maxL own G A) (hT : mw_T G A s M H locs) {n : Nat} {f : Nat → Int32} (he : M a = some (.inl (G.2.1 0, n, .inl f))) {i : Int32} (hin : vp_in i n) (hdg : decode cc pc = .ok (.iaload, 1))
    (kk : W p l e R s m args below meth c H locs cells slots Q (F0 m (pc + 1) ls (.int (f i.toNatClampNeg) :: rest))) : W p l e R s m args below meth c H locs cells slots Q (F0 m pc ls (.int i :: .ref a :: rest)) :=
  va_iald X.1 X.2.1 X.2.2.2.2.1.2.1 (mr_one hT he) 0 0 rfl rfl hin hdg kk
theorem mr_zald (X : mw_B p l s m meth c cc maxL own G A) (hT : mw_T G A s M H locs) {n : Nat} {f : Nat → Int32} (he : M a = some (.inl (G.2.1 1, n, .inl f))) {i : Int32} (hin : vp_in i n) (hdg : decode cc pc = .ok (.baload, 1))
    (kk : W p l e R s m args below meth c H locs cells slots Q (F0 m (pc + 1) ls (.int (f i.toNatClampNeg) :: rest))) : W p l e R s m args below meth c H locs cells slots Q (F0 m pc ls (.int i :: .ref a :: rest)) :=
  va_zald X.1 X.2.1 X.2.2.2.2.1.2.1 (mr_one hT he) 0 1 rfl rfl hin hdg kk
theorem mr_lald (X : mw_B p l s m meth c cc maxL own G A) (hT : mw_T G A s M H locs) {n : Nat} {f : Nat → Int64} (he : M a = some (.inl (G.2.1 3, n, .inr (.inl f)))) {i : Int32} (hin : vp_in i n) (hdg : decode cc pc = .ok (.laload, 1))
    (kk : W p l e R s m args below meth c H locs cells slots Q (F0 m (pc + 1) ls (.long (f i.toNatClampNeg) :: rest))) : W p l e R s m args below meth c H locs cells slots Q (F0 m pc ls (.int i :: .ref a :: rest)) :=
  va_lald X.1 X.2.1 X.2.2.2.2.1.2.1 (mr_one hT he) 0 3 rfl rfl hin hdg kk
theorem mr_aald (X : mw_B p l s m meth c cc maxL own G A) (hT : mw_T G A s M H locs) {n : Nat} {f : Nat → Option Nat} (he : M a = some (.inl (G.2.1 2, n, .inr (.inr (.inr (.inr f)))))) {i : Int32} (hin : vp_in i n) (hdg : decode cc pc = .ok (.aaload, 1))
    (kk : W p l e R s m args below meth c H locs cells slots Q (F0 m (pc + 1) ls (va_rf (f i.toNatClampNeg) :: rest))) : W p l e R s m args below meth c H locs cells slots Q (F0 m pc ls (.int i :: .ref a :: rest)) :=
  va_aldq X.1 X.2.1 X.2.2.2.2.1.2.1 (mr_one hT he) 0 2 rfl rfl hin hdg kk
theorem mr_alen (X : mw_B p l s m meth c cc maxL own G A) (hT : mw_T G A s M H locs) {k n : Nat} {x : (Nat → Int32) ⊕ (Nat → Int64) ⊕ (Nat → UInt32) ⊕ (Nat → UInt64) ⊕ (Nat → Option Nat)} (he : M a = some (.inl (G.2.1 k, n, x))) (hk : k < 4) (hdg : decode cc pc = .ok (.arraylength, 1))
    (kk : W p l e R s m args below meth c H locs cells slots Q (F0 m (pc + 1) ls (.int (nI n) :: rest))) : W p l e R s m args below meth c H locs cells slots Q (F0 m pc ls (.ref a :: rest)) := by
  obtain ⟨ty, hty⟩ : ∃ ty : FieldType, (mw_tys G)[k]? = some (G.2.1 k, ty) := by
    rcases (show k = 0 ∨ k = 1 ∨ k = 2 ∨ k = 3 by omega) with rfl | rfl | rfl | rfl <;> exact ⟨_, rfl⟩
  exact va_alen X.1 X.2.1 X.2.2.2.2.1.2.1 (mr_one hT he) 0 k rfl hty rfl hdg kk
theorem mr_alen0 (X : mw_B p l s m meth c cc maxL own G A) (hT : mw_T G A s M H locs) (hdg : decode cc pc = .ok (.arraylength, 1))
    (kk : W p l e R s m args below meth c H locs cells slots Q (F0 m (pc + 1) ls (.int (nI 0) :: rest))) : W p l e R s m args below meth c H locs cells slots Q (F0 m pc ls (.ref G.2.2 :: rest)) := by
  obtain ⟨hzl, hzA, hzv⟩ := X.2.2.2.2.2.1.2.1
  have hP : va_P G.1 vwCl [(G.2.2, .inl (G.2.1 2, 0, .inr (.inr (.inr (.inr (fun _ => none))))))] H := fun j q hj => by
    have hz : j < 1 := (List.getElem?_eq_some_iff.mp hj).1
    rw [show j = 0 by omega] at hj
    cases hj
    exact hzv.kept (hT.2.2.2.1 _ hzl hzA)
  exact va_alen X.1 X.2.1 X.2.2.2.2.1.2.1 hP 0 2 rfl rfl rfl hdg kk

theorem mr_iast (X : mw_B p l s m meth c cc maxL own G A) (hT : mw_T G A s M H locs) {n : Nat} {f : Nat → Int32} (he : M a = some (.inl (G.2.1 0, n, .inl f))) {i : Int32} {x : Int32} (hin : vp_in i n) (hdg : decode cc pc = .ok (.iastore, 1))
    (kk : ∀ (H1 : Heap) (locs1 : List Loc), mw_T G A s (va_up M a (some (.inl (G.2.1 0, n, .inl (upd f i.toNatClampNeg x))))) H1 locs1 → W p l e R s m args below meth c H1 locs1 cells slots Q (F0 m (pc + 1) ls rest)) : W p l e R s m args below meth c H locs cells slots Q (F0 m pc ls (.int x :: .int i :: .ref a :: rest)) := by
  refine W.iast X.1 X.2.1 (hT.1 _ _ he) ((X.2.2.2.2.1.2.1.2 0 _ rfl).1 n (fun j => .int (f j))) (fun q => by cases q) (by show ¬ (i < 0 ∨ (arrV _ _ _).slots.size ≤ _); rw [arrV_size]; exact hin) rfl rfl hdg fun H1 e z oq => ?_
  refine kk H1 _ (hT.set he ?_ z oq)
  show H1[a]? = some (vp_cell _ _)
  rw [e]
  rw [vp_cell_i, vp_cell_i, arrV_store]
  congr 2
  funext q
  by_cases hq : q = i.toNatClampNeg
  · subst hq
    (first | (simp [updV, upd]; done) | (simp [updV, upd, vp_nar]; try rfl))
  · simp [updV, upd, hq]
theorem mr_zast (X : mw_B p l s m meth c cc maxL own G A) (hT : mw_T G A s M H locs) {n : Nat} {f : Nat → Int32} (he : M a = some (.inl (G.2.1 1, n, .inl f))) {i : Int32} {x : Int32} (hin : vp_in i n) (hdg : decode cc pc = .ok (.bastore, 1))
    (kk : ∀ (H1 : Heap) (locs1 : List Loc), mw_T G A s (va_up M a (some (.inl (G.2.1 1, n, .inl (upd f i.toNatClampNeg (vp_nar .boolean x)))))) H1 locs1 → W p l e R s m args below meth c H1 locs1 cells slots Q (F0 m (pc + 1) ls rest)) : W p l e R s m args below meth c H locs cells slots Q (F0 m pc ls (.int x :: .int i :: .ref a :: rest)) := by
  refine W.zast X.1 X.2.1 (hT.1 _ _ he) ((X.2.2.2.2.1.2.1.2 1 _ rfl).1 n (fun j => .int (f j))) (fun q => by cases q) (by show ¬ (i < 0 ∨ (arrV _ _ _).slots.size ≤ _); rw [arrV_size]; exact hin) rfl rfl hdg fun H1 e z oq => ?_
  refine kk H1 _ (hT.set he ?_ z oq)
  show H1[a]? = some (vp_cell _ _)
  rw [e]
  rw [vp_cell_i, vp_cell_i, arrV_store]
  congr 2
  funext q
  by_cases hq : q = i.toNatClampNeg
  · subst hq
    (first | (simp [updV, upd]; done) | (simp [updV, upd, vp_nar]; try rfl))
  · simp [updV, upd, hq]
theorem mr_last (X : mw_B p l s m meth c cc maxL own G A) (hT : mw_T G A s M H locs) {n : Nat} {f : Nat → Int64} (he : M a = some (.inl (G.2.1 3, n, .inr (.inl f)))) {i : Int32} {x : Int64} (hin : vp_in i n) (hdg : decode cc pc = .ok (.lastore, 1))
    (kk : ∀ (H1 : Heap) (locs1 : List Loc), mw_T G A s (va_up M a (some (.inl (G.2.1 3, n, .inr (.inl (vp_updL f i.toNatClampNeg x)))))) H1 locs1 → W p l e R s m args below meth c H1 locs1 cells slots Q (F0 m (pc + 1) ls rest)) : W p l e R s m args below meth c H locs cells slots Q (F0 m pc ls (.long x :: .int i :: .ref a :: rest)) := by
  refine W.last X.1 X.2.1 (hT.1 _ _ he) ((X.2.2.2.2.1.2.1.2 3 _ rfl).1 n (fun j => .long (f j))) (fun q => by cases q) (by show ¬ (i < 0 ∨ (arrV _ _ _).slots.size ≤ _); rw [arrV_size]; exact hin) rfl rfl hdg fun H1 e z oq => ?_
  refine kk H1 _ (hT.set he ?_ z oq)
  show H1[a]? = some (vp_cell _ _)
  rw [e]
  rw [vp_cell_l, vp_cell_l, arrV_store]
  congr 2
  funext q
  by_cases hq : q = i.toNatClampNeg
  · subst hq
    simp [updV, vp_updL]
  · simp [updV, vp_updL, hq]
/-- an object into an array of objects -/
theorem mr_aast (X : mw_B p l s m meth c cc maxL own G A) (hT : mw_T G A s M H locs) {n v ci : Nat} {vs : List Value} {f : Nat → Option Nat} (he : M a = some (.inl (G.2.1 2, n, .inr (.inr (.inr (.inr f)))))) {C : String} {T : u_T} {N : Nat} (hc : vwCl[ci]? = some (C, T, N)) (hca : Cond.castable C "java/lang/Object" ∈ lw_tbl) (hv : M v = some (.inr (ci, vs))) {i : Int32} (hin : vp_in i n) (hdg : decode cc pc = .ok (.aastore, 1))
    (kk : ∀ (H1 : Heap) (locs1 : List Loc), mw_T G A s (va_up M a (some (.inl (G.2.1 2, n, .inr (.inr (.inr (.inr (va_up f i.toNatClampNeg (some v))))))))) H1 locs1 → W p l e R s m args below meth c H1 locs1 cells slots Q (F0 m (pc + 1) ls rest)) : W p l e R s m args below meth c H locs cells slots Q (F0 m pc ls (.ref v :: .int i :: .ref a :: rest)) := by
  have hlt : i.toNatClampNeg < n := Nat.not_le.mp fun q => hin (Or.inr q)
  have h0 : ¬ i < 0 := fun q => hin (Or.inl q)
  have hK := X.2.2.2.2.1.2.1
  obtain ⟨r', hr', cellV, g1, g2, g3, -⟩ := hT.1 _ _ hv
  have hcls := (hK.1 ci _ hc).2
  obtain ⟨kA, comp, k1, k2, k3, -⟩ := (hK.2 2 _ rfl).2
  obtain ⟨kE, hkE, -⟩ := Vm.findClass_spec k3
  obtain ⟨c0, t1, f1, f2, f3⟩ := Cond.castable_spec (mw_use (A := args) X.2.2.2.2.1.1 hca rfl)
  cases hcls.1.symm.trans f1
  cases k3.symm.trans f2
  obtain ⟨kC, hkC, -⟩ := hcls.2
  refine W.aast X.1 X.2.1 (hT.1 _ _ he) (fun q h => by cases h) (fun h => by cases h) k1 k2 rfl hkE ⟨h0, by show _ < (arrV _ _ _).slots.size; rw [arrV_size]; exact hlt⟩ g1 (fun q h => by rw [g3] at h; cases h) (by rw [g2]; exact hkC) (by rw [g2]; exact f3) rfl rfl hdg fun H1 e z oq => ?_
  refine kk H1 _ (hT.set he ?_ z oq)
  show H1[a]? = some (vp_cell _ _)
  rw [e]
  rw [vp_cell_q, vp_cell_q, arrV_store]
  congr 2
  funext q
  by_cases hq : q = i.toNatClampNeg
  · subst hq
    simp [updV, va_up, va_rf]
  · simp [updV, va_up, hq]
/-- new objects and arrays -/
theorem mr_new (X : mw_B p l s m meth c cc maxL own G A) (hT : mw_T G A s M H locs) {C : String} {T : u_T} {N ci index : Nat} (hc : vwCl[ci]? = some (C, T, N)) (hin : ∀ w ∈ u_ws C T N, w ∈ lw_tbl) (ty : Nat → FieldType) (hty : ∀ k, k < N → parseFieldDescriptor (T k).2.2.1 = some (ty k)) (hcl : Cond.classLink own index C ∈ lw_tbl) (hinst : Cond.instantiable C N ∈ lw_tbl) (hini : Cond.initialized C ∈ lw_tbl)
    {fs : List Value} (hfs : ∀ j, j < N → defaultValue (ty j) = vp_V fs j) (hcells : cells + 1 ≤ R.cells) (hslots : slots + N ≤ R.slots) (hdg : decode cc pc = .ok (.new index, 3))
    (kk : ∀ (q : Nat) (H1 : Heap), M q = none → mw_T G A s (va_up M q (some (.inr (ci, fs)))) H1 locs → W p l e R s m args below meth c H1 locs (cells + 1) (slots + N) Q (F0 m (pc + 3) ls (.ref q :: rest))) : W p l e R s m args below meth c H locs cells slots Q (F0 m pc ls rest) := by
  have hW := X.2.2.2.2.1.1
  have hKn := X.2.2.2.2.1.2.1.1 ci _ hc
  refine W.newcK X.1 X.2.1 X.2.2.2.1 (mw_use hW hcl rfl) (mw_use hW hinst rfl) (mw_use hW hini rfl) rfl hdg hcells hslots hKn.2.1 rfl fun H1 kC hkC e1 z1 o1 => ?_
  obtain ⟨hn, hT1⟩ := hT.push (e := .inr (ci, fs)) X.2.2.2.2.2.2.1 ⟨_, hc, (u_born (args := args) ty (mr_uws X hin) (fun _ h => h) hKn hkC e1 hty).to hfs⟩ z1 o1
  exact kk H.size H1 hn hT1
theorem mr_newa (X : mw_B p l s m meth c cc maxL own G A) (hT : mw_T G A s M H locs) {atype : ArrayType} {k : Nat} (hk : (mw_tys G)[k]? = some (G.2.1 k, newarray.typeOf atype)) (harr : Cond.arrayClass (newarray.typeOf atype) ∈ lw_tbl)
    {n : Int32} {N : Nat} {x : (Nat → Int32) ⊕ (Nat → Int64) ⊕ (Nat → UInt32) ⊕ (Nat → UInt64) ⊕ (Nat → Option Nat)} (ha : ∀ cA : ClassId, vp_cell cA (N, x) = arrV cA N (fun _ => defaultValue (newarray.typeOf atype))) (hn : ¬ n < 0) (hN : n.toNatClampNeg = N) (hbytes : N * componentBytes (newarray.typeOf atype) ≤ 536870912) (hcells : cells + 1 ≤ R.cells) (hslots : slots + N ≤ R.slots) (hdg : decode cc pc = .ok (.newarray atype, 2))
    (kk : ∀ (q : Nat) (H1 : Heap), M q = none → mw_T G A s (va_up M q (some (.inl (G.2.1 k, N, x)))) H1 locs → W p l e R s m args below meth c H1 locs (cells + 1) (slots + N) Q (F0 m (pc + 2) ls (.ref q :: rest))) : W p l e R s m args below meth c H locs cells slots Q (F0 m pc ls (.int n :: rest)) := by
  have hW := X.2.2.2.2.1.1
  refine va_newaK X.1 X.2.1 (mw_use hW harr rfl) rfl hdg rfl hn hN hbytes hcells hslots rfl fun H1 cA e1 z1 o1 hAr hNm => ?_
  have hRA := (X.2.2.2.2.1.2.1.2 k _ hk).2
  have hcA : cA = G.2.1 k := by
    have h2 : s.vm.findClass ("[" ++ (newarray.typeOf atype).toString) = some (G.2.1 k) := by
      cases atype <;> exact hRA
    exact Option.some.inj (hNm.symm.trans h2)
  subst hcA
  obtain ⟨hn, hT1⟩ := hT.push (e := .inl (G.2.1 k, N, x)) X.2.2.2.2.2.2.1 (by show H1[H.size]? = some (vp_cell _ _); rw [ha]; exact e1) z1 o1
  exact kk H.size H1 hn hT1
theorem mr_newq (X : mw_B p l s m meth c cc maxL own G A) (hT : mw_T G A s M H locs) {index : Nat} (hcl : Cond.classLink own index "java/lang/Object" ∈ lw_tbl)
    {n : Int32} {N : Nat} (hn : ¬ n < 0) (hN : n.toNatClampNeg = N) (hbytes : N * 4 ≤ 536870912) (hcells : cells + 1 ≤ R.cells) (hslots : slots + N ≤ R.slots) (hdg : decode cc pc = .ok (.anewarray index, 3))
    (kk : ∀ (q : Nat) (H1 : Heap), M q = none → mw_T G A s (va_up M q (some (.inl (G.2.1 2, N, .inr (.inr (.inr (.inr (fun _ => none)))))))) H1 locs → W p l e R s m args below meth c H1 locs (cells + 1) (slots + N) Q (F0 m (pc + 3) ls (.ref q :: rest))) : W p l e R s m args below meth c H locs cells slots Q (F0 m pc ls (.int n :: rest)) := by
  have hW := X.2.2.2.2.1.1
  subst hN
  refine W.anew X.1 X.2.1 X.2.2.2.1 (mw_use hW hcl rfl) (va_AO.use X.2.2.2.2.1.2.2.1) rfl hdg rfl hn hbytes hcells hslots fun cA kA comp f1 f2 f3 f4 => ?_
  generalize hH1 : H.push ({ cls := cA, slots := Array.replicate n.toNatClampNeg .null, vm := .none } : Cell) = H1
  have z1 : H1.size = H.size + 1 := by rw [← hH1, Array.size_push]
  have e1 : H1[H.size]? = some (arrV cA n.toNatClampNeg (fun _ => .null)) := by rw [← hH1, Array.getElem?_push_size, ← arrV_new]
  have o1 : ∀ q : Nat, q < H.size → H1[q]? = H[q]? := fun q hq => by rw [← hH1, Array.getElem?_push, if_neg (Nat.ne_of_lt hq)]
  obtain ⟨-, -, -, -, -, h4⟩ := (X.2.2.2.2.1.2.1.2 2 _ rfl).2
  have hcA : cA = G.2.1 2 := Option.some.inj (f1.symm.trans h4)
  subst hcA
  obtain ⟨hn, hT1⟩ := hT.push (e := .inl (G.2.1 2, n.toNatClampNeg, .inr (.inr (.inr (.inr (fun _ => none)))))) X.2.2.2.2.2.2.1 (by show H1[H.size]? = some (vp_cell _ _); rw [vp_cell_q]; exact e1) z1 o1
  exact kk H.size H1 hn hT1
theorem mr_cell (X : mw_B p l s m meth c cc maxL own G A) (hT : mw_T G A s M H locs) {ci : Nat} {fs : List Value} (he : M a = some (.inr (ci, fs))) {C : String} {T : u_T} {N : Nat} (hc : vwCl[ci]? = some (C, T, N)) : ∃ cell : Cell, H[a]? = some cell ∧ cell.vm.isStatics = false ∧ s.vm.findClass C = some cell.cls :=
  va_recv X.2.2.2.2.1.2.1 (mr_one hT he) hc (q0 := 0) rfl
theorem mr_cast (X : mw_B p l s m meth c cc maxL own G A) (hT : mw_T G A s M H locs) {ci index : Nat} {fs : List Value} (he : M a = some (.inr (ci, fs))) {C : String} {T : u_T} {N : Nat} (hc : vwCl[ci]? = some (C, T, N)) (hl : Cond.classLink own index C ∈ lw_tbl) (hdg : decode cc pc = .ok (.checkcast index, 3))
    (kk : W p l e R s m args below meth c H locs cells slots Q (F0 m (pc + 3) ls (.ref a :: rest))) : W p l e R s m args below meth c H locs cells slots Q (F0 m pc ls (.ref a :: rest)) :=
  va_castS X.1 X.2.1 X.2.2.2.1 (mw_use X.2.2.2.2.1.1 hl rfl) (X.2.2.2.2.1.2.1.1 ci _ hc).2 (mr_cell X hT he hc) hdg kk
/-- the empty array's static -/
theorem mr_gets (X : mw_B p l s m meth c cc maxL own G A) (hT : mw_T G A s M H locs) {index : Nat} (hl : Cond.fieldLink own index "java/util/ArrayList" "DEFAULTCAPACITY_EMPTY_ELEMENTDATA" "[Ljava/lang/Object;" ∈ lw_tbl) (hdg : decode cc pc = .ok (.getstatic index, 3))
    (kk : W p l e R s m args below meth c H locs cells slots Q (F0 m (pc + 3) ls (.ref G.2.2 :: rest))) : W p l e R s m args below meth c H locs cells slots Q (F0 m pc ls rest) :=
  va_gets X.1 X.2.1 X.2.2.2.2.2.1.1 hT.2.2 X.2.2.2.1 (mw_use X.2.2.2.2.1.1 hl rfl) (fun _ h => h) hdg kk
end MR
end
section
/-! CONTRACTS OVER MAPS, calls and ends. -/
def mw_Pre (G : mw_G) (av : List Value) (M : mw_M) (sz : Nat) : Array Value → State → Prop := va_Pc av (fun U => U.heap.size = sz ∧ mw_K mw_S G U ∧ mw_Z G (mw_A M sz) U U.heap ∧ mw_P G M U.heap)
def mw_Qr (G : mw_G) (M : mw_M) (sz : Nat) (post : Option Value → mw_M → Prop) : Array Value → State → Outcome → State → Prop := fun _ st oc t => ∃ (v : Option Value) (M1 : mw_M), oc = .returned v ∧ post v M1 ∧ mw_P G M1 t.heap ∧ (∀ a : Nat, M1 a ≠ none → mw_A M sz a) ∧ va_F (mw_A M sz) st t
def mw_Xr (G : mw_G) (M : mw_M) (sz : Nat) (px : String → Prop) : String → State → State → Prop := fun E st t => px E ∧ mw_P G M t.heap ∧ va_F (mw_A M sz) st t
/-- a method that returns -/
def mw_Met (l : Launch) (G : mw_G) (y : MethodName) (w : Cond) (rm : Room) (av : List Value) (M : mw_M) (post : Option Value → mw_M → Prop) : Prop := ∀ sz : Nat, Met l y [w] rm (mw_Pre G av M sz) (mw_Qr G M sz post) rm.cells rm.slots (mw_A M sz)
/-- a method that returns or throws; where it throws the map is as it was -/
def mw_MetX (l : Launch) (G : mw_G) (y : MethodName) (w : Cond) (rm : Room) (av : List Value) (M : mw_M) (post : Option Value → mw_M → Prop) (px : String → Prop) : Prop := ∀ sz : Nat, vx_Met l y [w] rm (mw_Pre G av M sz) (mw_Qr G M sz post) (mw_Xr G M sz px) rm.cells rm.slots (mw_A M sz)
abbrev mw_E (below : List Frame) (G : mw_G) (M : mw_M) (rm : Room) (post : Option Value → mw_M → Prop) (args : Array Value) (s : State) : State → Prop := MQ below (mw_Qr G M s.heap.size post) args s rm.cells rm.slots (mw_A M s.heap.size)
abbrev mw_EX (below : List Frame) (G : mw_G) (M : mw_M) (rm : Room) (post : Option Value → mw_M → Prop) (px : String → Prop) (args : Array Value) (s : State) : State → Prop := vx_MQ below (mw_Qr G M s.heap.size post) (mw_Xr G M s.heap.size px) args s rm.cells rm.slots (mw_A M s.heap.size)
/-- answers: nothing, an int, a cell -/
def mw_pv (P : mw_M → Prop) : Option Value → mw_M → Prop := fun v M1 => v = none ∧ P M1
def mw_pi (P : Int32 → mw_M → Prop) : Option Value → mw_M → Prop := fun v M1 => ∃ r : Int32, v = some (.int r) ∧ P r M1
def mw_pr (P : Nat → mw_M → Prop) : Option Value → mw_M → Prop := fun v M1 => ∃ q : Nat, v = some (.ref q) ∧ P q M1
theorem mw_Pre.blind {G : mw_G} {av : List Value} {M : mw_M} {sz : Nat} : FrameBlind (mw_Pre G av M sz) := by
  intro a U g mk ⟨h1, h2, h3, h4, h5⟩
  exact ⟨h1, h2, mw_K.calling h3, mw_Z.moved (u := U) (U := U.calling g mk a) (Vm.Alike.refl U.vm) h4, h5⟩
theorem mw_body {p : Program} {l : Launch} {e : Env} {s s₁ : State} {m : MethodId} {args : Array Value} {below : List Frame} {meth : Method} {c : Code} {G : mw_G} {y : MethodName} {S : Spec} {cc : ByteArray} {maxL : Nat} {ret : Option FieldType} {av : List Value} {M : mw_M} (hfl : l.stackTraces = false) (B : BodyLoose p l y S cc maxL ret e s m args below meth c s₁) (hml : c.maxLocals = maxL) (hv : mw_Pre G av M s.heap.size args s) :
    args = av.toArray ∧ mw_B p l s m meth c cc maxL y.cls G (mw_A M s.heap.size) ∧ meth.name = y.name ∧ meth.sig.returnType = ret ∧ mw_T G (mw_A M s.heap.size) s M s.heap [] := by
  obtain ⟨h1, h2, h3, h4, h5⟩ := hv
  exact ⟨h1, ⟨B.exec, B.bytes, hml, findClass_of_methodNamed B.named, h3, h4, fun q h => Or.inr h, B.notSynchronized, hfl⟩, (name_of_methodNamed B.named B.method).1, B.returns, h5, fun a h => Or.inl h, va_S.rf⟩
theorem mw_of {l : Launch} {G : mw_G} {y : MethodName} {cc : ByteArray} {maxL : Nat} {ret : Option FieldType} {rm : Room} {av : List Value} {M : mw_M} {post : Option Value → mw_M → Prop} (hfl : l.stackTraces = false) (hy : plainName y.cls = true) (hlen : (lg_sl av).length ≤ maxL)
    (body : ∀ (p : Program) (e : Env) (s : State) (m : MethodId) (below : List Frame) (meth : Method) (c : Code) (ls : Array Slot), mw_B p l s m meth c cc maxL y.cls G (mw_A M s.heap.size) → meth.name = y.name → meth.sig.returnType = ret → mw_T G (mw_A M s.heap.size) s M s.heap [] → lv_has ls maxL (lv_args 0 av) →
      W p l e rm s m av.toArray below meth c s.heap [] 0 0 (mw_E below G M rm post av.toArray s) (F0 m 0 ls [])) : mw_Met l G y (.code y cc maxL ret) rm av M post := by
  intro sz
  refine Met.ofW (cc := cc) (maxL := maxL) (ret := ret) hy rfl ?_
  intro p e s m args below meth c s₁ B hml hv
  have hsz : s.heap.size = sz := hv.2.1
  subst hsz
  obtain ⟨rfl, X, h1, h2, hT⟩ := mw_body hfl B hml hv
  have hl := lv_entry av (n := maxL) hlen
  rw [lg_entry_eq]
  exact body p e s m below meth c _ X h1 h2 hT hl
theorem mw_ofX {l : Launch} {G : mw_G} {y : MethodName} {cc : ByteArray} {maxL : Nat} {ret : Option FieldType} {rm : Room} {av : List Value} {M : mw_M} {post : Option Value → mw_M → Prop} {px : String → Prop} (hfl : l.stackTraces = false) (hy : plainName y.cls = true) (hlen : (lg_sl av).length ≤ maxL)
    (body : ∀ (p : Program) (e : Env) (s : State) (m : MethodId) (below : List Frame) (meth : Method) (c : Code) (ls : Array Slot), mw_B p l s m meth c cc maxL y.cls G (mw_A M s.heap.size) → meth.name = y.name → meth.sig.returnType = ret → (∀ x ∈ c.exceptionTable.toList, False) → mw_T G (mw_A M s.heap.size) s M s.heap [] → lv_has ls maxL (lv_args 0 av) →
      W p l e rm s m av.toArray below meth c s.heap [] 0 0 (mw_EX below G M rm post px av.toArray s) (F0 m 0 ls [])) : mw_MetX l G y (.code y cc maxL ret) rm av M post px := by
  intro sz
  refine vx_ofW (cc := cc) (maxL := maxL) (ret := ret) hy rfl ?_
  intro p e s m args below meth c s₁ B hml hexc hv
  have hsz : s.heap.size = sz := hv.2.1
  subst hsz
  obtain ⟨rfl, X, h1, h2, hT⟩ := mw_body hfl B hml hv
  have hl := lv_entry av (n := maxL) hlen
  rw [lg_entry_eq]
  exact body p e s m below meth c _ X h1 h2 hexc hT hl
theorem mw_ofH {l : Launch} {G : mw_G} {y : MethodName} {cc : ByteArray} {maxL : Nat} {ret : Option FieldType} {hh : List (Nat × Nat × Nat × Nat)} {rm : Room} {av : List Value} {M : mw_M} {post : Option Value → mw_M → Prop} {px : String → Prop} (hfl : l.stackTraces = false) (hy : plainName y.cls = true) (hlen : (lg_sl av).length ≤ maxL)
    (body : ∀ (p : Program) (e : Env) (s : State) (m : MethodId) (below : List Frame) (meth : Method) (c : Code) (ls : Array Slot), mw_B p l s m meth c cc maxL y.cls G (mw_A M s.heap.size) → meth.name = y.name → meth.sig.returnType = ret → c.exceptionTable.toList = tableOf hh → mw_T G (mw_A M s.heap.size) s M s.heap [] → lv_has ls maxL (lv_args 0 av) →
      W p l e rm s m av.toArray below meth c s.heap [] 0 0 (mw_EX below G M rm post px av.toArray s) (F0 m 0 ls [])) : mw_MetX l G y (.codeWith y cc maxL ret hh) rm av M post px := by
  intro sz
  refine vx_ofWH (cc := cc) (maxL := maxL) (ret := ret) (hh := hh) hy rfl ?_
  intro p e s m args below meth c s₁ B hml hv
  have hsz : s.heap.size = sz := hv.2.1
  subst hsz
  have htab := vx_table (x := y) B (atoms_spec (ws := [Cond.codeWith y cc maxL ret hh]) B.pre _ List.mem_cons_self)
  obtain ⟨rfl, X, h1, h2, hT⟩ := mw_body hfl B hml hv
  have hl := lv_entry av (n := maxL) hlen
  rw [lg_entry_eq]
  exact body p e s m below meth c _ X h1 h2 htab hT hl
/-! calls -/
def mw_or (M1 M2 : mw_M) : mw_M := fun a => (M1 a).or (M2 a)
def mw_nil : mw_M := fun _ => none
theorem mw_or_nil (M : mw_M) : mw_or M mw_nil = M := by
  funext a
  show (M a).or none = M a
  cases M a <;> rfl
def mw_ds (M1 M2 : mw_M) : Prop := ∀ a : Nat, M1 a ≠ none → M2 a = none
theorem mw_ds_nil (M : mw_M) : mw_ds M mw_nil := fun _ _ => rfl
def mw_CB (own : String) (index : Nat) (y : MethodName) (n : Nat) : Prop := Cond.initialized y.cls ∈ lw_tbl ∧ (y.cls ≠ "java/lang/invoke/MethodHandle" ∧ y.cls ≠ "java/lang/invoke/VarHandle") ∧ (parseMethodDescriptor y.desc).map (fun d => d.parameters.length) = some n ∧ Cond.methodLink own index y ∈ lw_tbl
def mw_CN (own : String) (index : Nat) (y : MethodName) (n : Nat) : Prop := Cond.initialized y.cls ∈ lw_tbl ∧ (y.cls ≠ "java/lang/invoke/MethodHandle" ∧ y.cls ≠ "java/lang/invoke/VarHandle") ∧ (parseMethodDescriptor y.desc).map (fun d => d.parameters.length) = some n ∧ ∃ host : String, Cond.methodLinkNest own index y host ∈ lw_tbl
section MC
variable {p : Program} {l : Launch} {e : Env} {R : Room} {s : State} {m : MethodId} {args : Array Value} {below : List Frame} {meth : Method} {c : Code} {H : Heap} {locs : List Loc} {cells slots : Nat} {Q : State → Prop}
variable {cc : ByteArray} {pc maxL : Nat} {own : String} {ls : Array Slot} {rest st0 : List Value} {A : Nat → Prop} {G : mw_G} {M Mc Mr : mw_M}
variable {y : MethodName} {bytes : ByteArray} {maxL2 index n : Nat} {ret : Option FieldType} {rm : Room} {post : Option Value → mw_M → Prop} {px : String → Prop} {av : List Value}
theorem mr_pre (X : mw_B p l s m meth c cc maxL own G A) (hT : mw_T G A s (mw_or Mc Mr) H locs) (U : State) (hU : U.heap = H) (hW : s.WarmedH U.vm) : mw_Pre G av Mc H.size av.toArray U := by
  have hS := hT.2.2
  refine ⟨rfl, by rw [hU], mw_K.warm hW X.2.2.2.2.1, ?_, ?_⟩
  · have h1 : mw_Z G A s H := X.2.2.2.2.2.1.kept hS.1 (fun q h1 h2 => hS.2.1 q h1 h2)
    have h2 := h1.moved (U := U) hW.alike
    rw [hU]
    refine h2.narrowH (fun q hq hz => ?_)
    rcases hz with hz | hz
    · refine hT.2.1 q ?_
      unfold mw_or
      cases hq2 : Mc q with
      | none => exact absurd hq2 hz
      | some e => exact fun z => by cases z
    · omega
  · rw [hU]
    intro a e ha
    refine hT.1 a e ?_
    unfold mw_or
    rw [ha]
    rfl
theorem mr_cb (X : mw_B p l s m meth c cc maxL own G A) (cb : mw_CB own index y n) (hcode : Cond.code y bytes maxL2 ret ∈ lw_tbl) (hR : rm.frames + 1 ≤ R.frames ∧ 8 + (maxL2 + 11) + rm.locals ≤ R.locals) : CallB R s args own index y bytes maxL2 ret [Cond.code y bytes maxL2 ret] rm rm.cells rm.slots n := by
  have hW := X.2.2.2.2.1.1
  have hc : (Cond.code y bytes maxL2 ret).before args s = true := mw_use hW hcode rfl
  refine ⟨rfl, rfl, hR.1, hR.2, fun w hw a' U hU => ?_, List.mem_cons_self, hc, mw_use hW cb.1 rfl, cb.2.1, fun sig h => ?_, mw_use hW cb.2.2.2 rfl⟩
  · rcases List.mem_singleton.mp hw with rfl
    exact word_at hU (Or.inl rfl) hc
  · have h2 := cb.2.2.1
    rw [h] at h2
    exact (Option.some.inj h2).symm
theorem mr_cn (X : mw_B p l s m meth c cc maxL own G A) (cb : mw_CN own index y n) (hcode : Cond.code y bytes maxL2 ret ∈ lw_tbl) (hR : rm.frames + 1 ≤ R.frames ∧ 8 + (maxL2 + 11) + rm.locals ≤ R.locals) : ∃ host : String, va_CN R s args own index y host bytes maxL2 ret [Cond.code y bytes maxL2 ret] rm rm.cells rm.slots n := by
  have hW := X.2.2.2.2.1.1
  have hc : (Cond.code y bytes maxL2 ret).before args s = true := mw_use hW hcode rfl
  obtain ⟨host, hl⟩ := cb.2.2.2
  refine ⟨host, ⟨rfl, rfl, hR.1, hR.2, fun w hw a' U hU => ?_, List.mem_cons_self⟩, hc, mw_use hW cb.1 rfl, cb.2.1, fun sig h => ?_, mw_use hW hl rfl⟩
  · rcases List.mem_singleton.mp hw with rfl
    exact word_at hU (Or.inl rfl) hc
  · have h2 := cb.2.2.1
    rw [h] at h2
    exact (Option.some.inj h2).symm
abbrev mw_Run (p : Program) (l : Launch) (e : Env) (R : Room) (s : State) (m : MethodId) (args : Array Value) (below : List Frame) (meth : Method) (c : Code) (G : mw_G) (Mc : mw_M) (H : Heap) (locs : List Loc) (cells slots : Nat) (rm : Room) (g : JFrame) (rest : List Value) (post : Option Value → mw_M → Prop) : Prop := ∃ a : Array Value, va_Run p l e R s m args below meth c H locs cells slots rm.cells rm.slots g rest (mw_Qr G Mc H.size post a) (mw_A Mc H.size)
abbrev mw_RunX (p : Program) (l : Launch) (e : Env) (R : Room) (s : State) (m : MethodId) (args : Array Value) (below : List Frame) (meth : Method) (c : Code) (G : mw_G) (Mc : mw_M) (H : Heap) (locs : List Loc) (cells slots : Nat) (rm : Room) (g : JFrame) (rest : List Value) (post : Option Value → mw_M → Prop) (px : String → Prop) : Prop := ∃ a : Array Value, vx_Run p l e R s m args below meth c H locs cells slots rm.cells rm.slots g rest (mw_Qr G Mc H.size post a) (mw_Xr G Mc H.size px) (mw_A Mc H.size)
variable {b : Nat} {As : List Value} {C : String}
theorem mr_runV (X : mw_B p l s m meth c cc maxL own G A) (hT : mw_T G A s (mw_or Mc Mr) H locs) (cb : mw_CB own index y n) (hi : Cond.instanceMethod y ∈ lw_tbl) (hs : Cond.selects C y y ∈ lw_tbl) (hcode : Cond.code y bytes maxL2 ret ∈ lw_tbl) (hM : mw_Met l G y (.code y bytes maxL2 ret) rm (.ref b :: As) Mc post) (hrecv : ∃ cell : Cell, H[b]? = some cell ∧ cell.vm.isStatics = false ∧ s.vm.findClass C = some cell.cls) (hst : st0 = As.reverse ++ .ref b :: rest) (hn : As.length = n) (hsize : ls.size = maxL) (hR : rm.frames + 1 ≤ R.frames ∧ 8 + (maxL2 + 11) + rm.locals ≤ R.locals) (hW : (rest.map fun v => v.category).sum ≤ 8) (hdg : decode cc pc = .ok (.invokevirtual index, 3)) (hf : cells + rm.cells ≤ R.cells ∧ slots + rm.slots ≤ R.slots) :
    mw_Run p l e R s m args below meth c G Mc H locs cells slots rm (F0 m pc ls st0) rest post :=
  ⟨_, va_runV (As := As) (Ts := []) ⟨X.1, X.2.1, X.2.2.1, X.2.2.2.1, fun _ h => nomatch h⟩ (hM H.size) ⟨mr_cb X cb hcode hR, mw_use X.2.2.2.2.1.1 hi rfl, mw_use X.2.2.2.2.1.1 hs rfl⟩ ⟨mw_Pre.blind, hrecv, fun U hU hWU => mr_pre (av := .ref b :: As) X hT U hU hWU⟩ rfl hn hsize hst (lv_room hW) hdg hf⟩
theorem mr_runVN (X : mw_B p l s m meth c cc maxL own G A) (hT : mw_T G A s (mw_or Mc Mr) H locs) (cb : mw_CN own index y n) (hi : Cond.instanceMethod y ∈ lw_tbl) (hs : Cond.selects C y y ∈ lw_tbl) (hcode : Cond.code y bytes maxL2 ret ∈ lw_tbl) (hM : mw_Met l G y (.code y bytes maxL2 ret) rm (.ref b :: As) Mc post) (hrecv : ∃ cell : Cell, H[b]? = some cell ∧ cell.vm.isStatics = false ∧ s.vm.findClass C = some cell.cls) (hst : st0 = As.reverse ++ .ref b :: rest) (hn : As.length = n) (hsize : ls.size = maxL) (hR : rm.frames + 1 ≤ R.frames ∧ 8 + (maxL2 + 11) + rm.locals ≤ R.locals) (hW : (rest.map fun v => v.category).sum ≤ 8) (hdg : decode cc pc = .ok (.invokevirtual index, 3)) (hf : cells + rm.cells ≤ R.cells ∧ slots + rm.slots ≤ R.slots) :
    mw_Run p l e R s m args below meth c G Mc H locs cells slots rm (F0 m pc ls st0) rest post := by
  obtain ⟨host, hcn⟩ := mr_cn (args := args) X cb hcode hR
  exact ⟨_, va_runVN (As := As) (Ts := []) ⟨X.1, X.2.1, X.2.2.1, X.2.2.2.1, fun _ h => nomatch h⟩ (hM H.size) ⟨hcn, mw_use X.2.2.2.2.1.1 hi rfl, mw_use X.2.2.2.2.1.1 hs rfl⟩ ⟨mw_Pre.blind, hrecv, fun U hU hWU => mr_pre (av := .ref b :: As) X hT U hU hWU⟩ rfl hn hsize hst (lv_room hW) hdg hf⟩
theorem mr_runS (X : mw_B p l s m meth c cc maxL own G A) (hT : mw_T G A s (mw_or Mc Mr) H locs) (cb : mw_CB own index y n) (hi : Cond.static y ∈ lw_tbl) (hcode : Cond.code y bytes maxL2 ret ∈ lw_tbl) (hM : mw_Met l G y (.code y bytes maxL2 ret) rm As Mc post) (hst : st0 = As.reverse ++ rest) (hn : As.length = n) (hsize : ls.size = maxL) (hR : rm.frames + 1 ≤ R.frames ∧ 8 + (maxL2 + 11) + rm.locals ≤ R.locals) (hW : (rest.map fun v => v.category).sum ≤ 8) (hdg : decode cc pc = .ok (.invokestatic index, 3)) (hf : cells + rm.cells ≤ R.cells ∧ slots + rm.slots ≤ R.slots) :
    mw_Run p l e R s m args below meth c G Mc H locs cells slots rm (F0 m pc ls st0) rest post :=
  ⟨_, va_runS (As := As) (Ts := []) ⟨X.1, X.2.1, X.2.2.1, X.2.2.2.1, fun _ h => nomatch h⟩ (hM H.size) ⟨mr_cb X cb hcode hR, mw_use X.2.2.2.2.1.1 hi rfl⟩ ⟨mw_Pre.blind, fun U hU hWU => mr_pre (av := As) X hT U hU hWU⟩ rfl hn hsize hst (lv_room hW) hdg hf⟩
theorem mr_runI (X : mw_B p l s m meth c cc maxL own G A) (hT : mw_T G A s (mw_or Mc Mr) H locs) (cb : mw_CB own index y n) (hi : Cond.instanceMethod y ∈ lw_tbl) (hnm : y.name = "<init>") (hcode : Cond.code y bytes maxL2 none ∈ lw_tbl) (hM : mw_Met l G y (.code y bytes maxL2 none) rm (.ref b :: As) Mc post) (hst : st0 = As.reverse ++ .ref b :: rest) (hn : As.length = n) (hsize : ls.size = maxL) (hR : rm.frames + 1 ≤ R.frames ∧ 8 + (maxL2 + 11) + rm.locals ≤ R.locals) (hW : (rest.map fun v => v.category).sum ≤ 8) (hdg : decode cc pc = .ok (.invokespecial index, 3)) (hf : cells + rm.cells ≤ R.cells ∧ slots + rm.slots ≤ R.slots) :
    mw_Run p l e R s m args below meth c G Mc H locs cells slots rm (F0 m pc ls st0) rest post :=
  ⟨_, va_runI (As := As) (Ts := []) ⟨X.1, X.2.1, X.2.2.1, X.2.2.2.1, fun _ h => nomatch h⟩ (hM H.size) ⟨mr_cb X cb hcode hR, hnm, mw_use X.2.2.2.2.1.1 hi rfl⟩ ⟨mw_Pre.blind, fun U hU hWU => mr_pre (av := .ref b :: As) X hT U hU hWU⟩ rfl hn hsize hst (lv_room hW) hdg hf⟩
theorem mr_runIN (X : mw_B p l s m meth c cc maxL own G A) (hT : mw_T G A s (mw_or Mc Mr) H locs) (cb : mw_CN own index y n) (hi : Cond.instanceMethod y ∈ lw_tbl) (hnm : y.name = "<init>") (hcode : Cond.code y bytes maxL2 none ∈ lw_tbl) (hM : mw_Met l G y (.code y bytes maxL2 none) rm (.ref b :: As) Mc post) (hst : st0 = As.reverse ++ .ref b :: rest) (hn : As.length = n) (hsize : ls.size = maxL) (hR : rm.frames + 1 ≤ R.frames ∧ 8 + (maxL2 + 11) + rm.locals ≤ R.locals) (hW : (rest.map fun v => v.category).sum ≤ 8) (hdg : decode cc pc = .ok (.invokespecial index, 3)) (hf : cells + rm.cells ≤ R.cells ∧ slots + rm.slots ≤ R.slots) :
    mw_Run p l e R s m args below meth c G Mc H locs cells slots rm (F0 m pc ls st0) rest post := by
  obtain ⟨host, hcn⟩ := mr_cn (args := args) X cb hcode hR
  exact ⟨_, va_runIN (As := As) (Ts := []) ⟨X.1, X.2.1, X.2.2.1, X.2.2.2.1, fun _ h => nomatch h⟩ (hM H.size) ⟨hcn, hnm, mw_use X.2.2.2.2.1.1 hi rfl⟩ ⟨mw_Pre.blind, fun U hU hWU => mr_pre (av := .ref b :: As) X hT U hU hWU⟩ rfl hn hsize hst (lv_room hW) hdg hf⟩
theorem mr_runVX (X : mw_B p l s m meth c cc maxL own G A) (hT : mw_T G A s (mw_or Mc Mr) H locs) (cb : mw_CB own index y n) (hi : Cond.instanceMethod y ∈ lw_tbl) (hs : Cond.selects C y y ∈ lw_tbl) (hcode : Cond.code y bytes maxL2 ret ∈ lw_tbl) (hM : mw_MetX l G y (.code y bytes maxL2 ret) rm (.ref b :: As) Mc post px) (hrecv : ∃ cell : Cell, H[b]? = some cell ∧ cell.vm.isStatics = false ∧ s.vm.findClass C = some cell.cls) (hst : st0 = As.reverse ++ .ref b :: rest) (hn : As.length = n) (hsize : ls.size = maxL) (hR : rm.frames + 1 ≤ R.frames ∧ 8 + (maxL2 + 11) + rm.locals ≤ R.locals) (hW : (rest.map fun v => v.category).sum ≤ 8) (hdg : decode cc pc = .ok (.invokevirtual index, 3)) (hf : cells + rm.cells ≤ R.cells ∧ slots + rm.slots ≤ R.slots) :
    mw_RunX p l e R s m args below meth c G Mc H locs cells slots rm (F0 m pc ls st0) rest post px :=
  ⟨_, vx_runV (As := As) (Ts := []) ⟨X.1, X.2.1, X.2.2.1, X.2.2.2.1, fun _ h => nomatch h⟩ (hM H.size) ⟨mr_cb X cb hcode hR, mw_use X.2.2.2.2.1.1 hi rfl, mw_use X.2.2.2.2.1.1 hs rfl⟩ ⟨mw_Pre.blind, hrecv, fun U hU hWU => mr_pre (av := .ref b :: As) X hT U hU hWU⟩ rfl hn hsize hst (lv_room hW) hdg hf⟩
theorem mr_runSX (X : mw_B p l s m meth c cc maxL own G A) (hT : mw_T G A s (mw_or Mc Mr) H locs) (cb : mw_CB own index y n) (hi : Cond.static y ∈ lw_tbl) (hcode : Cond.code y bytes maxL2 ret ∈ lw_tbl) (hM : mw_MetX l G y (.code y bytes maxL2 ret) rm As Mc post px) (hst : st0 = As.reverse ++ rest) (hn : As.length = n) (hsize : ls.size = maxL) (hR : rm.frames + 1 ≤ R.frames ∧ 8 + (maxL2 + 11) + rm.locals ≤ R.locals) (hW : (rest.map fun v => v.category).sum ≤ 8) (hdg : decode cc pc = .ok (.invokestatic index, 3)) (hf : cells + rm.cells ≤ R.cells ∧ slots + rm.slots ≤ R.slots) :
    mw_RunX p l e R s m args below meth c G Mc H locs cells slots rm (F0 m pc ls st0) rest post px :=
  ⟨_, vx_runS (As := As) (Ts := []) ⟨X.1, X.2.1, X.2.2.1, X.2.2.2.1, fun _ h => nomatch h⟩ (hM H.size) ⟨mr_cb X cb hcode hR, mw_use X.2.2.2.2.1.1 hi rfl⟩ ⟨mw_Pre.blind, fun U hU hWU => mr_pre (av := As) X hT U hU hWU⟩ rfl hn hsize hst (lv_room hW) hdg hf⟩
theorem mr_runSH {hh : List (Nat × Nat × Nat × Nat)} (X : mw_B p l s m meth c cc maxL own G A) (hT : mw_T G A s (mw_or Mc Mr) H locs) (cb : mw_CB own index y n) (hi : Cond.static y ∈ lw_tbl) (hcode : Cond.codeWith y bytes maxL2 ret hh ∈ lw_tbl) (hM : mw_MetX l G y (.codeWith y bytes maxL2 ret hh) rm As Mc post px) (hst : st0 = As.reverse ++ rest) (hn : As.length = n) (hsize : ls.size = maxL) (hR : rm.frames + 1 ≤ R.frames ∧ 8 + (maxL2 + 11) + rm.locals ≤ R.locals) (hW : (rest.map fun v => v.category).sum ≤ 8) (hdg : decode cc pc = .ok (.invokestatic index, 3)) (hf : cells + rm.cells ≤ R.cells ∧ slots + rm.slots ≤ R.slots) :
    mw_RunX p l e R s m args below meth c G Mc H locs cells slots rm (F0 m pc ls st0) rest post px := by
  have hW2 := X.2.2.2.2.1.1
  have hc : (Cond.codeWith y bytes maxL2 ret hh).before args s = true := mw_use hW2 hcode rfl
  refine ⟨_, vx_runSX (As := As) (Ts := []) (hh := hh) ⟨X.1, X.2.1, X.2.2.1, X.2.2.2.1, fun _ h => nomatch h⟩ (hM H.size) ⟨⟨rfl, rfl, hR.1, hR.2, fun w hw a' U hU => ?_, List.mem_cons_self⟩, hc, mw_use hW2 cb.1 rfl, cb.2.1, fun sig h => ?_, mw_use hW2 cb.2.2.2 rfl, mw_use hW2 hi rfl⟩ ⟨mw_Pre.blind, fun U hU hWU => mr_pre (av := As) X hT U hU hWU⟩ rfl hn hsize hst (lv_room hW) hdg hf⟩
  · rcases List.mem_singleton.mp hw with rfl
    exact word_at hU (Or.inl rfl) hc
  · have h2 := cb.2.2.1
    rw [h] at h2
    exact (Option.some.inj h2).symm
/-- behind a call: the callee's new map beside the rest -/
theorem mr_joined {st₀ t T' : State} {L : List Loc} {M1 : mw_M} (hA : ∀ q : Nat, s.heap.size ≤ q → A q) (hT : mw_T G A s (mw_or Mc Mr) H locs) (hd : mw_ds Mc Mr) (h0 : st₀.heap = H) (e1 : T'.heap = t.heap) (hL : ∀ q ∈ L, mw_A Mc H.size q.base) (hP : mw_P G M1 t.heap) (hD : ∀ a : Nat, M1 a ≠ none → mw_A Mc H.size a) (hF : va_F (mw_A Mc H.size) st₀ t) :
    mw_ds M1 Mr ∧ mw_T G A s (mw_or M1 Mr) T'.heap (locs ++ L) := by
  have hin : ∀ q : Nat, Mc q ≠ none → A q := fun q hq => by
    refine hT.2.1 q ?_
    unfold mw_or
    cases hq2 : Mc q with
    | none => exact absurd hq2 hq
    | some e => exact fun z => by cases z
  have hcA : ∀ q : Nat, mw_A Mc H.size q → A q := fun q hq => by
    rcases hq with hq | hq
    · exact hin q hq
    · exact hA q (Nat.le_trans hT.2.2.1 hq)
  obtain ⟨k1, k2, k3⟩ := vx_keep h0 e1 hT.2.2 (fun q _ h => hcA q h) (fun q h => hcA q h) hL hF
  have hr : ∀ (a : Nat) (e : va_E), Mr a = some e → Mc a = none ∧ mw_or Mc Mr a = some e ∧ a < H.size := fun a e ha => by
    have hn : Mc a = none := by
      cases hq2 : Mc a with
      | none => rfl
      | some e2 => have := hd a (by rw [hq2]; exact fun z => by cases z); rw [ha] at this; cases this
    have ho : mw_or Mc Mr a = some e := by unfold mw_or; rw [hn, ha]; rfl
    exact ⟨hn, ho, hT.1.lt ho⟩
  have hno : ∀ (a : Nat) (e : va_E), Mr a = some e → ¬ mw_A Mc H.size a := fun a e ha hz => by
    obtain ⟨h1, -, h3⟩ := hr a e ha
    rcases hz with hz | hz
    · exact hz h1
    · omega
  have hds : mw_ds M1 Mr := fun a ha => by
    cases hq2 : Mr a with
    | none => rfl
    | some e2 => exact absurd (hD a ha) (hno a e2 hq2)
  refine ⟨hds, fun a e ha => ?_, fun a ha => ?_, k3⟩
  · unfold mw_or at ha
    cases h1 : M1 a with
    | some e1' =>
      rw [h1] at ha
      cases ha
      rw [e1]
      exact hP a _ h1
    | none =>
      rw [h1] at ha
      have ha : Mr a = some e := ha
      obtain ⟨g1, g2, g3⟩ := hr a e ha
      exact (hT.1 a e g2).kept (k2 a g3 (hno a e ha))
  · unfold mw_or at ha
    cases h1 : M1 a with
    | some e1' => exact hcA a (hD a (by rw [h1]; exact fun z => by cases z))
    | none =>
      rw [h1] at ha
      have ha : Mr a ≠ none := ha
      cases h2 : Mr a with
      | none => exact absurd h2 ha
      | some e2 => exact hT.2.1 a (by rw [(hr a e2 h2).2.1]; exact fun z => by cases z)
theorem mr_go (X : mw_B p l s m meth c cc maxL own G A) (hT : mw_T G A s (mw_or Mc Mr) H locs) (hd : mw_ds Mc Mr) (hr : mw_Run p l e R s m args below meth c G Mc H locs cells slots rm (F0 m pc ls st0) rest post)
    (kk : ∀ (v : Option Value) (M1 : mw_M) (H1 : Heap) (locs1 : List Loc), post v M1 → mw_ds M1 Mr → mw_T G A s (mw_or M1 Mr) H1 locs1 → W p l e R s m args below meth c H1 locs1 (cells + rm.cells) (slots + rm.slots) Q (F0 m (pc + 3) ls (v.toList ++ rest))) : W p l e R s m args below meth c H locs cells slots Q (F0 m pc ls st0) := by
  obtain ⟨a, hr⟩ := hr
  intro T hT0 X0
  obtain ⟨v, st₀, t, T', L, h0, X', hL, e1, e2, ⟨v', M1, hv, hp, hP, hD, hF⟩, st⟩ := hr T hT0 X0
  cases hv
  obtain ⟨j1, j2⟩ := mr_joined X.2.2.2.2.2.2.1 hT hd h0 e1 hL hP hD hF
  obtain ⟨t2, a1, b1⟩ := kk v M1 T'.heap (locs ++ L) hp j1 j2 T' rfl X'
  exact ⟨t2, st t2 a1, b1⟩
theorem mr_goX (X : mw_B p l s m meth c cc maxL own G A) (hT : mw_T G A s (mw_or Mc Mr) H locs) (hd : mw_ds Mc Mr) (hr : mw_RunX p l e R s m args below meth c G Mc H locs cells slots rm (F0 m pc ls st0) rest post px)
    (kx : ∀ (E : String) (ce : Cell) (q9 : Addr) (H1 : Heap) (locs1 : List Loc), px E → mw_T G A s (mw_or Mc Mr) H1 locs1 → H1[q9]? = some ce → ce.vm = .none → s.vm.findClass E = some ce.cls → vx_W p l e R s m args below meth c H1 locs1 (cells + rm.cells) (slots + rm.slots) Q (F0 m pc ls rest) q9)
    (kk : ∀ (v : Option Value) (M1 : mw_M) (H1 : Heap) (locs1 : List Loc), post v M1 → mw_ds M1 Mr → mw_T G A s (mw_or M1 Mr) H1 locs1 → W p l e R s m args below meth c H1 locs1 (cells + rm.cells) (slots + rm.slots) Q (F0 m (pc + 3) ls (v.toList ++ rest))) : W p l e R s m args below meth c H locs cells slots Q (F0 m pc ls st0) := by
  obtain ⟨a, hr⟩ := hr
  intro T hT0 X0
  rcases hr T hT0 X0 with ⟨v, st₀, t, T', L, h0, X', hL, e1, e2, ⟨v', M1, hv, hp, hP, hD, hF⟩, st⟩ | ⟨q, st₀, t, T', L, E, ce, h0, X', hL, e1, e2, ⟨hp, hP, hF⟩, hce, hcv, hcl, st⟩
  · cases hv
    obtain ⟨j1, j2⟩ := mr_joined X.2.2.2.2.2.2.1 hT hd h0 e1 hL hP hD hF
    obtain ⟨t2, a1, b1⟩ := kk v M1 T'.heap (locs ++ L) hp j1 j2 T' rfl X'
    exact ⟨t2, st t2 a1, b1⟩
  · obtain ⟨j1, j2⟩ := mr_joined X.2.2.2.2.2.2.1 hT hd h0 e1 hL hP (fun a h => Or.inl h) hF
    obtain ⟨t2, a1, b1⟩ := kx E ce q T'.heap (locs ++ L) hp j2 (by rw [e1]; exact hce) hcv hcl T' rfl X'
    exact ⟨t2, st.trans a1, b1⟩
/-- the same, the callee with the whole map -/
theorem mr_g (X : mw_B p l s m meth c cc maxL own G A) (hT : mw_T G A s M H locs) (hr : mw_T G A s (mw_or M mw_nil) H locs → mw_Run p l e R s m args below meth c G M H locs cells slots rm (F0 m pc ls st0) rest post)
    (kk : ∀ (v : Option Value) (M1 : mw_M) (H1 : Heap) (locs1 : List Loc), post v M1 → mw_T G A s M1 H1 locs1 → W p l e R s m args below meth c H1 locs1 (cells + rm.cells) (slots + rm.slots) Q (F0 m (pc + 3) ls (v.toList ++ rest))) : W p l e R s m args below meth c H locs cells slots Q (F0 m pc ls st0) := by
  have hT' : mw_T G A s (mw_or M mw_nil) H locs := by rw [mw_or_nil]; exact hT
  refine mr_go X hT' (mw_ds_nil M) (hr hT') (fun v M1 H1 locs1 hp _ hT1 => ?_)
  rw [mw_or_nil] at hT1
  exact kk v M1 H1 locs1 hp hT1
theorem mr_gX (X : mw_B p l s m meth c cc maxL own G A) (hT : mw_T G A s M H locs) (hr : mw_T G A s (mw_or M mw_nil) H locs → mw_RunX p l e R s m args below meth c G M H locs cells slots rm (F0 m pc ls st0) rest post px)
    (kx : ∀ (E : String) (ce : Cell) (q9 : Addr) (H1 : Heap) (locs1 : List Loc), px E → mw_T G A s M H1 locs1 → H1[q9]? = some ce → ce.vm = .none → s.vm.findClass E = some ce.cls → vx_W p l e R s m args below meth c H1 locs1 (cells + rm.cells) (slots + rm.slots) Q (F0 m pc ls rest) q9)
    (kk : ∀ (v : Option Value) (M1 : mw_M) (H1 : Heap) (locs1 : List Loc), post v M1 → mw_T G A s M1 H1 locs1 → W p l e R s m args below meth c H1 locs1 (cells + rm.cells) (slots + rm.slots) Q (F0 m (pc + 3) ls (v.toList ++ rest))) : W p l e R s m args below meth c H locs cells slots Q (F0 m pc ls st0) := by
  have hT' : mw_T G A s (mw_or M mw_nil) H locs := by rw [mw_or_nil]; exact hT
  refine mr_goX X hT' (mw_ds_nil M) (hr hT') (fun E ce q9 H1 locs1 hp hT1 h1 h2 h3 => ?_) (fun v M1 H1 locs1 hp _ hT1 => ?_)
  · rw [mw_or_nil] at hT1
    exact kx E ce q9 H1 locs1 hp hT1 h1 h2 h3
  · rw [mw_or_nil] at hT1
    exact kk v M1 H1 locs1 hp hT1
/-! ends -/
theorem mr_post (hT : mw_T G (mw_A M s.heap.size) s Mc H locs) {v : Option Value} (hp : post v Mc) (t : State) (ht : t.heap = H) : mw_Qr G M s.heap.size post args s (.returned v) t :=
  ⟨v, Mc, rfl, hp, by rw [ht]; exact hT.1, hT.2.1, hT.2.2.F ht⟩
theorem mr_iret (X : mw_B p l s m meth c cc maxL own G (mw_A M s.heap.size)) (hT : mw_T G (mw_A M s.heap.size) s Mc H locs) (hr : meth.sig.returnType = some .int) {v : Int32} (hp : post (some (.int v)) Mc) (hc : cells ≤ rm.cells) (hs : slots ≤ rm.slots) (hdg : decode cc pc = .ok (.ireturn, 1)) : W p l e R s m args below meth c H locs cells slots (mw_E below G M rm post args s) (F0 m pc ls [.int v]) :=
  W.widen hc hs (W.iret X.1 X.2.1 hr (fun t ht _ => mr_post hT hp t ht) hT.2.2.2.2 hdg (hlocks := X.2.2.2.2.2.2.2.1))
theorem mr_zret (X : mw_B p l s m meth c cc maxL own G (mw_A M s.heap.size)) (hT : mw_T G (mw_A M s.heap.size) s Mc H locs) (hr : meth.sig.returnType = some .boolean) {v : Int32} (hn : narrow .boolean (.int v) = .int v) (hp : post (some (.int v)) Mc) (hc : cells ≤ rm.cells) (hs : slots ≤ rm.slots) (hdg : decode cc pc = .ok (.ireturn, 1)) : W p l e R s m args below meth c H locs cells slots (mw_E below G M rm post args s) (F0 m pc ls [.int v]) :=
  W.widen hc hs (W.zret X.1 X.2.1 hr hn (fun t ht _ => mr_post hT hp t ht) hT.2.2.2.2 hdg (hlocks := X.2.2.2.2.2.2.2.1))
theorem mr_vret (X : mw_B p l s m meth c cc maxL own G (mw_A M s.heap.size)) (hT : mw_T G (mw_A M s.heap.size) s Mc H locs) (hr : meth.sig.returnType = none) (hp : post none Mc) (hc : cells ≤ rm.cells) (hs : slots ≤ rm.slots) (hdg : decode cc pc = .ok (.return_, 1)) : W p l e R s m args below meth c H locs cells slots (mw_E below G M rm post args s) (F0 m pc ls []) :=
  W.widen hc hs (W.vret X.1 X.2.1 hr (fun t ht _ => mr_post hT hp t ht) hT.2.2.2.2 hdg (hlocks := X.2.2.2.2.2.2.2.1))
theorem mr_aret (X : mw_B p l s m meth c cc maxL own G (mw_A M s.heap.size)) (hT : mw_T G (mw_A M s.heap.size) s Mc H locs) {rt : FieldType} (hr : meth.sig.returnType = some rt) (hrt : (∃ n, rt = .object n) ∨ ∃ t, rt = .array t) {q : Nat} (hp : post (some (.ref q)) Mc) (hc : cells ≤ rm.cells) (hs : slots ≤ rm.slots) (hdg : decode cc pc = .ok (.areturn, 1)) : W p l e R s m args below meth c H locs cells slots (mw_E below G M rm post args s) (F0 m pc ls [.ref q]) :=
  W.widen hc hs (W.aret X.1 X.2.1 hr hrt (Or.inr ⟨q, rfl⟩) (fun t ht _ => mr_post hT hp t ht) hT.2.2.2.2 hdg (hlocks := X.2.2.2.2.2.2.2.1))
theorem mr_iretX (X : mw_B p l s m meth c cc maxL own G (mw_A M s.heap.size)) (hT : mw_T G (mw_A M s.heap.size) s Mc H locs) (hr : meth.sig.returnType = some .int) {v : Int32} (hp : post (some (.int v)) Mc) (hc : cells ≤ rm.cells) (hs : slots ≤ rm.slots) (hdg : decode cc pc = .ok (.ireturn, 1)) : W p l e R s m args below meth c H locs cells slots (mw_EX below G M rm post px args s) (F0 m pc ls [.int v]) := vx_ret (mr_iret X hT hr hp hc hs hdg)
theorem mr_zretX (X : mw_B p l s m meth c cc maxL own G (mw_A M s.heap.size)) (hT : mw_T G (mw_A M s.heap.size) s Mc H locs) (hr : meth.sig.returnType = some .boolean) {v : Int32} (hn : narrow .boolean (.int v) = .int v) (hp : post (some (.int v)) Mc) (hc : cells ≤ rm.cells) (hs : slots ≤ rm.slots) (hdg : decode cc pc = .ok (.ireturn, 1)) : W p l e R s m args below meth c H locs cells slots (mw_EX below G M rm post px args s) (F0 m pc ls [.int v]) := vx_ret (mr_zret X hT hr hn hp hc hs hdg)
theorem mr_vretX (X : mw_B p l s m meth c cc maxL own G (mw_A M s.heap.size)) (hT : mw_T G (mw_A M s.heap.size) s Mc H locs) (hr : meth.sig.returnType = none) (hp : post none Mc) (hc : cells ≤ rm.cells) (hs : slots ≤ rm.slots) (hdg : decode cc pc = .ok (.return_, 1)) : W p l e R s m args below meth c H locs cells slots (mw_EX below G M rm post px args s) (F0 m pc ls []) := vx_ret (mr_vret X hT hr hp hc hs hdg)
theorem mr_aretX (X : mw_B p l s m meth c cc maxL own G (mw_A M s.heap.size)) (hT : mw_T G (mw_A M s.heap.size) s Mc H locs) {rt : FieldType} (hr : meth.sig.returnType = some rt) (hrt : (∃ n, rt = .object n) ∨ ∃ t, rt = .array t) {q : Nat} (hp : post (some (.ref q)) Mc) (hc : cells ≤ rm.cells) (hs : slots ≤ rm.slots) (hdg : decode cc pc = .ok (.areturn, 1)) : W p l e R s m args below meth c H locs cells slots (mw_EX below G M rm post px args s) (F0 m pc ls [.ref q]) := vx_ret (mr_aret X hT hr hrt hp hc hs hdg)
/-- what a callee has thrown goes on -/
theorem mr_out (X : mw_B p l s m meth c cc maxL own G (mw_A M s.heap.size)) (hexc : ∀ x ∈ c.exceptionTable.toList, False) (hT : mw_T G (mw_A M s.heap.size) s M H locs) {E : String} {ce : Cell} {q : Addr} (hcell : H[q]? = some ce) (hv : ce.vm = .none) (hcl : s.vm.findClass E = some ce.cls) (hp : px E) (hc : cells ≤ rm.cells) (hs : slots ≤ rm.slots) : vx_W p l e R s m args below meth c H locs cells slots (mw_EX below G M rm post px args s) (F0 m pc ls rest) q :=
  vx_out (fun x hx => (hexc x hx).elim) X.2.2.2.2.2.2.2.1 hcell hv hcl (fun t ht _ => ⟨hp, by rw [ht]; exact hT.1, hT.2.2.F ht⟩) hT.2.2.2.2 hc hs
/-- throw new E("text") -/
def mw_TX (own : String) (ik ic : Nat) (cls : String) (names : List String) : Prop := Bundle.fit cls = true ∧ (∀ n ∈ names, Bundle.fit n = true) ∧ Cond.classLink own ik cls ∈ lw_tbl ∧ Cond.initialized cls ∈ lw_tbl ∧ (∀ w ∈ vx_atS own ic cls names, w ∈ lw_tbl ∧ mw_ok w = true ∧ vx_ot w = true)
theorem mr_throw (X : mw_B p l s m meth c cc maxL own G (mw_A M s.heap.size)) (hexc : ∀ x ∈ c.exceptionTable.toList, False) (hT : mw_T G (mw_A M s.heap.size) s M H locs) {cls text : String} {names : List String} {ik is ic : Nat} (htx : mw_TX own ik ic cls names) (hstr : (own, is, text) ∈ mw_S) (hsize : ls.size = maxL) (hp : px cls)
    (d0 : decode cc pc = .ok (.new ik, 3)) (d3 : decode cc (pc + 3) = .ok (.dup, 1)) (d4 : decode cc (pc + 4) = .ok (.ldc is, 2)) (d6 : decode cc (pc + 6) = .ok (.invokespecial ic, 3)) (d9 : decode cc (pc + 9) = .ok (.athrow, 1))
    (hRf : names.length + 3 < R.frames) (hRl : (rest.map fun v => v.category).sum + (13 * (names.length + 1) + 43) ≤ R.locals) (hRc : cells + 1 ≤ R.cells) (hRs : slots + 6 ≤ R.slots) (hc : cells + 1 ≤ rm.cells) (hs : slots + 6 ≤ rm.slots) :
    W p l e R s m args below meth c H locs cells slots (mw_EX below G M rm post px args s) (F0 m pc ls rest) := by
  have hW := X.2.2.2.2.1.1
  obtain ⟨sa, hsa⟩ := X.2.2.2.2.1.2.2.2.1 _ hstr
  obtain ⟨g1, g2, g3, g4, g5⟩ := htx
  refine vx_throwS (names := names) X.1 X.2.1 X.2.2.2.2.2.2.2.2 X.2.2.2.1 g1 g2 (mw_use hW g3 rfl) (mw_use hW g4 rfl) hsa (fun w hw => mw_use hW (g5 w hw).1 (g5 w hw).2.1) (fun w hw => ?_) X.2.2.2.2.2.1.2.2.1 X.2.2.2.2.2.1.2.2.2 hT.2.2 (hsize.trans X.2.2.1.symm) d0 d3 d4 d6 d9 (fun x hx => (hexc x hx).elim) hRf hRl hRc hRs X.2.2.2.2.2.2.2.1 (fun t _ h1 h2 => ⟨hp, hT.1.kept (fun a ha => ?_), ?_⟩) hT.2.2.2.2 hc hs
  · rcases List.mem_cons.mp hw with rfl | hw
    · rfl
    · rcases List.mem_cons.mp hw with rfl | hw
      · rfl
      · exact (g5 w hw).2.2
  · cases hM : M a with
    | none => exact absurd hM ha
    | some e0 => exact h2 a (hT.1.lt hM)
  · exact ⟨Nat.le_trans hT.2.2.1 h1, fun q hq hn => (h2 q (Nat.lt_of_lt_of_le hq hT.2.2.1)).trans (hT.2.2.2.1 q hq hn)⟩
theorem mr_throwW (X : mw_B p l s m meth c cc maxL own G (mw_A M s.heap.size)) (hexc : ∀ x ∈ c.exceptionTable.toList, False) (hT : mw_T G (mw_A M s.heap.size) s M H locs) {cls text : String} {names : List String} {ik is ic : Nat} (htx : mw_TX own ik ic cls names) (hstr : (own, is, text) ∈ mw_S) (hsize : ls.size = maxL) (hp : px cls)
    (d0 : decode cc pc = .ok (.new ik, 3)) (d3 : decode cc (pc + 3) = .ok (.dup, 1)) (d4 : decode cc (pc + 4) = .ok (.ldc_w is, 3)) (d7 : decode cc (pc + 7) = .ok (.invokespecial ic, 3)) (d10 : decode cc (pc + 10) = .ok (.athrow, 1))
    (hRf : names.length + 3 < R.frames) (hRl : (rest.map fun v => v.category).sum + (13 * (names.length + 1) + 43) ≤ R.locals) (hRc : cells + 1 ≤ R.cells) (hRs : slots + 6 ≤ R.slots) (hc : cells + 1 ≤ rm.cells) (hs : slots + 6 ≤ rm.slots) :
    W p l e R s m args below meth c H locs cells slots (mw_EX below G M rm post px args s) (F0 m pc ls rest) := by
  have hW := X.2.2.2.2.1.1
  obtain ⟨sa, hsa⟩ := X.2.2.2.2.1.2.2.2.1 _ hstr
  obtain ⟨g1, g2, g3, g4, g5⟩ := htx
  refine vx_throwSW (names := names) X.1 X.2.1 X.2.2.2.2.2.2.2.2 X.2.2.2.1 g1 g2 (mw_use hW g3 rfl) (mw_use hW g4 rfl) hsa (fun w hw => mw_use hW (g5 w hw).1 (g5 w hw).2.1) (fun w hw => ?_) X.2.2.2.2.2.1.2.2.1 X.2.2.2.2.2.1.2.2.2 hT.2.2 (hsize.trans X.2.2.1.symm) d0 d3 d4 d7 d10 (fun x hx => (hexc x hx).elim) hRf hRl hRc hRs X.2.2.2.2.2.2.2.1 (fun t _ h1 h2 => ⟨hp, hT.1.kept (fun a ha => ?_), ?_⟩) hT.2.2.2.2 hc hs
  · rcases List.mem_cons.mp hw with rfl | hw
    · rfl
    · rcases List.mem_cons.mp hw with rfl | hw
      · rfl
      · exact (g5 w hw).2.2
  · cases hM : M a with
    | none => exact absurd hM ha
    | some e0 => exact h2 a (hT.1.lt hM)
  · exact ⟨Nat.le_trans hT.2.2.1 h1, fun q hq hn => (h2 q (Nat.lt_of_lt_of_le hq hT.2.2.1)).trans (hT.2.2.2.1 q hq hn)⟩
end MC
end
section
/-! the words of the tables, each by its place; what a call or a field needs of them -/
theorem mw_by {big ws : List Cond} (ps : List Nat) (hp : ws = ps.filterMap (fun i => big[i]?)) : ∀ w ∈ ws, w ∈ big := by
  intro w hw
  rw [hp] at hw
  obtain ⟨i, -, hi⟩ := List.mem_filterMap.mp hw
  exact List.mem_of_getElem? hi
set_option maxRecDepth 100000 in
theorem kw0 : Jvm.Cond.initialized "AccessGateLaw" ∈ lw_tbl := List.mem_of_getElem? (i := 45) rfl
set_option maxRecDepth 100000 in
theorem kw1 : Jvm.Cond.initialized "AccessGate" ∈ lw_tbl := List.mem_of_getElem? (i := 46) rfl
set_option maxRecDepth 100000 in
theorem kw2 : Jvm.Cond.initialized "java/util/AbstractCollection" ∈ lw_tbl := List.mem_of_getElem? (i := 47) rfl
set_option maxRecDepth 100000 in
theorem kw3 : Jvm.Cond.initialized "java/util/AbstractList" ∈ lw_tbl := List.mem_of_getElem? (i := 48) rfl
set_option maxRecDepth 100000 in
theorem kw4 : Jvm.Cond.initialized "java/util/ArrayList" ∈ lw_tbl := List.mem_of_getElem? (i := 49) rfl
set_option maxRecDepth 100000 in
theorem kw5 : Jvm.Cond.initialized "AccessGate$StepRecord" ∈ lw_tbl := List.mem_of_getElem? (i := 50) rfl
set_option maxRecDepth 100000 in
theorem kw6 : Jvm.Cond.initialized "AccessGateModel" ∈ lw_tbl := List.mem_of_getElem? (i := 51) rfl
set_option maxRecDepth 100000 in
theorem kw7 : Jvm.Cond.initialized "java/lang/Throwable" ∈ lw_tbl := List.mem_of_getElem? (i := 52) rfl
set_option maxRecDepth 100000 in
theorem kw8 : Jvm.Cond.initialized "java/lang/Exception" ∈ lw_tbl := List.mem_of_getElem? (i := 53) rfl
set_option maxRecDepth 100000 in
theorem kw9 : Jvm.Cond.initialized "java/lang/RuntimeException" ∈ lw_tbl := List.mem_of_getElem? (i := 54) rfl
set_option maxRecDepth 100000 in
theorem kw10 : Jvm.Cond.initialized "java/lang/IllegalArgumentException" ∈ lw_tbl := List.mem_of_getElem? (i := 55) rfl
set_option maxRecDepth 100000 in
theorem kw11 : Jvm.Cond.initialized "java/lang/IllegalStateException" ∈ lw_tbl := List.mem_of_getElem? (i := 56) rfl
set_option maxRecDepth 100000 in
theorem kw12 : Jvm.Cond.initialized "AccessGate$Person" ∈ lw_tbl := List.mem_of_getElem? (i := 57) rfl
set_option maxRecDepth 100000 in
theorem kw13 : Jvm.Cond.initialized "jdk/internal/util/ArraysSupport" ∈ lw_tbl := List.mem_of_getElem? (i := 58) rfl
set_option maxRecDepth 100000 in
theorem kw14 : Jvm.Cond.initialized "java/lang/Math" ∈ lw_tbl := List.mem_of_getElem? (i := 59) rfl
set_option maxRecDepth 100000 in
theorem kw15 : Jvm.Cond.initialized "java/util/Arrays" ∈ lw_tbl := List.mem_of_getElem? (i := 60) rfl
set_option maxRecDepth 100000 in
theorem kw16 : Jvm.Cond.initialized "java/lang/System" ∈ lw_tbl := List.mem_of_getElem? (i := 61) rfl
set_option maxRecDepth 100000 in
theorem kw17 : Jvm.Cond.initialized "AccessGate$Machine" ∈ lw_tbl := List.mem_of_getElem? (i := 62) rfl
set_option maxRecDepth 100000 in
theorem kw18 : Jvm.Cond.initialized "java/lang/IndexOutOfBoundsException" ∈ lw_tbl := List.mem_of_getElem? (i := 63) rfl
set_option maxRecDepth 100000 in
theorem kw19 : Jvm.Cond.initialized "java/util/Objects" ∈ lw_tbl := List.mem_of_getElem? (i := 64) rfl
set_option maxRecDepth 100000 in
theorem kw20 : Jvm.Cond.initialized "jdk/internal/util/Preconditions" ∈ lw_tbl := List.mem_of_getElem? (i := 65) rfl
set_option maxRecDepth 100000 in
theorem kw21 : Jvm.Cond.initialized "AccessGate$Ask" ∈ lw_tbl := List.mem_of_getElem? (i := 66) rfl
set_option maxRecDepth 100000 in
theorem kw22 : Jvm.Cond.initialized "AccessGate$Right" ∈ lw_tbl := List.mem_of_getElem? (i := 67) rfl
set_option maxRecDepth 100000 in
theorem kw23 : Jvm.Cond.initialized "AccessGate$Entry" ∈ lw_tbl := List.mem_of_getElem? (i := 68) rfl
set_option maxRecDepth 100000 in
theorem kw24 : Jvm.Cond.initialized "AccessGate$Session" ∈ lw_tbl := List.mem_of_getElem? (i := 69) rfl
set_option maxRecDepth 100000 in
theorem kw25 : Jvm.Cond.classLink "AccessGateLaw" (8 : Nat) "AccessGate" ∈ lw_tbl := List.mem_of_getElem? (i := 70) rfl
set_option maxRecDepth 100000 in
theorem kw26 : Jvm.Cond.instantiable "AccessGate" (9 : Nat) ∈ lw_tbl := List.mem_of_getElem? (i := 71) rfl
set_option maxRecDepth 100000 in
theorem kw27 : Jvm.Cond.methodLink "AccessGateLaw" (83 : Nat) ({ cls := "AccessGate", name := "<init>", desc := "()V" } : Jvm.MethodName) ∈ lw_tbl := List.mem_of_getElem? (i := 72) rfl
set_option maxRecDepth 100000 in
theorem kw28 : Jvm.Cond.instanceMethod ({ cls := "AccessGate", name := "<init>", desc := "()V" } : Jvm.MethodName) ∈ lw_tbl := List.mem_of_getElem? (i := 73) rfl
set_option maxRecDepth 100000 in
theorem kw29 : Jvm.Cond.code ({ cls := "AccessGate", name := "<init>", desc := "()V" } : Jvm.MethodName) prog_1_method_1_code (1 : Nat) (Option.none : Option Jvm.ClassFile.FieldType) ∈ lw_tbl := List.mem_of_getElem? (i := 74) rfl
set_option maxRecDepth 100000 in
theorem kw30 : Jvm.Cond.methodLink "AccessGate" (3 : Nat) ({ cls := "java/lang/Object", name := "<init>", desc := "()V" } : Jvm.MethodName) ∈ lw_tbl := List.mem_of_getElem? (i := 75) rfl
set_option maxRecDepth 100000 in
theorem kw31 : Jvm.Cond.instanceMethod ({ cls := "java/lang/Object", name := "<init>", desc := "()V" } : Jvm.MethodName) ∈ lw_tbl := List.mem_of_getElem? (i := 76) rfl
set_option maxRecDepth 100000 in
theorem kw32 : Jvm.Cond.code ({ cls := "java/lang/Object", name := "<init>", desc := "()V" } : Jvm.MethodName) object_method_1_code (1 : Nat) (Option.none : Option Jvm.ClassFile.FieldType) ∈ lw_tbl := List.mem_of_getElem? (i := 77) rfl
set_option maxRecDepth 100000 in
theorem kw33 : Jvm.Cond.classLink "AccessGate" (9 : Nat) "java/util/ArrayList" ∈ lw_tbl := List.mem_of_getElem? (i := 78) rfl
set_option maxRecDepth 100000 in
theorem kw34 : Jvm.Cond.instantiable "java/util/ArrayList" (3 : Nat) ∈ lw_tbl := List.mem_of_getElem? (i := 79) rfl
set_option maxRecDepth 100000 in
theorem kw35 : Jvm.Cond.methodLink "AccessGate" (11 : Nat) ({ cls := "java/util/ArrayList", name := "<init>", desc := "()V" } : Jvm.MethodName) ∈ lw_tbl := List.mem_of_getElem? (i := 80) rfl
set_option maxRecDepth 100000 in
theorem kw36 : Jvm.Cond.instanceMethod ({ cls := "java/util/ArrayList", name := "<init>", desc := "()V" } : Jvm.MethodName) ∈ lw_tbl := List.mem_of_getElem? (i := 81) rfl
set_option maxRecDepth 100000 in
theorem kw37 : Jvm.Cond.code ({ cls := "java/util/ArrayList", name := "<init>", desc := "()V" } : Jvm.MethodName) prog_25_method_2_code (1 : Nat) (Option.none : Option Jvm.ClassFile.FieldType) ∈ lw_tbl := List.mem_of_getElem? (i := 82) rfl
set_option maxRecDepth 100000 in
theorem kw38 : Jvm.Cond.methodLink "java/util/ArrayList" (1 : Nat) ({ cls := "java/util/AbstractList", name := "<init>", desc := "()V" } : Jvm.MethodName) ∈ lw_tbl := List.mem_of_getElem? (i := 83) rfl
set_option maxRecDepth 100000 in
theorem kw39 : Jvm.Cond.instanceMethod ({ cls := "java/util/AbstractList", name := "<init>", desc := "()V" } : Jvm.MethodName) ∈ lw_tbl := List.mem_of_getElem? (i := 84) rfl
set_option maxRecDepth 100000 in
theorem kw40 : Jvm.Cond.code ({ cls := "java/util/AbstractList", name := "<init>", desc := "()V" } : Jvm.MethodName) prog_24_method_1_code (1 : Nat) (Option.none : Option Jvm.ClassFile.FieldType) ∈ lw_tbl := List.mem_of_getElem? (i := 85) rfl
set_option maxRecDepth 100000 in
theorem kw41 : Jvm.Cond.methodLink "java/util/AbstractList" (1 : Nat) ({ cls := "java/util/AbstractCollection", name := "<init>", desc := "()V" } : Jvm.MethodName) ∈ lw_tbl := List.mem_of_getElem? (i := 86) rfl
set_option maxRecDepth 100000 in
theorem kw42 : Jvm.Cond.instanceMethod ({ cls := "java/util/AbstractCollection", name := "<init>", desc := "()V" } : Jvm.MethodName) ∈ lw_tbl := List.mem_of_getElem? (i := 87) rfl
set_option maxRecDepth 100000 in
theorem kw43 : Jvm.Cond.code ({ cls := "java/util/AbstractCollection", name := "<init>", desc := "()V" } : Jvm.MethodName) prog_23_method_1_code (1 : Nat) (Option.none : Option Jvm.ClassFile.FieldType) ∈ lw_tbl := List.mem_of_getElem? (i := 88) rfl
set_option maxRecDepth 100000 in
theorem kw44 : Jvm.Cond.methodLink "java/util/AbstractCollection" (1 : Nat) ({ cls := "java/lang/Object", name := "<init>", desc := "()V" } : Jvm.MethodName) ∈ lw_tbl := List.mem_of_getElem? (i := 89) rfl
set_option maxRecDepth 100000 in
theorem kw45 : Jvm.Cond.fieldLink "java/util/ArrayList" (39 : Nat) "java/util/ArrayList" "DEFAULTCAPACITY_EMPTY_ELEMENTDATA" "[Ljava/lang/Object;" ∈ lw_tbl := List.mem_of_getElem? (i := 90) rfl
set_option maxRecDepth 100000 in
theorem kw47 : Jvm.Cond.fieldLink "java/util/ArrayList" (9 : Nat) "java/util/ArrayList" "elementData" "[Ljava/lang/Object;" ∈ lw_tbl := List.mem_of_getElem? (i := 92) rfl
set_option maxRecDepth 100000 in
theorem kw48 : Jvm.Cond.fieldLink "java/util/ArrayList" (48 : Nat) "java/util/ArrayList" "size" "I" ∈ lw_tbl := List.mem_of_getElem? (i := 93) rfl
set_option maxRecDepth 100000 in
theorem kw49 : Jvm.Cond.fieldLink "java/util/AbstractList" (7 : Nat) "java/util/AbstractList" "modCount" "I" ∈ lw_tbl := List.mem_of_getElem? (i := 94) rfl
set_option maxRecDepth 100000 in
theorem kw50 : Jvm.Cond.fieldLink "java/util/ArrayList" (63 : Nat) "java/util/ArrayList" "modCount" "I" ∈ lw_tbl := List.mem_of_getElem? (i := 95) rfl
set_option maxRecDepth 100000 in
theorem kw51 : Jvm.Cond.sameField "java/util/ArrayList" "java/util/AbstractList" "modCount" "I" ∈ lw_tbl := List.mem_of_getElem? (i := 96) rfl
set_option maxRecDepth 100000 in
theorem kw59 : Jvm.Cond.classLink "AccessGate" (31 : Nat) "AccessGate$StepRecord" ∈ lw_tbl := List.mem_of_getElem? (i := 104) rfl
set_option maxRecDepth 100000 in
theorem kw60 : Jvm.Cond.instantiable "AccessGate$StepRecord" (4 : Nat) ∈ lw_tbl := List.mem_of_getElem? (i := 105) rfl
set_option maxRecDepth 100000 in
theorem kw61 : Jvm.Cond.methodLinkNest "AccessGate" (33 : Nat) ({ cls := "AccessGate$StepRecord", name := "<init>", desc := "()V" } : Jvm.MethodName) "AccessGate" ∈ lw_tbl := List.mem_of_getElem? (i := 106) rfl
set_option maxRecDepth 100000 in
theorem kw62 : Jvm.Cond.instanceMethod ({ cls := "AccessGate$StepRecord", name := "<init>", desc := "()V" } : Jvm.MethodName) ∈ lw_tbl := List.mem_of_getElem? (i := 107) rfl
set_option maxRecDepth 100000 in
theorem kw63 : Jvm.Cond.code ({ cls := "AccessGate$StepRecord", name := "<init>", desc := "()V" } : Jvm.MethodName) prog_8_method_1_code (1 : Nat) (Option.none : Option Jvm.ClassFile.FieldType) ∈ lw_tbl := List.mem_of_getElem? (i := 108) rfl
set_option maxRecDepth 100000 in
theorem kw64 : Jvm.Cond.methodLink "AccessGate$StepRecord" (3 : Nat) ({ cls := "java/lang/Object", name := "<init>", desc := "()V" } : Jvm.MethodName) ∈ lw_tbl := List.mem_of_getElem? (i := 109) rfl
set_option maxRecDepth 100000 in
theorem kw65 : Jvm.Cond.fieldLink "AccessGate$StepRecord" (9 : Nat) "AccessGate$StepRecord" "kinds" "[I" ∈ lw_tbl := List.mem_of_getElem? (i := 110) rfl
set_option maxRecDepth 100000 in
theorem kw66 : Jvm.Cond.fieldLinkNest "AccessGate" (248 : Nat) "AccessGate$StepRecord" "kinds" "[I" "AccessGate" ∈ lw_tbl := List.mem_of_getElem? (i := 111) rfl
set_option maxRecDepth 100000 in
theorem kw67 : Jvm.Cond.fieldLink "AccessGate$StepRecord" (15 : Nat) "AccessGate$StepRecord" "seals" "[I" ∈ lw_tbl := List.mem_of_getElem? (i := 112) rfl
set_option maxRecDepth 100000 in
theorem kw68 : Jvm.Cond.fieldLinkNest "AccessGate" (252 : Nat) "AccessGate$StepRecord" "seals" "[I" "AccessGate" ∈ lw_tbl := List.mem_of_getElem? (i := 113) rfl
set_option maxRecDepth 100000 in
theorem kw69 : Jvm.Cond.fieldLink "AccessGate$StepRecord" (18 : Nat) "AccessGate$StepRecord" "count" "I" ∈ lw_tbl := List.mem_of_getElem? (i := 114) rfl
set_option maxRecDepth 100000 in
theorem kw70 : Jvm.Cond.fieldLinkNest "AccessGate" (242 : Nat) "AccessGate$StepRecord" "count" "I" "AccessGate" ∈ lw_tbl := List.mem_of_getElem? (i := 115) rfl
set_option maxRecDepth 100000 in
theorem kw71 : Jvm.Cond.fieldLink "AccessGate$StepRecord" (22 : Nat) "AccessGate$StepRecord" "lastSeal" "I" ∈ lw_tbl := List.mem_of_getElem? (i := 116) rfl
set_option maxRecDepth 100000 in
theorem kw81 : Jvm.Cond.arrayClass Jvm.ClassFile.FieldType.int ∈ lw_tbl := List.mem_of_getElem? (i := 126) rfl
set_option maxRecDepth 100000 in
theorem kw82 : Jvm.Cond.fieldLink "AccessGate" (12 : Nat) "AccessGate" "people" "Ljava/util/ArrayList;" ∈ lw_tbl := List.mem_of_getElem? (i := 127) rfl
set_option maxRecDepth 100000 in
theorem kw83 : Jvm.Cond.fieldLink "AccessGate" (16 : Nat) "AccessGate" "machines" "Ljava/util/ArrayList;" ∈ lw_tbl := List.mem_of_getElem? (i := 128) rfl
set_option maxRecDepth 100000 in
theorem kw84 : Jvm.Cond.fieldLink "AccessGate" (19 : Nat) "AccessGate" "asks" "Ljava/util/ArrayList;" ∈ lw_tbl := List.mem_of_getElem? (i := 129) rfl
set_option maxRecDepth 100000 in
theorem kw85 : Jvm.Cond.fieldLink "AccessGate" (22 : Nat) "AccessGate" "entries" "Ljava/util/ArrayList;" ∈ lw_tbl := List.mem_of_getElem? (i := 130) rfl
set_option maxRecDepth 100000 in
theorem kw86 : Jvm.Cond.fieldLink "AccessGate" (25 : Nat) "AccessGate" "rights" "Ljava/util/ArrayList;" ∈ lw_tbl := List.mem_of_getElem? (i := 131) rfl
set_option maxRecDepth 100000 in
theorem kw87 : Jvm.Cond.fieldLink "AccessGate" (28 : Nat) "AccessGate" "sessions" "Ljava/util/ArrayList;" ∈ lw_tbl := List.mem_of_getElem? (i := 132) rfl
set_option maxRecDepth 100000 in
theorem kw88 : Jvm.Cond.fieldLink "AccessGate" (34 : Nat) "AccessGate" "record" "LAccessGate$StepRecord;" ∈ lw_tbl := List.mem_of_getElem? (i := 133) rfl
set_option maxRecDepth 100000 in
theorem kw89 : Jvm.Cond.fieldLink "AccessGate" (38 : Nat) "AccessGate" "openCount" "I" ∈ lw_tbl := List.mem_of_getElem? (i := 134) rfl
set_option maxRecDepth 100000 in
theorem kw90 : Jvm.Cond.fieldLink "AccessGate" (42 : Nat) "AccessGate" "now" "I" ∈ lw_tbl := List.mem_of_getElem? (i := 135) rfl
set_option maxRecDepth 100000 in
theorem kw110 : Jvm.Cond.methodLink "AccessGateLaw" (149 : Nat) ({ cls := "AccessGate", name := "openSessions", desc := "()I" } : Jvm.MethodName) ∈ lw_tbl := List.mem_of_getElem? (i := 155) rfl
set_option maxRecDepth 100000 in
theorem kw111 : Jvm.Cond.instanceMethod ({ cls := "AccessGate", name := "openSessions", desc := "()I" } : Jvm.MethodName) ∈ lw_tbl := List.mem_of_getElem? (i := 156) rfl
set_option maxRecDepth 100000 in
theorem kw112 : Jvm.Cond.selects "AccessGate" ({ cls := "AccessGate", name := "openSessions", desc := "()I" } : Jvm.MethodName) ({ cls := "AccessGate", name := "openSessions", desc := "()I" } : Jvm.MethodName) ∈ lw_tbl := List.mem_of_getElem? (i := 157) rfl
set_option maxRecDepth 100000 in
theorem kw113 : Jvm.Cond.code ({ cls := "AccessGate", name := "openSessions", desc := "()I" } : Jvm.MethodName) prog_1_method_19_code (1 : Nat) (Option.some Jvm.ClassFile.FieldType.int) ∈ lw_tbl := List.mem_of_getElem? (i := 158) rfl
set_option maxRecDepth 100000 in
theorem kw114 : Jvm.Cond.methodLink "AccessGateLaw" (156 : Nat) ({ cls := "AccessGate", name := "clock", desc := "()I" } : Jvm.MethodName) ∈ lw_tbl := List.mem_of_getElem? (i := 159) rfl
set_option maxRecDepth 100000 in
theorem kw115 : Jvm.Cond.instanceMethod ({ cls := "AccessGate", name := "clock", desc := "()I" } : Jvm.MethodName) ∈ lw_tbl := List.mem_of_getElem? (i := 160) rfl
set_option maxRecDepth 100000 in
theorem kw116 : Jvm.Cond.selects "AccessGate" ({ cls := "AccessGate", name := "clock", desc := "()I" } : Jvm.MethodName) ({ cls := "AccessGate", name := "clock", desc := "()I" } : Jvm.MethodName) ∈ lw_tbl := List.mem_of_getElem? (i := 161) rfl
set_option maxRecDepth 100000 in
theorem kw117 : Jvm.Cond.code ({ cls := "AccessGate", name := "clock", desc := "()I" } : Jvm.MethodName) prog_1_method_21_code (1 : Nat) (Option.some Jvm.ClassFile.FieldType.int) ∈ lw_tbl := List.mem_of_getElem? (i := 162) rfl
set_option maxRecDepth 100000 in
theorem kw118 : Jvm.Cond.methodLink "AccessGateLaw" (160 : Nat) ({ cls := "AccessGate", name := "steps", desc := "()I" } : Jvm.MethodName) ∈ lw_tbl := List.mem_of_getElem? (i := 163) rfl
set_option maxRecDepth 100000 in
theorem kw119 : Jvm.Cond.instanceMethod ({ cls := "AccessGate", name := "steps", desc := "()I" } : Jvm.MethodName) ∈ lw_tbl := List.mem_of_getElem? (i := 164) rfl
set_option maxRecDepth 100000 in
theorem kw120 : Jvm.Cond.selects "AccessGate" ({ cls := "AccessGate", name := "steps", desc := "()I" } : Jvm.MethodName) ({ cls := "AccessGate", name := "steps", desc := "()I" } : Jvm.MethodName) ∈ lw_tbl := List.mem_of_getElem? (i := 165) rfl
set_option maxRecDepth 100000 in
theorem kw121 : Jvm.Cond.code ({ cls := "AccessGate", name := "steps", desc := "()I" } : Jvm.MethodName) prog_1_method_22_code (1 : Nat) (Option.some Jvm.ClassFile.FieldType.int) ∈ lw_tbl := List.mem_of_getElem? (i := 166) rfl
set_option maxRecDepth 100000 in
theorem kw122 : Jvm.Cond.methodLink "AccessGateLaw" (87 : Nat) ({ cls := "AccessGateLaw", name := "addPerson", desc := "(LAccessGate;I[J)I" } : Jvm.MethodName) ∈ lw_tbl := List.mem_of_getElem? (i := 167) rfl
set_option maxRecDepth 100000 in
theorem kw123 : Jvm.Cond.static ({ cls := "AccessGateLaw", name := "addPerson", desc := "(LAccessGate;I[J)I" } : Jvm.MethodName) ∈ lw_tbl := List.mem_of_getElem? (i := 168) rfl
set_option maxRecDepth 100000 in
theorem kw124 : Jvm.Cond.codeWith ({ cls := "AccessGateLaw", name := "addPerson", desc := "(LAccessGate;I[J)I" } : Jvm.MethodName) method_3_code (4 : Nat) (Option.some Jvm.ClassFile.FieldType.int) [((0 : Nat), (9 : Nat), (12 : Nat), (13 : Nat)), ((0 : Nat), (9 : Nat), (15 : Nat), (15 : Nat))] ∈ lw_tbl := List.mem_of_getElem? (i := 169) rfl
set_option maxRecDepth 100000 in
theorem kw125 : Jvm.Cond.classLink "AccessGateLaw" (13 : Nat) "java/lang/IllegalArgumentException" ∈ lw_tbl := List.mem_of_getElem? (i := 170) rfl
set_option maxRecDepth 100000 in
theorem kw126 : Jvm.Cond.classLink "AccessGateLaw" (15 : Nat) "java/lang/IllegalStateException" ∈ lw_tbl := List.mem_of_getElem? (i := 171) rfl
set_option maxRecDepth 100000 in
theorem kw127 : Jvm.Cond.methodLink "AccessGateLaw" (7 : Nat) ({ cls := "AccessGate", name := "addPerson", desc := "(I)I" } : Jvm.MethodName) ∈ lw_tbl := List.mem_of_getElem? (i := 172) rfl
set_option maxRecDepth 100000 in
theorem kw128 : Jvm.Cond.instanceMethod ({ cls := "AccessGate", name := "addPerson", desc := "(I)I" } : Jvm.MethodName) ∈ lw_tbl := List.mem_of_getElem? (i := 173) rfl
set_option maxRecDepth 100000 in
theorem kw129 : Jvm.Cond.selects "AccessGate" ({ cls := "AccessGate", name := "addPerson", desc := "(I)I" } : Jvm.MethodName) ({ cls := "AccessGate", name := "addPerson", desc := "(I)I" } : Jvm.MethodName) ∈ lw_tbl := List.mem_of_getElem? (i := 174) rfl
set_option maxRecDepth 100000 in
theorem kw130 : Jvm.Cond.code ({ cls := "AccessGate", name := "addPerson", desc := "(I)I" } : Jvm.MethodName) prog_1_method_2_code (3 : Nat) (Option.some Jvm.ClassFile.FieldType.int) ∈ lw_tbl := List.mem_of_getElem? (i := 175) rfl
set_option maxRecDepth 100000 in
theorem kw131 : Jvm.Cond.classLink "AccessGate" (45 : Nat) "java/lang/IllegalArgumentException" ∈ lw_tbl := List.mem_of_getElem? (i := 176) rfl
set_option maxRecDepth 100000 in
theorem kw132 : Jvm.Cond.instantiable "java/lang/IllegalArgumentException" (6 : Nat) ∈ lw_tbl := List.mem_of_getElem? (i := 177) rfl
set_option maxRecDepth 100000 in
theorem kw133 : Jvm.Cond.castable "java/lang/IllegalArgumentException" "java/lang/IllegalArgumentException" ∈ lw_tbl := List.mem_of_getElem? (i := 178) rfl
set_option maxRecDepth 100000 in
theorem kw134 : Jvm.Cond.declares ({ cls := "java/lang/RuntimeException", name := "<init>", desc := "()V" } : Jvm.MethodName) ∈ lw_tbl := List.mem_of_getElem? (i := 179) rfl
set_option maxRecDepth 100000 in
theorem kw135 : Jvm.Cond.declares ({ cls := "java/lang/RuntimeException", name := "<init>", desc := "(Ljava/lang/String;)V" } : Jvm.MethodName) ∈ lw_tbl := List.mem_of_getElem? (i := 180) rfl
set_option maxRecDepth 100000 in
theorem kw136 : Jvm.Cond.declares ({ cls := "java/lang/Exception", name := "<init>", desc := "()V" } : Jvm.MethodName) ∈ lw_tbl := List.mem_of_getElem? (i := 181) rfl
set_option maxRecDepth 100000 in
theorem kw137 : Jvm.Cond.declares ({ cls := "java/lang/Exception", name := "<init>", desc := "(Ljava/lang/String;)V" } : Jvm.MethodName) ∈ lw_tbl := List.mem_of_getElem? (i := 182) rfl
set_option maxRecDepth 100000 in
theorem kw138 : Jvm.Cond.declares ({ cls := "java/lang/Throwable", name := "<init>", desc := "()V" } : Jvm.MethodName) ∈ lw_tbl := List.mem_of_getElem? (i := 183) rfl
set_option maxRecDepth 100000 in
theorem kw139 : Jvm.Cond.declares ({ cls := "java/lang/Throwable", name := "<init>", desc := "(Ljava/lang/String;)V" } : Jvm.MethodName) ∈ lw_tbl := List.mem_of_getElem? (i := 184) rfl
set_option maxRecDepth 100000 in
theorem kw140 : Jvm.Cond.selects "java/lang/IllegalArgumentException" ({ cls := "java/lang/Throwable", name := "fillInStackTrace", desc := "(I)Ljava/lang/Throwable;" } : Jvm.MethodName) ({ cls := "java/lang/Throwable", name := "fillInStackTrace", desc := "(I)Ljava/lang/Throwable;" } : Jvm.MethodName) ∈ lw_tbl := List.mem_of_getElem? (i := 185) rfl
set_option maxRecDepth 100000 in
theorem kw141 : Jvm.Cond.selects "java/lang/IllegalArgumentException" ({ cls := "java/lang/Throwable", name := "fillInStackTrace", desc := "()Ljava/lang/Throwable;" } : Jvm.MethodName) ({ cls := "java/lang/Throwable", name := "fillInStackTrace", desc := "()Ljava/lang/Throwable;" } : Jvm.MethodName) ∈ lw_tbl := List.mem_of_getElem? (i := 186) rfl
set_option maxRecDepth 100000 in
theorem kw152 : Jvm.Cond.fieldLink "java/lang/Throwable" (198 : Nat) "java/lang/Throwable" "backtrace" "Ljava/lang/Object;" ∈ lw_tbl := List.mem_of_getElem? (i := 197) rfl
set_option maxRecDepth 100000 in
theorem kw154 : Jvm.Cond.instanceMethod ({ cls := "java/lang/Throwable", name := "<init>", desc := "()V" } : Jvm.MethodName) ∈ lw_tbl := List.mem_of_getElem? (i := 199) rfl
set_option maxRecDepth 100000 in
theorem kw155 : Jvm.Cond.code ({ cls := "java/lang/Throwable", name := "<init>", desc := "()V" } : Jvm.MethodName) prog_22_method_1_code (1 : Nat) (Option.none : Option Jvm.ClassFile.FieldType) ∈ lw_tbl := List.mem_of_getElem? (i := 200) rfl
set_option maxRecDepth 100000 in
theorem kw156 : Jvm.Cond.methodLink "java/lang/Throwable" (1 : Nat) ({ cls := "java/lang/Object", name := "<init>", desc := "()V" } : Jvm.MethodName) ∈ lw_tbl := List.mem_of_getElem? (i := 201) rfl
set_option maxRecDepth 100000 in
theorem kw157 : Jvm.Cond.fieldLink "java/lang/Throwable" (13 : Nat) "java/lang/Throwable" "UNASSIGNED_STACK" "[Ljava/lang/StackTraceElement;" ∈ lw_tbl := List.mem_of_getElem? (i := 202) rfl
set_option maxRecDepth 100000 in
theorem kw159 : Jvm.Cond.fieldLink "java/lang/Throwable" (20 : Nat) "java/lang/Throwable" "SUPPRESSED_SENTINEL" "Ljava/util/List;" ∈ lw_tbl := List.mem_of_getElem? (i := 204) rfl
set_option maxRecDepth 100000 in
theorem kw161 : Jvm.Cond.methodLink "java/lang/Throwable" (27 : Nat) ({ cls := "java/lang/Throwable", name := "fillInStackTrace", desc := "()Ljava/lang/Throwable;" } : Jvm.MethodName) ∈ lw_tbl := List.mem_of_getElem? (i := 206) rfl
set_option maxRecDepth 100000 in
theorem kw162 : Jvm.Cond.instanceMethod ({ cls := "java/lang/Throwable", name := "fillInStackTrace", desc := "()Ljava/lang/Throwable;" } : Jvm.MethodName) ∈ lw_tbl := List.mem_of_getElem? (i := 207) rfl
set_option maxRecDepth 100000 in
theorem kw164 : Jvm.Cond.selects "java/lang/IllegalStateException" ({ cls := "java/lang/Throwable", name := "fillInStackTrace", desc := "()Ljava/lang/Throwable;" } : Jvm.MethodName) ({ cls := "java/lang/Throwable", name := "fillInStackTrace", desc := "()Ljava/lang/Throwable;" } : Jvm.MethodName) ∈ lw_tbl := List.mem_of_getElem? (i := 209) rfl
set_option maxRecDepth 100000 in
theorem kw165 : Jvm.Cond.selects "java/lang/IndexOutOfBoundsException" ({ cls := "java/lang/Throwable", name := "fillInStackTrace", desc := "()Ljava/lang/Throwable;" } : Jvm.MethodName) ({ cls := "java/lang/Throwable", name := "fillInStackTrace", desc := "()Ljava/lang/Throwable;" } : Jvm.MethodName) ∈ lw_tbl := List.mem_of_getElem? (i := 210) rfl
set_option maxRecDepth 100000 in
theorem kw167 : Jvm.Cond.methodLink "java/lang/Throwable" (202 : Nat) ({ cls := "java/lang/Throwable", name := "fillInStackTrace", desc := "(I)Ljava/lang/Throwable;" } : Jvm.MethodName) ∈ lw_tbl := List.mem_of_getElem? (i := 212) rfl
set_option maxRecDepth 100000 in
theorem kw169 : Jvm.Cond.instanceMethod ({ cls := "java/lang/Throwable", name := "fillInStackTrace", desc := "(I)Ljava/lang/Throwable;" } : Jvm.MethodName) ∈ lw_tbl := List.mem_of_getElem? (i := 214) rfl
set_option maxRecDepth 100000 in
theorem kw170 : Jvm.Cond.instantiable "java/lang/Throwable" (6 : Nat) ∈ lw_tbl := List.mem_of_getElem? (i := 215) rfl
set_option maxRecDepth 100000 in
theorem kw171 : Jvm.Cond.native ({ cls := "java/lang/Throwable", name := "fillInStackTrace", desc := "(I)Ljava/lang/Throwable;" } : Jvm.MethodName) ∈ lw_tbl := List.mem_of_getElem? (i := 216) rfl
set_option maxRecDepth 100000 in
theorem kw173 : Jvm.Cond.methodLink "AccessGate" (49 : Nat) ({ cls := "java/lang/IllegalArgumentException", name := "<init>", desc := "(Ljava/lang/String;)V" } : Jvm.MethodName) ∈ lw_tbl := List.mem_of_getElem? (i := 218) rfl
set_option maxRecDepth 100000 in
theorem kw174 : Jvm.Cond.instanceMethod ({ cls := "java/lang/IllegalArgumentException", name := "<init>", desc := "(Ljava/lang/String;)V" } : Jvm.MethodName) ∈ lw_tbl := List.mem_of_getElem? (i := 219) rfl
set_option maxRecDepth 100000 in
theorem kw175 : Jvm.Cond.code ({ cls := "java/lang/IllegalArgumentException", name := "<init>", desc := "(Ljava/lang/String;)V" } : Jvm.MethodName) prog_14_method_2_code (2 : Nat) (Option.none : Option Jvm.ClassFile.FieldType) ∈ lw_tbl := List.mem_of_getElem? (i := 220) rfl
set_option maxRecDepth 100000 in
theorem kw176 : Jvm.Cond.methodLink "java/lang/IllegalArgumentException" (7 : Nat) ({ cls := "java/lang/RuntimeException", name := "<init>", desc := "(Ljava/lang/String;)V" } : Jvm.MethodName) ∈ lw_tbl := List.mem_of_getElem? (i := 221) rfl
set_option maxRecDepth 100000 in
theorem kw177 : Jvm.Cond.instanceMethod ({ cls := "java/lang/RuntimeException", name := "<init>", desc := "(Ljava/lang/String;)V" } : Jvm.MethodName) ∈ lw_tbl := List.mem_of_getElem? (i := 222) rfl
set_option maxRecDepth 100000 in
theorem kw178 : Jvm.Cond.code ({ cls := "java/lang/RuntimeException", name := "<init>", desc := "(Ljava/lang/String;)V" } : Jvm.MethodName) prog_19_method_2_code (2 : Nat) (Option.none : Option Jvm.ClassFile.FieldType) ∈ lw_tbl := List.mem_of_getElem? (i := 223) rfl
set_option maxRecDepth 100000 in
theorem kw179 : Jvm.Cond.methodLink "java/lang/RuntimeException" (7 : Nat) ({ cls := "java/lang/Exception", name := "<init>", desc := "(Ljava/lang/String;)V" } : Jvm.MethodName) ∈ lw_tbl := List.mem_of_getElem? (i := 224) rfl
set_option maxRecDepth 100000 in
theorem kw180 : Jvm.Cond.instanceMethod ({ cls := "java/lang/Exception", name := "<init>", desc := "(Ljava/lang/String;)V" } : Jvm.MethodName) ∈ lw_tbl := List.mem_of_getElem? (i := 225) rfl
set_option maxRecDepth 100000 in
theorem kw181 : Jvm.Cond.code ({ cls := "java/lang/Exception", name := "<init>", desc := "(Ljava/lang/String;)V" } : Jvm.MethodName) prog_13_method_2_code (2 : Nat) (Option.none : Option Jvm.ClassFile.FieldType) ∈ lw_tbl := List.mem_of_getElem? (i := 226) rfl
set_option maxRecDepth 100000 in
theorem kw182 : Jvm.Cond.methodLink "java/lang/Exception" (7 : Nat) ({ cls := "java/lang/Throwable", name := "<init>", desc := "(Ljava/lang/String;)V" } : Jvm.MethodName) ∈ lw_tbl := List.mem_of_getElem? (i := 227) rfl
set_option maxRecDepth 100000 in
theorem kw183 : Jvm.Cond.instanceMethod ({ cls := "java/lang/Throwable", name := "<init>", desc := "(Ljava/lang/String;)V" } : Jvm.MethodName) ∈ lw_tbl := List.mem_of_getElem? (i := 228) rfl
set_option maxRecDepth 100000 in
theorem kw184 : Jvm.Cond.code ({ cls := "java/lang/Throwable", name := "<init>", desc := "(Ljava/lang/String;)V" } : Jvm.MethodName) prog_22_method_2_code (2 : Nat) (Option.none : Option Jvm.ClassFile.FieldType) ∈ lw_tbl := List.mem_of_getElem? (i := 229) rfl
set_option maxRecDepth 100000 in
theorem kw185 : Jvm.Cond.fieldLink "java/lang/Throwable" (198 : Nat) "java/lang/Throwable" "backtrace" "Ljava/lang/Object;" ∈ lw_tbl := List.mem_of_getElem? (i := 230) rfl
set_option maxRecDepth 100000 in
theorem kw186 : Jvm.Cond.fieldLink "java/lang/Throwable" (31 : Nat) "java/lang/Throwable" "detailMessage" "Ljava/lang/String;" ∈ lw_tbl := List.mem_of_getElem? (i := 231) rfl
set_option maxRecDepth 100000 in
theorem kw187 : Jvm.Cond.fieldLink "java/lang/Throwable" (7 : Nat) "java/lang/Throwable" "cause" "Ljava/lang/Throwable;" ∈ lw_tbl := List.mem_of_getElem? (i := 232) rfl
set_option maxRecDepth 100000 in
theorem kw188 : Jvm.Cond.fieldLink "java/lang/Throwable" (17 : Nat) "java/lang/Throwable" "stackTrace" "[Ljava/lang/StackTraceElement;" ∈ lw_tbl := List.mem_of_getElem? (i := 233) rfl
set_option maxRecDepth 100000 in
theorem kw189 : Jvm.Cond.fieldLink "java/lang/Throwable" (24 : Nat) "java/lang/Throwable" "suppressedExceptions" "Ljava/util/List;" ∈ lw_tbl := List.mem_of_getElem? (i := 234) rfl
set_option maxRecDepth 100000 in
theorem kw198 : Jvm.Cond.arrayClass Jvm.ClassFile.FieldType.byte ∈ lw_tbl := List.mem_of_getElem? (i := 243) rfl
set_option maxRecDepth 100000 in
theorem kw199 : Jvm.Cond.methodLink "AccessGate" (52 : Nat) ({ cls := "java/util/ArrayList", name := "size", desc := "()I" } : Jvm.MethodName) ∈ lw_tbl := List.mem_of_getElem? (i := 244) rfl
set_option maxRecDepth 100000 in
theorem kw200 : Jvm.Cond.instanceMethod ({ cls := "java/util/ArrayList", name := "size", desc := "()I" } : Jvm.MethodName) ∈ lw_tbl := List.mem_of_getElem? (i := 245) rfl
set_option maxRecDepth 100000 in
theorem kw201 : Jvm.Cond.selects "java/util/ArrayList" ({ cls := "java/util/ArrayList", name := "size", desc := "()I" } : Jvm.MethodName) ({ cls := "java/util/ArrayList", name := "size", desc := "()I" } : Jvm.MethodName) ∈ lw_tbl := List.mem_of_getElem? (i := 246) rfl
set_option maxRecDepth 100000 in
theorem kw202 : Jvm.Cond.code ({ cls := "java/util/ArrayList", name := "size", desc := "()I" } : Jvm.MethodName) prog_25_method_8_code (1 : Nat) (Option.some Jvm.ClassFile.FieldType.int) ∈ lw_tbl := List.mem_of_getElem? (i := 247) rfl
set_option maxRecDepth 100000 in
theorem kw203 : Jvm.Cond.classLink "AccessGate" (56 : Nat) "java/lang/IllegalStateException" ∈ lw_tbl := List.mem_of_getElem? (i := 248) rfl
set_option maxRecDepth 100000 in
theorem kw204 : Jvm.Cond.instantiable "java/lang/IllegalStateException" (6 : Nat) ∈ lw_tbl := List.mem_of_getElem? (i := 249) rfl
set_option maxRecDepth 100000 in
theorem kw205 : Jvm.Cond.castable "java/lang/IllegalStateException" "java/lang/IllegalStateException" ∈ lw_tbl := List.mem_of_getElem? (i := 250) rfl
set_option maxRecDepth 100000 in
theorem kw206 : Jvm.Cond.selects "java/lang/IllegalStateException" ({ cls := "java/lang/Throwable", name := "fillInStackTrace", desc := "(I)Ljava/lang/Throwable;" } : Jvm.MethodName) ({ cls := "java/lang/Throwable", name := "fillInStackTrace", desc := "(I)Ljava/lang/Throwable;" } : Jvm.MethodName) ∈ lw_tbl := List.mem_of_getElem? (i := 251) rfl
set_option maxRecDepth 100000 in
theorem kw213 : Jvm.Cond.methodLink "AccessGate" (60 : Nat) ({ cls := "java/lang/IllegalStateException", name := "<init>", desc := "(Ljava/lang/String;)V" } : Jvm.MethodName) ∈ lw_tbl := List.mem_of_getElem? (i := 258) rfl
set_option maxRecDepth 100000 in
theorem kw214 : Jvm.Cond.instanceMethod ({ cls := "java/lang/IllegalStateException", name := "<init>", desc := "(Ljava/lang/String;)V" } : Jvm.MethodName) ∈ lw_tbl := List.mem_of_getElem? (i := 259) rfl
set_option maxRecDepth 100000 in
theorem kw215 : Jvm.Cond.code ({ cls := "java/lang/IllegalStateException", name := "<init>", desc := "(Ljava/lang/String;)V" } : Jvm.MethodName) prog_15_method_2_code (2 : Nat) (Option.none : Option Jvm.ClassFile.FieldType) ∈ lw_tbl := List.mem_of_getElem? (i := 260) rfl
set_option maxRecDepth 100000 in
theorem kw216 : Jvm.Cond.methodLink "java/lang/IllegalStateException" (7 : Nat) ({ cls := "java/lang/RuntimeException", name := "<init>", desc := "(Ljava/lang/String;)V" } : Jvm.MethodName) ∈ lw_tbl := List.mem_of_getElem? (i := 261) rfl
set_option maxRecDepth 100000 in
theorem kw219 : Jvm.Cond.classLink "AccessGate" (61 : Nat) "AccessGate$Person" ∈ lw_tbl := List.mem_of_getElem? (i := 264) rfl
set_option maxRecDepth 100000 in
theorem kw220 : Jvm.Cond.instantiable "AccessGate$Person" (3 : Nat) ∈ lw_tbl := List.mem_of_getElem? (i := 265) rfl
set_option maxRecDepth 100000 in
theorem kw221 : Jvm.Cond.methodLinkNest "AccessGate" (63 : Nat) ({ cls := "AccessGate$Person", name := "<init>", desc := "(II)V" } : Jvm.MethodName) "AccessGate" ∈ lw_tbl := List.mem_of_getElem? (i := 266) rfl
set_option maxRecDepth 100000 in
theorem kw222 : Jvm.Cond.instanceMethod ({ cls := "AccessGate$Person", name := "<init>", desc := "(II)V" } : Jvm.MethodName) ∈ lw_tbl := List.mem_of_getElem? (i := 267) rfl
set_option maxRecDepth 100000 in
theorem kw223 : Jvm.Cond.code ({ cls := "AccessGate$Person", name := "<init>", desc := "(II)V" } : Jvm.MethodName) prog_5_method_1_code (3 : Nat) (Option.none : Option Jvm.ClassFile.FieldType) ∈ lw_tbl := List.mem_of_getElem? (i := 268) rfl
set_option maxRecDepth 100000 in
theorem kw224 : Jvm.Cond.methodLink "AccessGate$Person" (1 : Nat) ({ cls := "java/lang/Object", name := "<init>", desc := "()V" } : Jvm.MethodName) ∈ lw_tbl := List.mem_of_getElem? (i := 269) rfl
set_option maxRecDepth 100000 in
theorem kw225 : Jvm.Cond.fieldLink "AccessGate$Person" (13 : Nat) "AccessGate$Person" "number" "I" ∈ lw_tbl := List.mem_of_getElem? (i := 270) rfl
set_option maxRecDepth 100000 in
theorem kw226 : Jvm.Cond.fieldLinkNest "AccessGate$StepRecord" (25 : Nat) "AccessGate$Person" "number" "I" "AccessGate" ∈ lw_tbl := List.mem_of_getElem? (i := 271) rfl
set_option maxRecDepth 100000 in
theorem kw227 : Jvm.Cond.fieldLink "AccessGate$Person" (16 : Nat) "AccessGate$Person" "team" "I" ∈ lw_tbl := List.mem_of_getElem? (i := 272) rfl
set_option maxRecDepth 100000 in
theorem kw228 : Jvm.Cond.fieldLinkNest "AccessGate" (173 : Nat) "AccessGate$Person" "team" "I" "AccessGate" ∈ lw_tbl := List.mem_of_getElem? (i := 273) rfl
set_option maxRecDepth 100000 in
theorem kw229 : Jvm.Cond.fieldLink "AccessGate$Person" (7 : Nat) "AccessGate$Person" "labelBits" "I" ∈ lw_tbl := List.mem_of_getElem? (i := 274) rfl
set_option maxRecDepth 100000 in
theorem kw237 : Jvm.Cond.methodLink "AccessGate" (66 : Nat) ({ cls := "java/util/ArrayList", name := "add", desc := "(Ljava/lang/Object;)Z" } : Jvm.MethodName) ∈ lw_tbl := List.mem_of_getElem? (i := 282) rfl
set_option maxRecDepth 100000 in
theorem kw238 : Jvm.Cond.instanceMethod ({ cls := "java/util/ArrayList", name := "add", desc := "(Ljava/lang/Object;)Z" } : Jvm.MethodName) ∈ lw_tbl := List.mem_of_getElem? (i := 283) rfl
set_option maxRecDepth 100000 in
theorem kw239 : Jvm.Cond.selects "java/util/ArrayList" ({ cls := "java/util/ArrayList", name := "add", desc := "(Ljava/lang/Object;)Z" } : Jvm.MethodName) ({ cls := "java/util/ArrayList", name := "add", desc := "(Ljava/lang/Object;)Z" } : Jvm.MethodName) ∈ lw_tbl := List.mem_of_getElem? (i := 284) rfl
set_option maxRecDepth 100000 in
theorem kw240 : Jvm.Cond.code ({ cls := "java/util/ArrayList", name := "add", desc := "(Ljava/lang/Object;)Z" } : Jvm.MethodName) prog_25_method_25_code (2 : Nat) (Option.some Jvm.ClassFile.FieldType.boolean) ∈ lw_tbl := List.mem_of_getElem? (i := 285) rfl
set_option maxRecDepth 100000 in
theorem kw241 : Jvm.Cond.methodLink "java/util/ArrayList" (131 : Nat) ({ cls := "java/util/ArrayList", name := "add", desc := "(Ljava/lang/Object;[Ljava/lang/Object;I)V" } : Jvm.MethodName) ∈ lw_tbl := List.mem_of_getElem? (i := 286) rfl
set_option maxRecDepth 100000 in
theorem kw243 : Jvm.Cond.instanceMethod ({ cls := "java/util/ArrayList", name := "add", desc := "(Ljava/lang/Object;[Ljava/lang/Object;I)V" } : Jvm.MethodName) ∈ lw_tbl := List.mem_of_getElem? (i := 288) rfl
set_option maxRecDepth 100000 in
theorem kw244 : Jvm.Cond.code ({ cls := "java/util/ArrayList", name := "add", desc := "(Ljava/lang/Object;[Ljava/lang/Object;I)V" } : Jvm.MethodName) prog_25_method_24_code (4 : Nat) (Option.none : Option Jvm.ClassFile.FieldType) ∈ lw_tbl := List.mem_of_getElem? (i := 289) rfl
set_option maxRecDepth 100000 in
theorem kw245 : Jvm.Cond.methodLink "java/util/ArrayList" (129 : Nat) ({ cls := "java/util/ArrayList", name := "grow", desc := "()[Ljava/lang/Object;" } : Jvm.MethodName) ∈ lw_tbl := List.mem_of_getElem? (i := 290) rfl
set_option maxRecDepth 100000 in
theorem kw247 : Jvm.Cond.instanceMethod ({ cls := "java/util/ArrayList", name := "grow", desc := "()[Ljava/lang/Object;" } : Jvm.MethodName) ∈ lw_tbl := List.mem_of_getElem? (i := 292) rfl
set_option maxRecDepth 100000 in
theorem kw248 : Jvm.Cond.code ({ cls := "java/util/ArrayList", name := "grow", desc := "()[Ljava/lang/Object;" } : Jvm.MethodName) prog_25_method_7_code (1 : Nat) (Option.some (Jvm.ClassFile.FieldType.array (Jvm.ClassFile.FieldType.object "java/lang/Object"))) ∈ lw_tbl := List.mem_of_getElem? (i := 293) rfl
set_option maxRecDepth 100000 in
theorem kw249 : Jvm.Cond.methodLink "java/util/ArrayList" (69 : Nat) ({ cls := "java/util/ArrayList", name := "grow", desc := "(I)[Ljava/lang/Object;" } : Jvm.MethodName) ∈ lw_tbl := List.mem_of_getElem? (i := 294) rfl
set_option maxRecDepth 100000 in
theorem kw251 : Jvm.Cond.instanceMethod ({ cls := "java/util/ArrayList", name := "grow", desc := "(I)[Ljava/lang/Object;" } : Jvm.MethodName) ∈ lw_tbl := List.mem_of_getElem? (i := 296) rfl
set_option maxRecDepth 100000 in
theorem kw252 : Jvm.Cond.code ({ cls := "java/util/ArrayList", name := "grow", desc := "(I)[Ljava/lang/Object;" } : Jvm.MethodName) prog_25_method_6_code (4 : Nat) (Option.some (Jvm.ClassFile.FieldType.array (Jvm.ClassFile.FieldType.object "java/lang/Object"))) ∈ lw_tbl := List.mem_of_getElem? (i := 297) rfl
set_option maxRecDepth 100000 in
theorem kw253 : Jvm.Cond.methodLink "java/util/ArrayList" (73 : Nat) ({ cls := "jdk/internal/util/ArraysSupport", name := "newLength", desc := "(III)I" } : Jvm.MethodName) ∈ lw_tbl := List.mem_of_getElem? (i := 298) rfl
set_option maxRecDepth 100000 in
theorem kw254 : Jvm.Cond.static ({ cls := "jdk/internal/util/ArraysSupport", name := "newLength", desc := "(III)I" } : Jvm.MethodName) ∈ lw_tbl := List.mem_of_getElem? (i := 299) rfl
set_option maxRecDepth 100000 in
theorem kw255 : Jvm.Cond.code ({ cls := "jdk/internal/util/ArraysSupport", name := "newLength", desc := "(III)I" } : Jvm.MethodName) prog_32_method_27_code (4 : Nat) (Option.some Jvm.ClassFile.FieldType.int) ∈ lw_tbl := List.mem_of_getElem? (i := 300) rfl
set_option maxRecDepth 100000 in
theorem kw256 : Jvm.Cond.methodLink "jdk/internal/util/ArraysSupport" (194 : Nat) ({ cls := "java/lang/Math", name := "max", desc := "(II)I" } : Jvm.MethodName) ∈ lw_tbl := List.mem_of_getElem? (i := 301) rfl
set_option maxRecDepth 100000 in
theorem kw257 : Jvm.Cond.static ({ cls := "java/lang/Math", name := "max", desc := "(II)I" } : Jvm.MethodName) ∈ lw_tbl := List.mem_of_getElem? (i := 302) rfl
set_option maxRecDepth 100000 in
theorem kw258 : Jvm.Cond.code ({ cls := "java/lang/Math", name := "max", desc := "(II)I" } : Jvm.MethodName) prog_18_method_65_code (2 : Nat) (Option.some Jvm.ClassFile.FieldType.int) ∈ lw_tbl := List.mem_of_getElem? (i := 303) rfl
set_option maxRecDepth 100000 in
theorem kw259 : Jvm.Cond.constant "jdk/internal/util/ArraysSupport" (200 : Nat) (2147483639 : Int32) ∈ lw_tbl := List.mem_of_getElem? (i := 304) rfl
set_option maxRecDepth 100000 in
theorem kw260 : Jvm.Cond.methodLink "jdk/internal/util/ArraysSupport" (201 : Nat) ({ cls := "jdk/internal/util/ArraysSupport", name := "hugeLength", desc := "(II)I" } : Jvm.MethodName) ∈ lw_tbl := List.mem_of_getElem? (i := 305) rfl
set_option maxRecDepth 100000 in
theorem kw261 : Jvm.Cond.static ({ cls := "jdk/internal/util/ArraysSupport", name := "hugeLength", desc := "(II)I" } : Jvm.MethodName) ∈ lw_tbl := List.mem_of_getElem? (i := 306) rfl
set_option maxRecDepth 100000 in
theorem kw262 : Jvm.Cond.code ({ cls := "jdk/internal/util/ArraysSupport", name := "hugeLength", desc := "(II)I" } : Jvm.MethodName) prog_32_method_28_code (3 : Nat) (Option.some Jvm.ClassFile.FieldType.int) ∈ lw_tbl := List.mem_of_getElem? (i := 307) rfl
set_option maxRecDepth 100000 in
theorem kw263 : Jvm.Cond.methodLink "java/util/ArrayList" (66 : Nat) ({ cls := "java/util/Arrays", name := "copyOf", desc := "([Ljava/lang/Object;I)[Ljava/lang/Object;" } : Jvm.MethodName) ∈ lw_tbl := List.mem_of_getElem? (i := 308) rfl
set_option maxRecDepth 100000 in
theorem kw264 : Jvm.Cond.static ({ cls := "java/util/Arrays", name := "copyOf", desc := "([Ljava/lang/Object;I)[Ljava/lang/Object;" } : Jvm.MethodName) ∈ lw_tbl := List.mem_of_getElem? (i := 309) rfl
set_option maxRecDepth 100000 in
theorem kw265 : Jvm.Cond.code ({ cls := "java/util/Arrays", name := "copyOf", desc := "([Ljava/lang/Object;I)[Ljava/lang/Object;" } : Jvm.MethodName) prog_26_method_119_code (2 : Nat) (Option.some (Jvm.ClassFile.FieldType.array (Jvm.ClassFile.FieldType.object "java/lang/Object"))) ∈ lw_tbl := List.mem_of_getElem? (i := 310) rfl
set_option maxRecDepth 100000 in
theorem kw266 : Jvm.Cond.methodLink "java/util/Arrays" (86 : Nat) ({ cls := "java/lang/Object", name := "getClass", desc := "()Ljava/lang/Class;" } : Jvm.MethodName) ∈ lw_tbl := List.mem_of_getElem? (i := 311) rfl
set_option maxRecDepth 100000 in
theorem kw267 : Jvm.Cond.instanceMethod ({ cls := "java/lang/Object", name := "getClass", desc := "()Ljava/lang/Class;" } : Jvm.MethodName) ∈ lw_tbl := List.mem_of_getElem? (i := 312) rfl
set_option maxRecDepth 100000 in
theorem kw269 : Jvm.Cond.selects "AccessGate" ({ cls := "java/lang/Object", name := "getClass", desc := "()Ljava/lang/Class;" } : Jvm.MethodName) ({ cls := "java/lang/Object", name := "getClass", desc := "()Ljava/lang/Class;" } : Jvm.MethodName) ∈ lw_tbl := List.mem_of_getElem? (i := 314) rfl
set_option maxRecDepth 100000 in
theorem kw270 : Jvm.Cond.selects "AccessGate$Ask" ({ cls := "java/lang/Object", name := "getClass", desc := "()Ljava/lang/Class;" } : Jvm.MethodName) ({ cls := "java/lang/Object", name := "getClass", desc := "()Ljava/lang/Class;" } : Jvm.MethodName) ∈ lw_tbl := List.mem_of_getElem? (i := 315) rfl
set_option maxRecDepth 100000 in
theorem kw271 : Jvm.Cond.selects "AccessGate$Entry" ({ cls := "java/lang/Object", name := "getClass", desc := "()Ljava/lang/Class;" } : Jvm.MethodName) ({ cls := "java/lang/Object", name := "getClass", desc := "()Ljava/lang/Class;" } : Jvm.MethodName) ∈ lw_tbl := List.mem_of_getElem? (i := 316) rfl
set_option maxRecDepth 100000 in
theorem kw272 : Jvm.Cond.selects "AccessGate$Machine" ({ cls := "java/lang/Object", name := "getClass", desc := "()Ljava/lang/Class;" } : Jvm.MethodName) ({ cls := "java/lang/Object", name := "getClass", desc := "()Ljava/lang/Class;" } : Jvm.MethodName) ∈ lw_tbl := List.mem_of_getElem? (i := 317) rfl
set_option maxRecDepth 100000 in
theorem kw273 : Jvm.Cond.selects "AccessGate$Person" ({ cls := "java/lang/Object", name := "getClass", desc := "()Ljava/lang/Class;" } : Jvm.MethodName) ({ cls := "java/lang/Object", name := "getClass", desc := "()Ljava/lang/Class;" } : Jvm.MethodName) ∈ lw_tbl := List.mem_of_getElem? (i := 318) rfl
set_option maxRecDepth 100000 in
theorem kw274 : Jvm.Cond.selects "AccessGate$Right" ({ cls := "java/lang/Object", name := "getClass", desc := "()Ljava/lang/Class;" } : Jvm.MethodName) ({ cls := "java/lang/Object", name := "getClass", desc := "()Ljava/lang/Class;" } : Jvm.MethodName) ∈ lw_tbl := List.mem_of_getElem? (i := 319) rfl
set_option maxRecDepth 100000 in
theorem kw275 : Jvm.Cond.selects "AccessGate$Session" ({ cls := "java/lang/Object", name := "getClass", desc := "()Ljava/lang/Class;" } : Jvm.MethodName) ({ cls := "java/lang/Object", name := "getClass", desc := "()Ljava/lang/Class;" } : Jvm.MethodName) ∈ lw_tbl := List.mem_of_getElem? (i := 320) rfl
set_option maxRecDepth 100000 in
theorem kw276 : Jvm.Cond.selects "AccessGate$StepRecord" ({ cls := "java/lang/Object", name := "getClass", desc := "()Ljava/lang/Class;" } : Jvm.MethodName) ({ cls := "java/lang/Object", name := "getClass", desc := "()Ljava/lang/Class;" } : Jvm.MethodName) ∈ lw_tbl := List.mem_of_getElem? (i := 321) rfl
set_option maxRecDepth 100000 in
theorem kw277 : Jvm.Cond.selects "AccessGateModel" ({ cls := "java/lang/Object", name := "getClass", desc := "()Ljava/lang/Class;" } : Jvm.MethodName) ({ cls := "java/lang/Object", name := "getClass", desc := "()Ljava/lang/Class;" } : Jvm.MethodName) ∈ lw_tbl := List.mem_of_getElem? (i := 322) rfl
set_option maxRecDepth 100000 in
theorem kw278 : Jvm.Cond.selects "java/lang/IllegalArgumentException" ({ cls := "java/lang/Object", name := "getClass", desc := "()Ljava/lang/Class;" } : Jvm.MethodName) ({ cls := "java/lang/Object", name := "getClass", desc := "()Ljava/lang/Class;" } : Jvm.MethodName) ∈ lw_tbl := List.mem_of_getElem? (i := 323) rfl
set_option maxRecDepth 100000 in
theorem kw279 : Jvm.Cond.selects "java/lang/IllegalStateException" ({ cls := "java/lang/Object", name := "getClass", desc := "()Ljava/lang/Class;" } : Jvm.MethodName) ({ cls := "java/lang/Object", name := "getClass", desc := "()Ljava/lang/Class;" } : Jvm.MethodName) ∈ lw_tbl := List.mem_of_getElem? (i := 324) rfl
set_option maxRecDepth 100000 in
theorem kw280 : Jvm.Cond.selects "java/lang/IndexOutOfBoundsException" ({ cls := "java/lang/Object", name := "getClass", desc := "()Ljava/lang/Class;" } : Jvm.MethodName) ({ cls := "java/lang/Object", name := "getClass", desc := "()Ljava/lang/Class;" } : Jvm.MethodName) ∈ lw_tbl := List.mem_of_getElem? (i := 325) rfl
set_option maxRecDepth 100000 in
theorem kw281 : Jvm.Cond.selects "java/util/ArrayList" ({ cls := "java/lang/Object", name := "getClass", desc := "()Ljava/lang/Class;" } : Jvm.MethodName) ({ cls := "java/lang/Object", name := "getClass", desc := "()Ljava/lang/Class;" } : Jvm.MethodName) ∈ lw_tbl := List.mem_of_getElem? (i := 326) rfl
set_option maxRecDepth 100000 in
theorem kw282 : Jvm.Cond.native ({ cls := "java/lang/Object", name := "getClass", desc := "()Ljava/lang/Class;" } : Jvm.MethodName) ∈ lw_tbl := List.mem_of_getElem? (i := 327) rfl
set_option maxRecDepth 100000 in
theorem kw283 : Jvm.Cond.methodLink "java/util/Arrays" (300 : Nat) ({ cls := "java/util/Arrays", name := "copyOf", desc := "([Ljava/lang/Object;ILjava/lang/Class;)[Ljava/lang/Object;" } : Jvm.MethodName) ∈ lw_tbl := List.mem_of_getElem? (i := 328) rfl
set_option maxRecDepth 100000 in
theorem kw284 : Jvm.Cond.static ({ cls := "java/util/Arrays", name := "copyOf", desc := "([Ljava/lang/Object;ILjava/lang/Class;)[Ljava/lang/Object;" } : Jvm.MethodName) ∈ lw_tbl := List.mem_of_getElem? (i := 329) rfl
set_option maxRecDepth 100000 in
theorem kw285 : Jvm.Cond.code ({ cls := "java/util/Arrays", name := "copyOf", desc := "([Ljava/lang/Object;ILjava/lang/Class;)[Ljava/lang/Object;" } : Jvm.MethodName) prog_26_method_120_code (4 : Nat) (Option.some (Jvm.ClassFile.FieldType.array (Jvm.ClassFile.FieldType.object "java/lang/Object"))) ∈ lw_tbl := List.mem_of_getElem? (i := 330) rfl
set_option maxRecDepth 100000 in
theorem kw286 : Jvm.Cond.classLink "java/util/Arrays" (110 : Nat) "[Ljava/lang/Object;" ∈ lw_tbl := List.mem_of_getElem? (i := 331) rfl
set_option maxRecDepth 100000 in
theorem kw288 : Jvm.Cond.classLink "java/util/Arrays" (2 : Nat) "java/lang/Object" ∈ lw_tbl := List.mem_of_getElem? (i := 333) rfl
set_option maxRecDepth 100000 in
theorem kw289 : Jvm.Cond.methodLink "java/util/Arrays" (304 : Nat) ({ cls := "java/lang/Math", name := "min", desc := "(II)I" } : Jvm.MethodName) ∈ lw_tbl := List.mem_of_getElem? (i := 334) rfl
set_option maxRecDepth 100000 in
theorem kw290 : Jvm.Cond.static ({ cls := "java/lang/Math", name := "min", desc := "(II)I" } : Jvm.MethodName) ∈ lw_tbl := List.mem_of_getElem? (i := 335) rfl
set_option maxRecDepth 100000 in
theorem kw291 : Jvm.Cond.code ({ cls := "java/lang/Math", name := "min", desc := "(II)I" } : Jvm.MethodName) prog_18_method_69_code (2 : Nat) (Option.some Jvm.ClassFile.FieldType.int) ∈ lw_tbl := List.mem_of_getElem? (i := 336) rfl
set_option maxRecDepth 100000 in
theorem kw292 : Jvm.Cond.methodLink "java/util/Arrays" (150 : Nat) ({ cls := "java/lang/System", name := "arraycopy", desc := "(Ljava/lang/Object;ILjava/lang/Object;II)V" } : Jvm.MethodName) ∈ lw_tbl := List.mem_of_getElem? (i := 337) rfl
set_option maxRecDepth 100000 in
theorem kw293 : Jvm.Cond.static ({ cls := "java/lang/System", name := "arraycopy", desc := "(Ljava/lang/Object;ILjava/lang/Object;II)V" } : Jvm.MethodName) ∈ lw_tbl := List.mem_of_getElem? (i := 338) rfl
set_option maxRecDepth 100000 in
theorem kw294 : Jvm.Cond.native ({ cls := "java/lang/System", name := "arraycopy", desc := "(Ljava/lang/Object;ILjava/lang/Object;II)V" } : Jvm.MethodName) ∈ lw_tbl := List.mem_of_getElem? (i := 339) rfl
set_option maxRecDepth 100000 in
theorem kw295 : Jvm.Cond.methodLink "java/util/ArrayList" (79 : Nat) ({ cls := "java/lang/Math", name := "max", desc := "(II)I" } : Jvm.MethodName) ∈ lw_tbl := List.mem_of_getElem? (i := 340) rfl
set_option maxRecDepth 100000 in
theorem kw296 : Jvm.Cond.classLink "java/util/ArrayList" (7 : Nat) "java/lang/Object" ∈ lw_tbl := List.mem_of_getElem? (i := 341) rfl
set_option maxRecDepth 100000 in
theorem kw297 : Jvm.Cond.methodLink "AccessGateLaw" (97 : Nat) ({ cls := "AccessGateLaw", name := "addMachine", desc := "(LAccessGate;I[J)I" } : Jvm.MethodName) ∈ lw_tbl := List.mem_of_getElem? (i := 342) rfl
set_option maxRecDepth 100000 in
theorem kw298 : Jvm.Cond.static ({ cls := "AccessGateLaw", name := "addMachine", desc := "(LAccessGate;I[J)I" } : Jvm.MethodName) ∈ lw_tbl := List.mem_of_getElem? (i := 343) rfl
set_option maxRecDepth 100000 in
theorem kw299 : Jvm.Cond.codeWith ({ cls := "AccessGateLaw", name := "addMachine", desc := "(LAccessGate;I[J)I" } : Jvm.MethodName) method_4_code (4 : Nat) (Option.some Jvm.ClassFile.FieldType.int) [((0 : Nat), (9 : Nat), (12 : Nat), (13 : Nat)), ((0 : Nat), (9 : Nat), (15 : Nat), (15 : Nat))] ∈ lw_tbl := List.mem_of_getElem? (i := 344) rfl
set_option maxRecDepth 100000 in
theorem kw300 : Jvm.Cond.methodLink "AccessGateLaw" (17 : Nat) ({ cls := "AccessGate", name := "addMachine", desc := "(I)I" } : Jvm.MethodName) ∈ lw_tbl := List.mem_of_getElem? (i := 345) rfl
set_option maxRecDepth 100000 in
theorem kw301 : Jvm.Cond.instanceMethod ({ cls := "AccessGate", name := "addMachine", desc := "(I)I" } : Jvm.MethodName) ∈ lw_tbl := List.mem_of_getElem? (i := 346) rfl
set_option maxRecDepth 100000 in
theorem kw302 : Jvm.Cond.selects "AccessGate" ({ cls := "AccessGate", name := "addMachine", desc := "(I)I" } : Jvm.MethodName) ({ cls := "AccessGate", name := "addMachine", desc := "(I)I" } : Jvm.MethodName) ∈ lw_tbl := List.mem_of_getElem? (i := 347) rfl
set_option maxRecDepth 100000 in
theorem kw303 : Jvm.Cond.code ({ cls := "AccessGate", name := "addMachine", desc := "(I)I" } : Jvm.MethodName) prog_1_method_3_code (3 : Nat) (Option.some Jvm.ClassFile.FieldType.int) ∈ lw_tbl := List.mem_of_getElem? (i := 348) rfl
set_option maxRecDepth 100000 in
theorem kw304 : Jvm.Cond.methodLink "AccessGate" (70 : Nat) ({ cls := "AccessGate", name := "requireLabel", desc := "(I)V" } : Jvm.MethodName) ∈ lw_tbl := List.mem_of_getElem? (i := 349) rfl
set_option maxRecDepth 100000 in
theorem kw305 : Jvm.Cond.static ({ cls := "AccessGate", name := "requireLabel", desc := "(I)V" } : Jvm.MethodName) ∈ lw_tbl := List.mem_of_getElem? (i := 350) rfl
set_option maxRecDepth 100000 in
theorem kw306 : Jvm.Cond.code ({ cls := "AccessGate", name := "requireLabel", desc := "(I)V" } : Jvm.MethodName) prog_1_method_31_code (1 : Nat) (Option.none : Option Jvm.ClassFile.FieldType) ∈ lw_tbl := List.mem_of_getElem? (i := 351) rfl
set_option maxRecDepth 100000 in
theorem kw309 : Jvm.Cond.classLink "AccessGate" (76 : Nat) "AccessGate$Machine" ∈ lw_tbl := List.mem_of_getElem? (i := 354) rfl
set_option maxRecDepth 100000 in
theorem kw310 : Jvm.Cond.instantiable "AccessGate$Machine" (2 : Nat) ∈ lw_tbl := List.mem_of_getElem? (i := 355) rfl
set_option maxRecDepth 100000 in
theorem kw311 : Jvm.Cond.methodLinkNest "AccessGate" (78 : Nat) ({ cls := "AccessGate$Machine", name := "<init>", desc := "(II)V" } : Jvm.MethodName) "AccessGate" ∈ lw_tbl := List.mem_of_getElem? (i := 356) rfl
set_option maxRecDepth 100000 in
theorem kw312 : Jvm.Cond.instanceMethod ({ cls := "AccessGate$Machine", name := "<init>", desc := "(II)V" } : Jvm.MethodName) ∈ lw_tbl := List.mem_of_getElem? (i := 357) rfl
set_option maxRecDepth 100000 in
theorem kw313 : Jvm.Cond.code ({ cls := "AccessGate$Machine", name := "<init>", desc := "(II)V" } : Jvm.MethodName) prog_4_method_1_code (3 : Nat) (Option.none : Option Jvm.ClassFile.FieldType) ∈ lw_tbl := List.mem_of_getElem? (i := 358) rfl
set_option maxRecDepth 100000 in
theorem kw314 : Jvm.Cond.methodLink "AccessGate$Machine" (1 : Nat) ({ cls := "java/lang/Object", name := "<init>", desc := "()V" } : Jvm.MethodName) ∈ lw_tbl := List.mem_of_getElem? (i := 359) rfl
set_option maxRecDepth 100000 in
theorem kw315 : Jvm.Cond.fieldLink "AccessGate$Machine" (7 : Nat) "AccessGate$Machine" "number" "I" ∈ lw_tbl := List.mem_of_getElem? (i := 360) rfl
set_option maxRecDepth 100000 in
theorem kw316 : Jvm.Cond.fieldLinkNest "AccessGate$StepRecord" (30 : Nat) "AccessGate$Machine" "number" "I" "AccessGate" ∈ lw_tbl := List.mem_of_getElem? (i := 361) rfl
set_option maxRecDepth 100000 in
theorem kw317 : Jvm.Cond.fieldLink "AccessGate$Machine" (13 : Nat) "AccessGate$Machine" "label" "I" ∈ lw_tbl := List.mem_of_getElem? (i := 362) rfl
set_option maxRecDepth 100000 in
theorem kw318 : Jvm.Cond.fieldLinkNest "AccessGate$Person" (19 : Nat) "AccessGate$Machine" "label" "I" "AccessGate" ∈ lw_tbl := List.mem_of_getElem? (i := 363) rfl
set_option maxRecDepth 100000 in
theorem kw319 : Jvm.Cond.fieldLinkNest "AccessGate" (91 : Nat) "AccessGate$Machine" "label" "I" "AccessGate" ∈ lw_tbl := List.mem_of_getElem? (i := 364) rfl
set_option maxRecDepth 100000 in
theorem kw325 : Jvm.Cond.methodLink "AccessGateLaw" (100 : Nat) ({ cls := "AccessGateLaw", name := "setLabel", desc := "(LAccessGate;IIZ[J)I" } : Jvm.MethodName) ∈ lw_tbl := List.mem_of_getElem? (i := 370) rfl
set_option maxRecDepth 100000 in
theorem kw326 : Jvm.Cond.static ({ cls := "AccessGateLaw", name := "setLabel", desc := "(LAccessGate;IIZ[J)I" } : Jvm.MethodName) ∈ lw_tbl := List.mem_of_getElem? (i := 371) rfl
set_option maxRecDepth 100000 in
theorem kw327 : Jvm.Cond.codeWith ({ cls := "AccessGateLaw", name := "setLabel", desc := "(LAccessGate;IIZ[J)I" } : Jvm.MethodName) method_5_code (6 : Nat) (Option.some Jvm.ClassFile.FieldType.int) [((0 : Nat), (12 : Nat), (15 : Nat), (24 : Nat)), ((0 : Nat), (12 : Nat), (19 : Nat), (13 : Nat))] ∈ lw_tbl := List.mem_of_getElem? (i := 372) rfl
set_option maxRecDepth 100000 in
theorem kw328 : Jvm.Cond.classLink "AccessGateLaw" (24 : Nat) "java/lang/IndexOutOfBoundsException" ∈ lw_tbl := List.mem_of_getElem? (i := 373) rfl
set_option maxRecDepth 100000 in
theorem kw329 : Jvm.Cond.methodLink "AccessGateLaw" (20 : Nat) ({ cls := "AccessGate", name := "setLabel", desc := "(IIZ)I" } : Jvm.MethodName) ∈ lw_tbl := List.mem_of_getElem? (i := 374) rfl
set_option maxRecDepth 100000 in
theorem kw330 : Jvm.Cond.instanceMethod ({ cls := "AccessGate", name := "setLabel", desc := "(IIZ)I" } : Jvm.MethodName) ∈ lw_tbl := List.mem_of_getElem? (i := 375) rfl
set_option maxRecDepth 100000 in
theorem kw331 : Jvm.Cond.selects "AccessGate" ({ cls := "AccessGate", name := "setLabel", desc := "(IIZ)I" } : Jvm.MethodName) ({ cls := "AccessGate", name := "setLabel", desc := "(IIZ)I" } : Jvm.MethodName) ∈ lw_tbl := List.mem_of_getElem? (i := 376) rfl
set_option maxRecDepth 100000 in
theorem kw332 : Jvm.Cond.code ({ cls := "AccessGate", name := "setLabel", desc := "(IIZ)I" } : Jvm.MethodName) prog_1_method_4_code (7 : Nat) (Option.some Jvm.ClassFile.FieldType.int) ∈ lw_tbl := List.mem_of_getElem? (i := 377) rfl
set_option maxRecDepth 100000 in
theorem kw333 : Jvm.Cond.methodLink "AccessGate" (79 : Nat) ({ cls := "AccessGate", name := "personAt", desc := "(I)LAccessGate$Person;" } : Jvm.MethodName) ∈ lw_tbl := List.mem_of_getElem? (i := 378) rfl
set_option maxRecDepth 100000 in
theorem kw335 : Jvm.Cond.instanceMethod ({ cls := "AccessGate", name := "personAt", desc := "(I)LAccessGate$Person;" } : Jvm.MethodName) ∈ lw_tbl := List.mem_of_getElem? (i := 380) rfl
set_option maxRecDepth 100000 in
theorem kw336 : Jvm.Cond.code ({ cls := "AccessGate", name := "personAt", desc := "(I)LAccessGate$Person;" } : Jvm.MethodName) prog_1_method_25_code (2 : Nat) (Option.some (Jvm.ClassFile.FieldType.object "AccessGate$Person")) ∈ lw_tbl := List.mem_of_getElem? (i := 381) rfl
set_option maxRecDepth 100000 in
theorem kw337 : Jvm.Cond.classLink "AccessGate" (255 : Nat) "java/lang/IndexOutOfBoundsException" ∈ lw_tbl := List.mem_of_getElem? (i := 382) rfl
set_option maxRecDepth 100000 in
theorem kw338 : Jvm.Cond.instantiable "java/lang/IndexOutOfBoundsException" (6 : Nat) ∈ lw_tbl := List.mem_of_getElem? (i := 383) rfl
set_option maxRecDepth 100000 in
theorem kw339 : Jvm.Cond.castable "java/lang/IndexOutOfBoundsException" "java/lang/IndexOutOfBoundsException" ∈ lw_tbl := List.mem_of_getElem? (i := 384) rfl
set_option maxRecDepth 100000 in
theorem kw340 : Jvm.Cond.selects "java/lang/IndexOutOfBoundsException" ({ cls := "java/lang/Throwable", name := "fillInStackTrace", desc := "(I)Ljava/lang/Throwable;" } : Jvm.MethodName) ({ cls := "java/lang/Throwable", name := "fillInStackTrace", desc := "(I)Ljava/lang/Throwable;" } : Jvm.MethodName) ∈ lw_tbl := List.mem_of_getElem? (i := 385) rfl
set_option maxRecDepth 100000 in
theorem kw347 : Jvm.Cond.methodLink "AccessGate" (259 : Nat) ({ cls := "java/lang/IndexOutOfBoundsException", name := "<init>", desc := "(Ljava/lang/String;)V" } : Jvm.MethodName) ∈ lw_tbl := List.mem_of_getElem? (i := 392) rfl
set_option maxRecDepth 100000 in
theorem kw348 : Jvm.Cond.instanceMethod ({ cls := "java/lang/IndexOutOfBoundsException", name := "<init>", desc := "(Ljava/lang/String;)V" } : Jvm.MethodName) ∈ lw_tbl := List.mem_of_getElem? (i := 393) rfl
set_option maxRecDepth 100000 in
theorem kw349 : Jvm.Cond.code ({ cls := "java/lang/IndexOutOfBoundsException", name := "<init>", desc := "(Ljava/lang/String;)V" } : Jvm.MethodName) prog_16_method_2_code (2 : Nat) (Option.none : Option Jvm.ClassFile.FieldType) ∈ lw_tbl := List.mem_of_getElem? (i := 394) rfl
set_option maxRecDepth 100000 in
theorem kw350 : Jvm.Cond.methodLink "java/lang/IndexOutOfBoundsException" (7 : Nat) ({ cls := "java/lang/RuntimeException", name := "<init>", desc := "(Ljava/lang/String;)V" } : Jvm.MethodName) ∈ lw_tbl := List.mem_of_getElem? (i := 395) rfl
set_option maxRecDepth 100000 in
theorem kw353 : Jvm.Cond.methodLink "AccessGate" (87 : Nat) ({ cls := "java/util/ArrayList", name := "get", desc := "(I)Ljava/lang/Object;" } : Jvm.MethodName) ∈ lw_tbl := List.mem_of_getElem? (i := 398) rfl
set_option maxRecDepth 100000 in
theorem kw354 : Jvm.Cond.instanceMethod ({ cls := "java/util/ArrayList", name := "get", desc := "(I)Ljava/lang/Object;" } : Jvm.MethodName) ∈ lw_tbl := List.mem_of_getElem? (i := 399) rfl
set_option maxRecDepth 100000 in
theorem kw355 : Jvm.Cond.selects "java/util/ArrayList" ({ cls := "java/util/ArrayList", name := "get", desc := "(I)Ljava/lang/Object;" } : Jvm.MethodName) ({ cls := "java/util/ArrayList", name := "get", desc := "(I)Ljava/lang/Object;" } : Jvm.MethodName) ∈ lw_tbl := List.mem_of_getElem? (i := 400) rfl
set_option maxRecDepth 100000 in
theorem kw356 : Jvm.Cond.code ({ cls := "java/util/ArrayList", name := "get", desc := "(I)Ljava/lang/Object;" } : Jvm.MethodName) prog_25_method_20_code (2 : Nat) (Option.some (Jvm.ClassFile.FieldType.object "java/lang/Object")) ∈ lw_tbl := List.mem_of_getElem? (i := 401) rfl
set_option maxRecDepth 100000 in
theorem kw357 : Jvm.Cond.methodLink "java/util/ArrayList" (118 : Nat) ({ cls := "java/util/Objects", name := "checkIndex", desc := "(II)I" } : Jvm.MethodName) ∈ lw_tbl := List.mem_of_getElem? (i := 402) rfl
set_option maxRecDepth 100000 in
theorem kw358 : Jvm.Cond.static ({ cls := "java/util/Objects", name := "checkIndex", desc := "(II)I" } : Jvm.MethodName) ∈ lw_tbl := List.mem_of_getElem? (i := 403) rfl
set_option maxRecDepth 100000 in
theorem kw359 : Jvm.Cond.code ({ cls := "java/util/Objects", name := "checkIndex", desc := "(II)I" } : Jvm.MethodName) prog_29_method_17_code (2 : Nat) (Option.some Jvm.ClassFile.FieldType.int) ∈ lw_tbl := List.mem_of_getElem? (i := 404) rfl
set_option maxRecDepth 100000 in
theorem kw360 : Jvm.Cond.methodLink "java/util/Objects" (105 : Nat) ({ cls := "jdk/internal/util/Preconditions", name := "checkIndex", desc := "(IILjava/util/function/BiFunction;)I" } : Jvm.MethodName) ∈ lw_tbl := List.mem_of_getElem? (i := 405) rfl
set_option maxRecDepth 100000 in
theorem kw361 : Jvm.Cond.static ({ cls := "jdk/internal/util/Preconditions", name := "checkIndex", desc := "(IILjava/util/function/BiFunction;)I" } : Jvm.MethodName) ∈ lw_tbl := List.mem_of_getElem? (i := 406) rfl
set_option maxRecDepth 100000 in
theorem kw362 : Jvm.Cond.code ({ cls := "jdk/internal/util/Preconditions", name := "checkIndex", desc := "(IILjava/util/function/BiFunction;)I" } : Jvm.MethodName) prog_33_method_11_code (3 : Nat) (Option.some Jvm.ClassFile.FieldType.int) ∈ lw_tbl := List.mem_of_getElem? (i := 407) rfl
set_option maxRecDepth 100000 in
theorem kw363 : Jvm.Cond.methodLink "java/util/ArrayList" (123 : Nat) ({ cls := "java/util/ArrayList", name := "elementData", desc := "(I)Ljava/lang/Object;" } : Jvm.MethodName) ∈ lw_tbl := List.mem_of_getElem? (i := 408) rfl
set_option maxRecDepth 100000 in
theorem kw364 : Jvm.Cond.instanceMethod ({ cls := "java/util/ArrayList", name := "elementData", desc := "(I)Ljava/lang/Object;" } : Jvm.MethodName) ∈ lw_tbl := List.mem_of_getElem? (i := 409) rfl
set_option maxRecDepth 100000 in
theorem kw365 : Jvm.Cond.selects "java/util/ArrayList" ({ cls := "java/util/ArrayList", name := "elementData", desc := "(I)Ljava/lang/Object;" } : Jvm.MethodName) ({ cls := "java/util/ArrayList", name := "elementData", desc := "(I)Ljava/lang/Object;" } : Jvm.MethodName) ∈ lw_tbl := List.mem_of_getElem? (i := 410) rfl
set_option maxRecDepth 100000 in
theorem kw366 : Jvm.Cond.code ({ cls := "java/util/ArrayList", name := "elementData", desc := "(I)Ljava/lang/Object;" } : Jvm.MethodName) prog_25_method_18_code (2 : Nat) (Option.some (Jvm.ClassFile.FieldType.object "java/lang/Object")) ∈ lw_tbl := List.mem_of_getElem? (i := 411) rfl
set_option maxRecDepth 100000 in
theorem kw367 : Jvm.Cond.methodLinkNest "AccessGate" (83 : Nat) ({ cls := "AccessGate$Person", name := "keepLabel", desc := "(IZ)V" } : Jvm.MethodName) "AccessGate" ∈ lw_tbl := List.mem_of_getElem? (i := 412) rfl
set_option maxRecDepth 100000 in
theorem kw369 : Jvm.Cond.instanceMethod ({ cls := "AccessGate$Person", name := "keepLabel", desc := "(IZ)V" } : Jvm.MethodName) ∈ lw_tbl := List.mem_of_getElem? (i := 414) rfl
set_option maxRecDepth 100000 in
theorem kw370 : Jvm.Cond.code ({ cls := "AccessGate$Person", name := "keepLabel", desc := "(IZ)V" } : Jvm.MethodName) prog_5_method_3_code (4 : Nat) (Option.none : Option Jvm.ClassFile.FieldType) ∈ lw_tbl := List.mem_of_getElem? (i := 415) rfl
set_option maxRecDepth 100000 in
theorem kw371 : Jvm.Cond.methodLink "AccessGate" (94 : Nat) ({ cls := "AccessGate", name := "endRights", desc := "(LAccessGate$Person;LAccessGate$Machine;)V" } : Jvm.MethodName) ∈ lw_tbl := List.mem_of_getElem? (i := 416) rfl
set_option maxRecDepth 100000 in
theorem kw373 : Jvm.Cond.instanceMethod ({ cls := "AccessGate", name := "endRights", desc := "(LAccessGate$Person;LAccessGate$Machine;)V" } : Jvm.MethodName) ∈ lw_tbl := List.mem_of_getElem? (i := 418) rfl
set_option maxRecDepth 100000 in
theorem kw374 : Jvm.Cond.code ({ cls := "AccessGate", name := "endRights", desc := "(LAccessGate$Person;LAccessGate$Machine;)V" } : Jvm.MethodName) prog_1_method_38_code (5 : Nat) (Option.none : Option Jvm.ClassFile.FieldType) ∈ lw_tbl := List.mem_of_getElem? (i := 419) rfl
set_option maxRecDepth 100000 in
theorem kw375 : Jvm.Cond.classLink "AccessGate" (145 : Nat) "AccessGate$Right" ∈ lw_tbl := List.mem_of_getElem? (i := 420) rfl
set_option maxRecDepth 100000 in
theorem kw376 : Jvm.Cond.methodLinkNest "AccessGate" (293 : Nat) ({ cls := "AccessGate$Right", name := "holdsAt", desc := "(I)Z" } : Jvm.MethodName) "AccessGate" ∈ lw_tbl := List.mem_of_getElem? (i := 421) rfl
set_option maxRecDepth 100000 in
theorem kw378 : Jvm.Cond.instanceMethod ({ cls := "AccessGate$Right", name := "holdsAt", desc := "(I)Z" } : Jvm.MethodName) ∈ lw_tbl := List.mem_of_getElem? (i := 423) rfl
set_option maxRecDepth 100000 in
theorem kw379 : Jvm.Cond.instantiable "AccessGate$Right" (4 : Nat) ∈ lw_tbl := List.mem_of_getElem? (i := 424) rfl
set_option maxRecDepth 100000 in
theorem kw380 : Jvm.Cond.code ({ cls := "AccessGate$Right", name := "holdsAt", desc := "(I)Z" } : Jvm.MethodName) prog_6_method_2_code (2 : Nat) (Option.some Jvm.ClassFile.FieldType.boolean) ∈ lw_tbl := List.mem_of_getElem? (i := 425) rfl
set_option maxRecDepth 100000 in
theorem kw381 : Jvm.Cond.methodLink "AccessGate" (98 : Nat) ({ cls := "AccessGate", name := "denyWaitingAsks", desc := "(LAccessGate$Person;LAccessGate$Machine;)V" } : Jvm.MethodName) ∈ lw_tbl := List.mem_of_getElem? (i := 426) rfl
set_option maxRecDepth 100000 in
theorem kw383 : Jvm.Cond.instanceMethod ({ cls := "AccessGate", name := "denyWaitingAsks", desc := "(LAccessGate$Person;LAccessGate$Machine;)V" } : Jvm.MethodName) ∈ lw_tbl := List.mem_of_getElem? (i := 428) rfl
set_option maxRecDepth 100000 in
theorem kw384 : Jvm.Cond.code ({ cls := "AccessGate", name := "denyWaitingAsks", desc := "(LAccessGate$Person;LAccessGate$Machine;)V" } : Jvm.MethodName) prog_1_method_39_code (5 : Nat) (Option.none : Option Jvm.ClassFile.FieldType) ∈ lw_tbl := List.mem_of_getElem? (i := 429) rfl
set_option maxRecDepth 100000 in
theorem kw385 : Jvm.Cond.classLink "AccessGate" (116 : Nat) "AccessGate$Ask" ∈ lw_tbl := List.mem_of_getElem? (i := 430) rfl
set_option maxRecDepth 100000 in
theorem kw386 : Jvm.Cond.methodLinkNest "AccessGate" (154 : Nat) ({ cls := "AccessGate$Ask", name := "stateAt", desc := "(I)I" } : Jvm.MethodName) "AccessGate" ∈ lw_tbl := List.mem_of_getElem? (i := 431) rfl
set_option maxRecDepth 100000 in
theorem kw388 : Jvm.Cond.instanceMethod ({ cls := "AccessGate$Ask", name := "stateAt", desc := "(I)I" } : Jvm.MethodName) ∈ lw_tbl := List.mem_of_getElem? (i := 433) rfl
set_option maxRecDepth 100000 in
theorem kw389 : Jvm.Cond.instantiable "AccessGate$Ask" (6 : Nat) ∈ lw_tbl := List.mem_of_getElem? (i := 434) rfl
set_option maxRecDepth 100000 in
theorem kw390 : Jvm.Cond.code ({ cls := "AccessGate$Ask", name := "stateAt", desc := "(I)I" } : Jvm.MethodName) prog_2_method_2_code (2 : Nat) (Option.some Jvm.ClassFile.FieldType.int) ∈ lw_tbl := List.mem_of_getElem? (i := 435) rfl
set_option maxRecDepth 100000 in
theorem kw391 : Jvm.Cond.methodLink "AccessGate" (101 : Nat) ({ cls := "AccessGate", name := "closeEndedSessions", desc := "()I" } : Jvm.MethodName) ∈ lw_tbl := List.mem_of_getElem? (i := 436) rfl
set_option maxRecDepth 100000 in
theorem kw393 : Jvm.Cond.instanceMethod ({ cls := "AccessGate", name := "closeEndedSessions", desc := "()I" } : Jvm.MethodName) ∈ lw_tbl := List.mem_of_getElem? (i := 438) rfl
set_option maxRecDepth 100000 in
theorem kw394 : Jvm.Cond.code ({ cls := "AccessGate", name := "closeEndedSessions", desc := "()I" } : Jvm.MethodName) prog_1_method_40_code (4 : Nat) (Option.some Jvm.ClassFile.FieldType.int) ∈ lw_tbl := List.mem_of_getElem? (i := 439) rfl
set_option maxRecDepth 100000 in
theorem kw395 : Jvm.Cond.classLink "AccessGate" (196 : Nat) "AccessGate$Session" ∈ lw_tbl := List.mem_of_getElem? (i := 440) rfl
set_option maxRecDepth 100000 in
theorem kw396 : Jvm.Cond.methodLinkNest "AccessGate" (299 : Nat) ({ cls := "AccessGate$Session", name := "restsAt", desc := "(I)Z" } : Jvm.MethodName) "AccessGate" ∈ lw_tbl := List.mem_of_getElem? (i := 441) rfl
set_option maxRecDepth 100000 in
theorem kw398 : Jvm.Cond.instanceMethod ({ cls := "AccessGate$Session", name := "restsAt", desc := "(I)Z" } : Jvm.MethodName) ∈ lw_tbl := List.mem_of_getElem? (i := 443) rfl
set_option maxRecDepth 100000 in
theorem kw399 : Jvm.Cond.instantiable "AccessGate$Session" (6 : Nat) ∈ lw_tbl := List.mem_of_getElem? (i := 444) rfl
set_option maxRecDepth 100000 in
theorem kw400 : Jvm.Cond.code ({ cls := "AccessGate$Session", name := "restsAt", desc := "(I)Z" } : Jvm.MethodName) prog_7_method_3_code (2 : Nat) (Option.some Jvm.ClassFile.FieldType.boolean) ∈ lw_tbl := List.mem_of_getElem? (i := 445) rfl
set_option maxRecDepth 100000 in
theorem kw401 : Jvm.Cond.methodLink "AccessGate" (190 : Nat) ({ cls := "AccessGate", name := "rightHolds", desc := "(LAccessGate$Person;LAccessGate$Machine;I)Z" } : Jvm.MethodName) ∈ lw_tbl := List.mem_of_getElem? (i := 446) rfl
set_option maxRecDepth 100000 in
theorem kw403 : Jvm.Cond.instanceMethod ({ cls := "AccessGate", name := "rightHolds", desc := "(LAccessGate$Person;LAccessGate$Machine;I)Z" } : Jvm.MethodName) ∈ lw_tbl := List.mem_of_getElem? (i := 448) rfl
set_option maxRecDepth 100000 in
theorem kw404 : Jvm.Cond.code ({ cls := "AccessGate", name := "rightHolds", desc := "(LAccessGate$Person;LAccessGate$Machine;I)Z" } : Jvm.MethodName) prog_1_method_37_code (6 : Nat) (Option.some Jvm.ClassFile.FieldType.boolean) ∈ lw_tbl := List.mem_of_getElem? (i := 449) rfl
set_option maxRecDepth 100000 in
theorem kw405 : Jvm.Cond.methodLink "AccessGate" (234 : Nat) ({ cls := "AccessGate", name := "endSession", desc := "(LAccessGate$Session;)V" } : Jvm.MethodName) ∈ lw_tbl := List.mem_of_getElem? (i := 450) rfl
set_option maxRecDepth 100000 in
theorem kw407 : Jvm.Cond.instanceMethod ({ cls := "AccessGate", name := "endSession", desc := "(LAccessGate$Session;)V" } : Jvm.MethodName) ∈ lw_tbl := List.mem_of_getElem? (i := 452) rfl
set_option maxRecDepth 100000 in
theorem kw408 : Jvm.Cond.code ({ cls := "AccessGate", name := "endSession", desc := "(LAccessGate$Session;)V" } : Jvm.MethodName) prog_1_method_41_code (2 : Nat) (Option.none : Option Jvm.ClassFile.FieldType) ∈ lw_tbl := List.mem_of_getElem? (i := 453) rfl
set_option maxRecDepth 100000 in
theorem kw409 : Jvm.Cond.methodLinkNest "AccessGate" (121 : Nat) ({ cls := "AccessGate$StepRecord", name := "add", desc := "(ILAccessGate$Person;LAccessGate$Machine;I)V" } : Jvm.MethodName) "AccessGate" ∈ lw_tbl := List.mem_of_getElem? (i := 454) rfl
set_option maxRecDepth 100000 in
theorem kw411 : Jvm.Cond.instanceMethod ({ cls := "AccessGate$StepRecord", name := "add", desc := "(ILAccessGate$Person;LAccessGate$Machine;I)V" } : Jvm.MethodName) ∈ lw_tbl := List.mem_of_getElem? (i := 456) rfl
set_option maxRecDepth 100000 in
theorem kw412 : Jvm.Cond.code ({ cls := "AccessGate$StepRecord", name := "add", desc := "(ILAccessGate$Person;LAccessGate$Machine;I)V" } : Jvm.MethodName) prog_8_method_2_code (5 : Nat) (Option.none : Option Jvm.ClassFile.FieldType) ∈ lw_tbl := List.mem_of_getElem? (i := 457) rfl
set_option maxRecDepth 100000 in
theorem kw413 : Jvm.Cond.constant "AccessGate$StepRecord" (33 : Nat) (1000003 : Int32) ∈ lw_tbl := List.mem_of_getElem? (i := 458) rfl
set_option maxRecDepth 100000 in
theorem kw414 : Jvm.Cond.methodLink "AccessGateLaw" (104 : Nat) ({ cls := "AccessGateLaw", name := "takeAway", desc := "(LAccessGate;II[J)I" } : Jvm.MethodName) ∈ lw_tbl := List.mem_of_getElem? (i := 459) rfl
set_option maxRecDepth 100000 in
theorem kw415 : Jvm.Cond.static ({ cls := "AccessGateLaw", name := "takeAway", desc := "(LAccessGate;II[J)I" } : Jvm.MethodName) ∈ lw_tbl := List.mem_of_getElem? (i := 460) rfl
set_option maxRecDepth 100000 in
theorem kw416 : Jvm.Cond.codeWith ({ cls := "AccessGateLaw", name := "takeAway", desc := "(LAccessGate;II[J)I" } : Jvm.MethodName) method_6_code (5 : Nat) (Option.some Jvm.ClassFile.FieldType.int) [((0 : Nat), (10 : Nat), (13 : Nat), (24 : Nat))] ∈ lw_tbl := List.mem_of_getElem? (i := 461) rfl
set_option maxRecDepth 100000 in
theorem kw417 : Jvm.Cond.methodLink "AccessGateLaw" (26 : Nat) ({ cls := "AccessGate", name := "takeAway", desc := "(II)I" } : Jvm.MethodName) ∈ lw_tbl := List.mem_of_getElem? (i := 462) rfl
set_option maxRecDepth 100000 in
theorem kw418 : Jvm.Cond.instanceMethod ({ cls := "AccessGate", name := "takeAway", desc := "(II)I" } : Jvm.MethodName) ∈ lw_tbl := List.mem_of_getElem? (i := 463) rfl
set_option maxRecDepth 100000 in
theorem kw419 : Jvm.Cond.selects "AccessGate" ({ cls := "AccessGate", name := "takeAway", desc := "(II)I" } : Jvm.MethodName) ({ cls := "AccessGate", name := "takeAway", desc := "(II)I" } : Jvm.MethodName) ∈ lw_tbl := List.mem_of_getElem? (i := 464) rfl
set_option maxRecDepth 100000 in
theorem kw420 : Jvm.Cond.code ({ cls := "AccessGate", name := "takeAway", desc := "(II)I" } : Jvm.MethodName) prog_1_method_5_code (5 : Nat) (Option.some Jvm.ClassFile.FieldType.int) ∈ lw_tbl := List.mem_of_getElem? (i := 465) rfl
set_option maxRecDepth 100000 in
theorem kw421 : Jvm.Cond.methodLink "AccessGate" (104 : Nat) ({ cls := "AccessGate", name := "machineAt", desc := "(I)LAccessGate$Machine;" } : Jvm.MethodName) ∈ lw_tbl := List.mem_of_getElem? (i := 466) rfl
set_option maxRecDepth 100000 in
theorem kw423 : Jvm.Cond.instanceMethod ({ cls := "AccessGate", name := "machineAt", desc := "(I)LAccessGate$Machine;" } : Jvm.MethodName) ∈ lw_tbl := List.mem_of_getElem? (i := 468) rfl
set_option maxRecDepth 100000 in
theorem kw424 : Jvm.Cond.code ({ cls := "AccessGate", name := "machineAt", desc := "(I)LAccessGate$Machine;" } : Jvm.MethodName) prog_1_method_26_code (2 : Nat) (Option.some (Jvm.ClassFile.FieldType.object "AccessGate$Machine")) ∈ lw_tbl := List.mem_of_getElem? (i := 469) rfl
set_option maxRecDepth 100000 in
theorem kw426 : Jvm.Cond.methodLink "AccessGateLaw" (108 : Nat) ({ cls := "AccessGateLaw", name := "ask", desc := "(LAccessGate;III[J)I" } : Jvm.MethodName) ∈ lw_tbl := List.mem_of_getElem? (i := 471) rfl
set_option maxRecDepth 100000 in
theorem kw427 : Jvm.Cond.static ({ cls := "AccessGateLaw", name := "ask", desc := "(LAccessGate;III[J)I" } : Jvm.MethodName) ∈ lw_tbl := List.mem_of_getElem? (i := 472) rfl
set_option maxRecDepth 100000 in
theorem kw428 : Jvm.Cond.codeWith ({ cls := "AccessGateLaw", name := "ask", desc := "(LAccessGate;III[J)I" } : Jvm.MethodName) method_7_code (6 : Nat) (Option.some Jvm.ClassFile.FieldType.int) [((0 : Nat), (12 : Nat), (15 : Nat), (24 : Nat)), ((0 : Nat), (12 : Nat), (19 : Nat), (13 : Nat)), ((0 : Nat), (12 : Nat), (23 : Nat), (15 : Nat))] ∈ lw_tbl := List.mem_of_getElem? (i := 473) rfl
set_option maxRecDepth 100000 in
theorem kw429 : Jvm.Cond.methodLink "AccessGateLaw" (30 : Nat) ({ cls := "AccessGate", name := "ask", desc := "(III)I" } : Jvm.MethodName) ∈ lw_tbl := List.mem_of_getElem? (i := 474) rfl
set_option maxRecDepth 100000 in
theorem kw430 : Jvm.Cond.instanceMethod ({ cls := "AccessGate", name := "ask", desc := "(III)I" } : Jvm.MethodName) ∈ lw_tbl := List.mem_of_getElem? (i := 475) rfl
set_option maxRecDepth 100000 in
theorem kw431 : Jvm.Cond.selects "AccessGate" ({ cls := "AccessGate", name := "ask", desc := "(III)I" } : Jvm.MethodName) ({ cls := "AccessGate", name := "ask", desc := "(III)I" } : Jvm.MethodName) ∈ lw_tbl := List.mem_of_getElem? (i := 476) rfl
set_option maxRecDepth 100000 in
theorem kw432 : Jvm.Cond.code ({ cls := "AccessGate", name := "ask", desc := "(III)I" } : Jvm.MethodName) prog_1_method_6_code (7 : Nat) (Option.some Jvm.ClassFile.FieldType.int) ∈ lw_tbl := List.mem_of_getElem? (i := 477) rfl
set_option maxRecDepth 100000 in
theorem kw434 : Jvm.Cond.methodLink "AccessGate" (110 : Nat) ({ cls := "AccessGate", name := "requireMayAskOrEnter", desc := "(LAccessGate$Person;LAccessGate$Machine;)V" } : Jvm.MethodName) ∈ lw_tbl := List.mem_of_getElem? (i := 479) rfl
set_option maxRecDepth 100000 in
theorem kw436 : Jvm.Cond.instanceMethod ({ cls := "AccessGate", name := "requireMayAskOrEnter", desc := "(LAccessGate$Person;LAccessGate$Machine;)V" } : Jvm.MethodName) ∈ lw_tbl := List.mem_of_getElem? (i := 481) rfl
set_option maxRecDepth 100000 in
theorem kw437 : Jvm.Cond.code ({ cls := "AccessGate", name := "requireMayAskOrEnter", desc := "(LAccessGate$Person;LAccessGate$Machine;)V" } : Jvm.MethodName) prog_1_method_34_code (3 : Nat) (Option.none : Option Jvm.ClassFile.FieldType) ∈ lw_tbl := List.mem_of_getElem? (i := 482) rfl
set_option maxRecDepth 100000 in
theorem kw438 : Jvm.Cond.methodLinkNest "AccessGate" (276 : Nat) ({ cls := "AccessGate$Person", name := "hasLabel", desc := "(I)Z" } : Jvm.MethodName) "AccessGate" ∈ lw_tbl := List.mem_of_getElem? (i := 483) rfl
set_option maxRecDepth 100000 in
theorem kw440 : Jvm.Cond.instanceMethod ({ cls := "AccessGate$Person", name := "hasLabel", desc := "(I)Z" } : Jvm.MethodName) ∈ lw_tbl := List.mem_of_getElem? (i := 485) rfl
set_option maxRecDepth 100000 in
theorem kw441 : Jvm.Cond.code ({ cls := "AccessGate$Person", name := "hasLabel", desc := "(I)Z" } : Jvm.MethodName) prog_5_method_2_code (2 : Nat) (Option.some Jvm.ClassFile.FieldType.boolean) ∈ lw_tbl := List.mem_of_getElem? (i := 486) rfl
set_option maxRecDepth 100000 in
theorem kw443 : Jvm.Cond.methodLink "AccessGate" (183 : Nat) ({ cls := "AccessGate", name := "countOverdue", desc := "(LAccessGate$Person;)I" } : Jvm.MethodName) ∈ lw_tbl := List.mem_of_getElem? (i := 488) rfl
set_option maxRecDepth 100000 in
theorem kw445 : Jvm.Cond.instanceMethod ({ cls := "AccessGate", name := "countOverdue", desc := "(LAccessGate$Person;)I" } : Jvm.MethodName) ∈ lw_tbl := List.mem_of_getElem? (i := 490) rfl
set_option maxRecDepth 100000 in
theorem kw446 : Jvm.Cond.code ({ cls := "AccessGate", name := "countOverdue", desc := "(LAccessGate$Person;)I" } : Jvm.MethodName) prog_1_method_36_code (5 : Nat) (Option.some Jvm.ClassFile.FieldType.int) ∈ lw_tbl := List.mem_of_getElem? (i := 491) rfl
set_option maxRecDepth 100000 in
theorem kw447 : Jvm.Cond.classLink "AccessGate" (158 : Nat) "AccessGate$Entry" ∈ lw_tbl := List.mem_of_getElem? (i := 492) rfl
set_option maxRecDepth 100000 in
theorem kw448 : Jvm.Cond.methodLinkNest "AccessGate" (288 : Nat) ({ cls := "AccessGate$Entry", name := "isOverdueAt", desc := "(I)Z" } : Jvm.MethodName) "AccessGate" ∈ lw_tbl := List.mem_of_getElem? (i := 493) rfl
set_option maxRecDepth 100000 in
theorem kw450 : Jvm.Cond.instanceMethod ({ cls := "AccessGate$Entry", name := "isOverdueAt", desc := "(I)Z" } : Jvm.MethodName) ∈ lw_tbl := List.mem_of_getElem? (i := 495) rfl
set_option maxRecDepth 100000 in
theorem kw451 : Jvm.Cond.instantiable "AccessGate$Entry" (4 : Nat) ∈ lw_tbl := List.mem_of_getElem? (i := 496) rfl
set_option maxRecDepth 100000 in
theorem kw452 : Jvm.Cond.code ({ cls := "AccessGate$Entry", name := "isOverdueAt", desc := "(I)Z" } : Jvm.MethodName) prog_3_method_2_code (2 : Nat) (Option.some Jvm.ClassFile.FieldType.boolean) ∈ lw_tbl := List.mem_of_getElem? (i := 497) rfl
set_option maxRecDepth 100000 in
theorem kw454 : Jvm.Cond.methodLink "AccessGate" (113 : Nat) ({ cls := "AccessGate", name := "requireRoomFor", desc := "(I)V" } : Jvm.MethodName) ∈ lw_tbl := List.mem_of_getElem? (i := 499) rfl
set_option maxRecDepth 100000 in
theorem kw455 : Jvm.Cond.static ({ cls := "AccessGate", name := "requireRoomFor", desc := "(I)V" } : Jvm.MethodName) ∈ lw_tbl := List.mem_of_getElem? (i := 500) rfl
set_option maxRecDepth 100000 in
theorem kw456 : Jvm.Cond.code ({ cls := "AccessGate", name := "requireRoomFor", desc := "(I)V" } : Jvm.MethodName) prog_1_method_32_code (1 : Nat) (Option.none : Option Jvm.ClassFile.FieldType) ∈ lw_tbl := List.mem_of_getElem? (i := 501) rfl
set_option maxRecDepth 100000 in
theorem kw458 : Jvm.Cond.methodLinkNest "AccessGate" (118 : Nat) ({ cls := "AccessGate$Ask", name := "<init>", desc := "(LAccessGate$Person;LAccessGate$Machine;II)V" } : Jvm.MethodName) "AccessGate" ∈ lw_tbl := List.mem_of_getElem? (i := 503) rfl
set_option maxRecDepth 100000 in
theorem kw459 : Jvm.Cond.instanceMethod ({ cls := "AccessGate$Ask", name := "<init>", desc := "(LAccessGate$Person;LAccessGate$Machine;II)V" } : Jvm.MethodName) ∈ lw_tbl := List.mem_of_getElem? (i := 504) rfl
set_option maxRecDepth 100000 in
theorem kw460 : Jvm.Cond.code ({ cls := "AccessGate$Ask", name := "<init>", desc := "(LAccessGate$Person;LAccessGate$Machine;II)V" } : Jvm.MethodName) prog_2_method_1_code (5 : Nat) (Option.none : Option Jvm.ClassFile.FieldType) ∈ lw_tbl := List.mem_of_getElem? (i := 505) rfl
set_option maxRecDepth 100000 in
theorem kw461 : Jvm.Cond.methodLink "AccessGate$Ask" (3 : Nat) ({ cls := "java/lang/Object", name := "<init>", desc := "()V" } : Jvm.MethodName) ∈ lw_tbl := List.mem_of_getElem? (i := 506) rfl
set_option maxRecDepth 100000 in
theorem kw462 : Jvm.Cond.fieldLink "AccessGate$Ask" (19 : Nat) "AccessGate$Ask" "who" "LAccessGate$Person;" ∈ lw_tbl := List.mem_of_getElem? (i := 507) rfl
set_option maxRecDepth 100000 in
theorem kw463 : Jvm.Cond.fieldLinkNest "AccessGate" (147 : Nat) "AccessGate$Ask" "who" "LAccessGate$Person;" "AccessGate" ∈ lw_tbl := List.mem_of_getElem? (i := 508) rfl
set_option maxRecDepth 100000 in
theorem kw464 : Jvm.Cond.fieldLink "AccessGate$Ask" (22 : Nat) "AccessGate$Ask" "where" "LAccessGate$Machine;" ∈ lw_tbl := List.mem_of_getElem? (i := 509) rfl
set_option maxRecDepth 100000 in
theorem kw465 : Jvm.Cond.fieldLinkNest "AccessGate" (138 : Nat) "AccessGate$Ask" "where" "LAccessGate$Machine;" "AccessGate" ∈ lw_tbl := List.mem_of_getElem? (i := 510) rfl
set_option maxRecDepth 100000 in
theorem kw466 : Jvm.Cond.fieldLink "AccessGate$Ask" (26 : Nat) "AccessGate$Ask" "minutes" "I" ∈ lw_tbl := List.mem_of_getElem? (i := 511) rfl
set_option maxRecDepth 100000 in
theorem kw467 : Jvm.Cond.fieldLinkNest "AccessGate" (150 : Nat) "AccessGate$Ask" "minutes" "I" "AccessGate" ∈ lw_tbl := List.mem_of_getElem? (i := 512) rfl
set_option maxRecDepth 100000 in
theorem kw468 : Jvm.Cond.fieldLink "AccessGate$Ask" (29 : Nat) "AccessGate$Ask" "time" "I" ∈ lw_tbl := List.mem_of_getElem? (i := 513) rfl
set_option maxRecDepth 100000 in
theorem kw469 : Jvm.Cond.fieldLink "AccessGate$Ask" (9 : Nat) "AccessGate$Ask" "firstApprover" "LAccessGate$Person;" ∈ lw_tbl := List.mem_of_getElem? (i := 514) rfl
set_option maxRecDepth 100000 in
theorem kw470 : Jvm.Cond.fieldLinkNest "AccessGate" (132 : Nat) "AccessGate$Ask" "firstApprover" "LAccessGate$Person;" "AccessGate" ∈ lw_tbl := List.mem_of_getElem? (i := 515) rfl
set_option maxRecDepth 100000 in
theorem kw471 : Jvm.Cond.fieldLink "AccessGate$Ask" (15 : Nat) "AccessGate$Ask" "settled" "I" ∈ lw_tbl := List.mem_of_getElem? (i := 516) rfl
set_option maxRecDepth 100000 in
theorem kw472 : Jvm.Cond.fieldLinkNest "AccessGate" (142 : Nat) "AccessGate$Ask" "settled" "I" "AccessGate" ∈ lw_tbl := List.mem_of_getElem? (i := 517) rfl
set_option maxRecDepth 100000 in
theorem kw486 : Jvm.Cond.methodLink "AccessGateLaw" (112 : Nat) ({ cls := "AccessGateLaw", name := "approve", desc := "(LAccessGate;II[J)I" } : Jvm.MethodName) ∈ lw_tbl := List.mem_of_getElem? (i := 531) rfl
set_option maxRecDepth 100000 in
theorem kw487 : Jvm.Cond.static ({ cls := "AccessGateLaw", name := "approve", desc := "(LAccessGate;II[J)I" } : Jvm.MethodName) ∈ lw_tbl := List.mem_of_getElem? (i := 532) rfl
set_option maxRecDepth 100000 in
theorem kw488 : Jvm.Cond.codeWith ({ cls := "AccessGateLaw", name := "approve", desc := "(LAccessGate;II[J)I" } : Jvm.MethodName) method_8_code (5 : Nat) (Option.some Jvm.ClassFile.FieldType.int) [((0 : Nat), (17 : Nat), (20 : Nat), (24 : Nat)), ((0 : Nat), (17 : Nat), (24 : Nat), (15 : Nat))] ∈ lw_tbl := List.mem_of_getElem? (i := 533) rfl
set_option maxRecDepth 100000 in
theorem kw489 : Jvm.Cond.methodLink "AccessGateLaw" (34 : Nat) ({ cls := "AccessGate", name := "approve", desc := "(II)Z" } : Jvm.MethodName) ∈ lw_tbl := List.mem_of_getElem? (i := 534) rfl
set_option maxRecDepth 100000 in
theorem kw490 : Jvm.Cond.instanceMethod ({ cls := "AccessGate", name := "approve", desc := "(II)Z" } : Jvm.MethodName) ∈ lw_tbl := List.mem_of_getElem? (i := 535) rfl
set_option maxRecDepth 100000 in
theorem kw491 : Jvm.Cond.selects "AccessGate" ({ cls := "AccessGate", name := "approve", desc := "(II)Z" } : Jvm.MethodName) ({ cls := "AccessGate", name := "approve", desc := "(II)Z" } : Jvm.MethodName) ∈ lw_tbl := List.mem_of_getElem? (i := 536) rfl
set_option maxRecDepth 100000 in
theorem kw492 : Jvm.Cond.code ({ cls := "AccessGate", name := "approve", desc := "(II)Z" } : Jvm.MethodName) prog_1_method_7_code (5 : Nat) (Option.some Jvm.ClassFile.FieldType.boolean) ∈ lw_tbl := List.mem_of_getElem? (i := 537) rfl
set_option maxRecDepth 100000 in
theorem kw493 : Jvm.Cond.methodLink "AccessGate" (124 : Nat) ({ cls := "AccessGate", name := "askAt", desc := "(I)LAccessGate$Ask;" } : Jvm.MethodName) ∈ lw_tbl := List.mem_of_getElem? (i := 538) rfl
set_option maxRecDepth 100000 in
theorem kw495 : Jvm.Cond.instanceMethod ({ cls := "AccessGate", name := "askAt", desc := "(I)LAccessGate$Ask;" } : Jvm.MethodName) ∈ lw_tbl := List.mem_of_getElem? (i := 540) rfl
set_option maxRecDepth 100000 in
theorem kw496 : Jvm.Cond.code ({ cls := "AccessGate", name := "askAt", desc := "(I)LAccessGate$Ask;" } : Jvm.MethodName) prog_1_method_27_code (2 : Nat) (Option.some (Jvm.ClassFile.FieldType.object "AccessGate$Ask")) ∈ lw_tbl := List.mem_of_getElem? (i := 541) rfl
set_option maxRecDepth 100000 in
theorem kw498 : Jvm.Cond.methodLink "AccessGate" (128 : Nat) ({ cls := "AccessGate", name := "requireMayJudge", desc := "(LAccessGate$Ask;LAccessGate$Person;)V" } : Jvm.MethodName) ∈ lw_tbl := List.mem_of_getElem? (i := 543) rfl
set_option maxRecDepth 100000 in
theorem kw500 : Jvm.Cond.instanceMethod ({ cls := "AccessGate", name := "requireMayJudge", desc := "(LAccessGate$Ask;LAccessGate$Person;)V" } : Jvm.MethodName) ∈ lw_tbl := List.mem_of_getElem? (i := 545) rfl
set_option maxRecDepth 100000 in
theorem kw501 : Jvm.Cond.code ({ cls := "AccessGate", name := "requireMayJudge", desc := "(LAccessGate$Ask;LAccessGate$Person;)V" } : Jvm.MethodName) prog_1_method_35_code (3 : Nat) (Option.none : Option Jvm.ClassFile.FieldType) ∈ lw_tbl := List.mem_of_getElem? (i := 546) rfl
set_option maxRecDepth 100000 in
theorem kw503 : Jvm.Cond.methodLinkNest "AccessGate" (228 : Nat) ({ cls := "AccessGate$Person", name := "mayJudge", desc := "(LAccessGate$Person;LAccessGate$Machine;)Z" } : Jvm.MethodName) "AccessGate" ∈ lw_tbl := List.mem_of_getElem? (i := 548) rfl
set_option maxRecDepth 100000 in
theorem kw505 : Jvm.Cond.instanceMethod ({ cls := "AccessGate$Person", name := "mayJudge", desc := "(LAccessGate$Person;LAccessGate$Machine;)Z" } : Jvm.MethodName) ∈ lw_tbl := List.mem_of_getElem? (i := 550) rfl
set_option maxRecDepth 100000 in
theorem kw506 : Jvm.Cond.code ({ cls := "AccessGate$Person", name := "mayJudge", desc := "(LAccessGate$Person;LAccessGate$Machine;)Z" } : Jvm.MethodName) prog_5_method_4_code (3 : Nat) (Option.some Jvm.ClassFile.FieldType.boolean) ∈ lw_tbl := List.mem_of_getElem? (i := 551) rfl
set_option maxRecDepth 100000 in
theorem kw507 : Jvm.Cond.methodLink "AccessGate$Person" (24 : Nat) ({ cls := "AccessGate$Person", name := "hasLabel", desc := "(I)Z" } : Jvm.MethodName) ∈ lw_tbl := List.mem_of_getElem? (i := 552) rfl
set_option maxRecDepth 100000 in
theorem kw510 : Jvm.Cond.methodLinkNest "AccessGate" (153 : Nat) ({ cls := "AccessGate$Right", name := "<init>", desc := "(LAccessGate$Person;LAccessGate$Machine;II)V" } : Jvm.MethodName) "AccessGate" ∈ lw_tbl := List.mem_of_getElem? (i := 555) rfl
set_option maxRecDepth 100000 in
theorem kw511 : Jvm.Cond.instanceMethod ({ cls := "AccessGate$Right", name := "<init>", desc := "(LAccessGate$Person;LAccessGate$Machine;II)V" } : Jvm.MethodName) ∈ lw_tbl := List.mem_of_getElem? (i := 556) rfl
set_option maxRecDepth 100000 in
theorem kw512 : Jvm.Cond.code ({ cls := "AccessGate$Right", name := "<init>", desc := "(LAccessGate$Person;LAccessGate$Machine;II)V" } : Jvm.MethodName) prog_6_method_1_code (5 : Nat) (Option.none : Option Jvm.ClassFile.FieldType) ∈ lw_tbl := List.mem_of_getElem? (i := 557) rfl
set_option maxRecDepth 100000 in
theorem kw513 : Jvm.Cond.methodLink "AccessGate$Right" (1 : Nat) ({ cls := "java/lang/Object", name := "<init>", desc := "()V" } : Jvm.MethodName) ∈ lw_tbl := List.mem_of_getElem? (i := 558) rfl
set_option maxRecDepth 100000 in
theorem kw514 : Jvm.Cond.fieldLink "AccessGate$Right" (7 : Nat) "AccessGate$Right" "who" "LAccessGate$Person;" ∈ lw_tbl := List.mem_of_getElem? (i := 559) rfl
set_option maxRecDepth 100000 in
theorem kw515 : Jvm.Cond.fieldLinkNest "AccessGate" (291 : Nat) "AccessGate$Right" "who" "LAccessGate$Person;" "AccessGate" ∈ lw_tbl := List.mem_of_getElem? (i := 560) rfl
set_option maxRecDepth 100000 in
theorem kw516 : Jvm.Cond.fieldLink "AccessGate$Right" (13 : Nat) "AccessGate$Right" "where" "LAccessGate$Machine;" ∈ lw_tbl := List.mem_of_getElem? (i := 561) rfl
set_option maxRecDepth 100000 in
theorem kw517 : Jvm.Cond.fieldLinkNest "AccessGate" (292 : Nat) "AccessGate$Right" "where" "LAccessGate$Machine;" "AccessGate" ∈ lw_tbl := List.mem_of_getElem? (i := 562) rfl
set_option maxRecDepth 100000 in
theorem kw518 : Jvm.Cond.fieldLink "AccessGate$Right" (17 : Nat) "AccessGate$Right" "begin" "I" ∈ lw_tbl := List.mem_of_getElem? (i := 563) rfl
set_option maxRecDepth 100000 in
theorem kw519 : Jvm.Cond.fieldLink "AccessGate$Right" (21 : Nat) "AccessGate$Right" "end" "I" ∈ lw_tbl := List.mem_of_getElem? (i := 564) rfl
set_option maxRecDepth 100000 in
theorem kw520 : Jvm.Cond.fieldLinkNest "AccessGate" (296 : Nat) "AccessGate$Right" "end" "I" "AccessGate" ∈ lw_tbl := List.mem_of_getElem? (i := 565) rfl
set_option maxRecDepth 100000 in
theorem kw530 : Jvm.Cond.methodLink "AccessGateLaw" (115 : Nat) ({ cls := "AccessGateLaw", name := "deny", desc := "(LAccessGate;II)I" } : Jvm.MethodName) ∈ lw_tbl := List.mem_of_getElem? (i := 575) rfl
set_option maxRecDepth 100000 in
theorem kw531 : Jvm.Cond.static ({ cls := "AccessGateLaw", name := "deny", desc := "(LAccessGate;II)I" } : Jvm.MethodName) ∈ lw_tbl := List.mem_of_getElem? (i := 576) rfl
set_option maxRecDepth 100000 in
theorem kw532 : Jvm.Cond.codeWith ({ cls := "AccessGateLaw", name := "deny", desc := "(LAccessGate;II)I" } : Jvm.MethodName) method_9_code (4 : Nat) (Option.some Jvm.ClassFile.FieldType.int) [((0 : Nat), (6 : Nat), (9 : Nat), (24 : Nat)), ((0 : Nat), (6 : Nat), (12 : Nat), (15 : Nat))] ∈ lw_tbl := List.mem_of_getElem? (i := 577) rfl
set_option maxRecDepth 100000 in
theorem kw533 : Jvm.Cond.methodLink "AccessGateLaw" (38 : Nat) ({ cls := "AccessGate", name := "deny", desc := "(II)V" } : Jvm.MethodName) ∈ lw_tbl := List.mem_of_getElem? (i := 578) rfl
set_option maxRecDepth 100000 in
theorem kw534 : Jvm.Cond.instanceMethod ({ cls := "AccessGate", name := "deny", desc := "(II)V" } : Jvm.MethodName) ∈ lw_tbl := List.mem_of_getElem? (i := 579) rfl
set_option maxRecDepth 100000 in
theorem kw535 : Jvm.Cond.selects "AccessGate" ({ cls := "AccessGate", name := "deny", desc := "(II)V" } : Jvm.MethodName) ({ cls := "AccessGate", name := "deny", desc := "(II)V" } : Jvm.MethodName) ∈ lw_tbl := List.mem_of_getElem? (i := 580) rfl
set_option maxRecDepth 100000 in
theorem kw536 : Jvm.Cond.code ({ cls := "AccessGate", name := "deny", desc := "(II)V" } : Jvm.MethodName) prog_1_method_8_code (5 : Nat) (Option.none : Option Jvm.ClassFile.FieldType) ∈ lw_tbl := List.mem_of_getElem? (i := 581) rfl
set_option maxRecDepth 100000 in
theorem kw537 : Jvm.Cond.methodLink "AccessGateLaw" (119 : Nat) ({ cls := "AccessGateLaw", name := "askState", desc := "(LAccessGate;I[J)I" } : Jvm.MethodName) ∈ lw_tbl := List.mem_of_getElem? (i := 582) rfl
set_option maxRecDepth 100000 in
theorem kw538 : Jvm.Cond.static ({ cls := "AccessGateLaw", name := "askState", desc := "(LAccessGate;I[J)I" } : Jvm.MethodName) ∈ lw_tbl := List.mem_of_getElem? (i := 583) rfl
set_option maxRecDepth 100000 in
theorem kw539 : Jvm.Cond.codeWith ({ cls := "AccessGateLaw", name := "askState", desc := "(LAccessGate;I[J)I" } : Jvm.MethodName) method_10_code (4 : Nat) (Option.some Jvm.ClassFile.FieldType.int) [((0 : Nat), (9 : Nat), (12 : Nat), (24 : Nat))] ∈ lw_tbl := List.mem_of_getElem? (i := 584) rfl
set_option maxRecDepth 100000 in
theorem kw540 : Jvm.Cond.methodLink "AccessGateLaw" (42 : Nat) ({ cls := "AccessGate", name := "askState", desc := "(I)I" } : Jvm.MethodName) ∈ lw_tbl := List.mem_of_getElem? (i := 585) rfl
set_option maxRecDepth 100000 in
theorem kw541 : Jvm.Cond.instanceMethod ({ cls := "AccessGate", name := "askState", desc := "(I)I" } : Jvm.MethodName) ∈ lw_tbl := List.mem_of_getElem? (i := 586) rfl
set_option maxRecDepth 100000 in
theorem kw542 : Jvm.Cond.selects "AccessGate" ({ cls := "AccessGate", name := "askState", desc := "(I)I" } : Jvm.MethodName) ({ cls := "AccessGate", name := "askState", desc := "(I)I" } : Jvm.MethodName) ∈ lw_tbl := List.mem_of_getElem? (i := 587) rfl
set_option maxRecDepth 100000 in
theorem kw543 : Jvm.Cond.code ({ cls := "AccessGate", name := "askState", desc := "(I)I" } : Jvm.MethodName) prog_1_method_9_code (2 : Nat) (Option.some Jvm.ClassFile.FieldType.int) ∈ lw_tbl := List.mem_of_getElem? (i := 588) rfl
set_option maxRecDepth 100000 in
theorem kw544 : Jvm.Cond.methodLink "AccessGateLaw" (122 : Nat) ({ cls := "AccessGateLaw", name := "enter", desc := "(LAccessGate;II[J)I" } : Jvm.MethodName) ∈ lw_tbl := List.mem_of_getElem? (i := 589) rfl
set_option maxRecDepth 100000 in
theorem kw545 : Jvm.Cond.static ({ cls := "AccessGateLaw", name := "enter", desc := "(LAccessGate;II[J)I" } : Jvm.MethodName) ∈ lw_tbl := List.mem_of_getElem? (i := 590) rfl
set_option maxRecDepth 100000 in
theorem kw546 : Jvm.Cond.codeWith ({ cls := "AccessGateLaw", name := "enter", desc := "(LAccessGate;II[J)I" } : Jvm.MethodName) method_11_code (5 : Nat) (Option.some Jvm.ClassFile.FieldType.int) [((0 : Nat), (10 : Nat), (13 : Nat), (24 : Nat)), ((0 : Nat), (10 : Nat), (17 : Nat), (15 : Nat))] ∈ lw_tbl := List.mem_of_getElem? (i := 591) rfl
set_option maxRecDepth 100000 in
theorem kw547 : Jvm.Cond.methodLink "AccessGateLaw" (45 : Nat) ({ cls := "AccessGate", name := "enter", desc := "(II)I" } : Jvm.MethodName) ∈ lw_tbl := List.mem_of_getElem? (i := 592) rfl
set_option maxRecDepth 100000 in
theorem kw548 : Jvm.Cond.instanceMethod ({ cls := "AccessGate", name := "enter", desc := "(II)I" } : Jvm.MethodName) ∈ lw_tbl := List.mem_of_getElem? (i := 593) rfl
set_option maxRecDepth 100000 in
theorem kw549 : Jvm.Cond.selects "AccessGate" ({ cls := "AccessGate", name := "enter", desc := "(II)I" } : Jvm.MethodName) ({ cls := "AccessGate", name := "enter", desc := "(II)I" } : Jvm.MethodName) ∈ lw_tbl := List.mem_of_getElem? (i := 594) rfl
set_option maxRecDepth 100000 in
theorem kw550 : Jvm.Cond.code ({ cls := "AccessGate", name := "enter", desc := "(II)I" } : Jvm.MethodName) prog_1_method_10_code (6 : Nat) (Option.some Jvm.ClassFile.FieldType.int) ∈ lw_tbl := List.mem_of_getElem? (i := 595) rfl
set_option maxRecDepth 100000 in
theorem kw551 : Jvm.Cond.methodLinkNest "AccessGate" (160 : Nat) ({ cls := "AccessGate$Entry", name := "<init>", desc := "(LAccessGate$Person;LAccessGate$Machine;I)V" } : Jvm.MethodName) "AccessGate" ∈ lw_tbl := List.mem_of_getElem? (i := 596) rfl
set_option maxRecDepth 100000 in
theorem kw552 : Jvm.Cond.instanceMethod ({ cls := "AccessGate$Entry", name := "<init>", desc := "(LAccessGate$Person;LAccessGate$Machine;I)V" } : Jvm.MethodName) ∈ lw_tbl := List.mem_of_getElem? (i := 597) rfl
set_option maxRecDepth 100000 in
theorem kw553 : Jvm.Cond.code ({ cls := "AccessGate$Entry", name := "<init>", desc := "(LAccessGate$Person;LAccessGate$Machine;I)V" } : Jvm.MethodName) prog_3_method_1_code (4 : Nat) (Option.none : Option Jvm.ClassFile.FieldType) ∈ lw_tbl := List.mem_of_getElem? (i := 598) rfl
set_option maxRecDepth 100000 in
theorem kw554 : Jvm.Cond.methodLink "AccessGate$Entry" (3 : Nat) ({ cls := "java/lang/Object", name := "<init>", desc := "()V" } : Jvm.MethodName) ∈ lw_tbl := List.mem_of_getElem? (i := 599) rfl
set_option maxRecDepth 100000 in
theorem kw555 : Jvm.Cond.fieldLink "AccessGate$Entry" (15 : Nat) "AccessGate$Entry" "who" "LAccessGate$Person;" ∈ lw_tbl := List.mem_of_getElem? (i := 600) rfl
set_option maxRecDepth 100000 in
theorem kw556 : Jvm.Cond.fieldLinkNest "AccessGate" (176 : Nat) "AccessGate$Entry" "who" "LAccessGate$Person;" "AccessGate" ∈ lw_tbl := List.mem_of_getElem? (i := 601) rfl
set_option maxRecDepth 100000 in
theorem kw557 : Jvm.Cond.fieldLink "AccessGate$Entry" (19 : Nat) "AccessGate$Entry" "where" "LAccessGate$Machine;" ∈ lw_tbl := List.mem_of_getElem? (i := 602) rfl
set_option maxRecDepth 100000 in
theorem kw558 : Jvm.Cond.fieldLinkNest "AccessGate" (179 : Nat) "AccessGate$Entry" "where" "LAccessGate$Machine;" "AccessGate" ∈ lw_tbl := List.mem_of_getElem? (i := 603) rfl
set_option maxRecDepth 100000 in
theorem kw559 : Jvm.Cond.fieldLink "AccessGate$Entry" (23 : Nat) "AccessGate$Entry" "time" "I" ∈ lw_tbl := List.mem_of_getElem? (i := 604) rfl
set_option maxRecDepth 100000 in
theorem kw560 : Jvm.Cond.fieldLinkNest "AccessGate" (180 : Nat) "AccessGate$Entry" "time" "I" "AccessGate" ∈ lw_tbl := List.mem_of_getElem? (i := 605) rfl
set_option maxRecDepth 100000 in
theorem kw561 : Jvm.Cond.fieldLink "AccessGate$Entry" (9 : Nat) "AccessGate$Entry" "lookedAt" "Z" ∈ lw_tbl := List.mem_of_getElem? (i := 606) rfl
set_option maxRecDepth 100000 in
theorem kw562 : Jvm.Cond.fieldLinkNest "AccessGate" (167 : Nat) "AccessGate$Entry" "lookedAt" "Z" "AccessGate" ∈ lw_tbl := List.mem_of_getElem? (i := 607) rfl
set_option maxRecDepth 100000 in
theorem kw572 : Jvm.Cond.methodLink "AccessGateLaw" (125 : Nat) ({ cls := "AccessGateLaw", name := "lookAt", desc := "(LAccessGate;II[J)I" } : Jvm.MethodName) ∈ lw_tbl := List.mem_of_getElem? (i := 617) rfl
set_option maxRecDepth 100000 in
theorem kw573 : Jvm.Cond.static ({ cls := "AccessGateLaw", name := "lookAt", desc := "(LAccessGate;II[J)I" } : Jvm.MethodName) ∈ lw_tbl := List.mem_of_getElem? (i := 618) rfl
set_option maxRecDepth 100000 in
theorem kw574 : Jvm.Cond.codeWith ({ cls := "AccessGateLaw", name := "lookAt", desc := "(LAccessGate;II[J)I" } : Jvm.MethodName) method_12_code (5 : Nat) (Option.some Jvm.ClassFile.FieldType.int) [((0 : Nat), (10 : Nat), (13 : Nat), (24 : Nat)), ((0 : Nat), (10 : Nat), (17 : Nat), (15 : Nat))] ∈ lw_tbl := List.mem_of_getElem? (i := 619) rfl
set_option maxRecDepth 100000 in
theorem kw575 : Jvm.Cond.methodLink "AccessGateLaw" (48 : Nat) ({ cls := "AccessGate", name := "lookAt", desc := "(II)I" } : Jvm.MethodName) ∈ lw_tbl := List.mem_of_getElem? (i := 620) rfl
set_option maxRecDepth 100000 in
theorem kw576 : Jvm.Cond.instanceMethod ({ cls := "AccessGate", name := "lookAt", desc := "(II)I" } : Jvm.MethodName) ∈ lw_tbl := List.mem_of_getElem? (i := 621) rfl
set_option maxRecDepth 100000 in
theorem kw577 : Jvm.Cond.selects "AccessGate" ({ cls := "AccessGate", name := "lookAt", desc := "(II)I" } : Jvm.MethodName) ({ cls := "AccessGate", name := "lookAt", desc := "(II)I" } : Jvm.MethodName) ∈ lw_tbl := List.mem_of_getElem? (i := 622) rfl
set_option maxRecDepth 100000 in
theorem kw578 : Jvm.Cond.code ({ cls := "AccessGate", name := "lookAt", desc := "(II)I" } : Jvm.MethodName) prog_1_method_11_code (5 : Nat) (Option.some Jvm.ClassFile.FieldType.int) ∈ lw_tbl := List.mem_of_getElem? (i := 623) rfl
set_option maxRecDepth 100000 in
theorem kw579 : Jvm.Cond.methodLink "AccessGate" (163 : Nat) ({ cls := "AccessGate", name := "entryAt", desc := "(I)LAccessGate$Entry;" } : Jvm.MethodName) ∈ lw_tbl := List.mem_of_getElem? (i := 624) rfl
set_option maxRecDepth 100000 in
theorem kw581 : Jvm.Cond.instanceMethod ({ cls := "AccessGate", name := "entryAt", desc := "(I)LAccessGate$Entry;" } : Jvm.MethodName) ∈ lw_tbl := List.mem_of_getElem? (i := 626) rfl
set_option maxRecDepth 100000 in
theorem kw582 : Jvm.Cond.code ({ cls := "AccessGate", name := "entryAt", desc := "(I)LAccessGate$Entry;" } : Jvm.MethodName) prog_1_method_28_code (2 : Nat) (Option.some (Jvm.ClassFile.FieldType.object "AccessGate$Entry")) ∈ lw_tbl := List.mem_of_getElem? (i := 627) rfl
set_option maxRecDepth 100000 in
theorem kw586 : Jvm.Cond.methodLink "AccessGateLaw" (128 : Nat) ({ cls := "AccessGateLaw", name := "overdue", desc := "(LAccessGate;I[J)I" } : Jvm.MethodName) ∈ lw_tbl := List.mem_of_getElem? (i := 631) rfl
set_option maxRecDepth 100000 in
theorem kw587 : Jvm.Cond.static ({ cls := "AccessGateLaw", name := "overdue", desc := "(LAccessGate;I[J)I" } : Jvm.MethodName) ∈ lw_tbl := List.mem_of_getElem? (i := 632) rfl
set_option maxRecDepth 100000 in
theorem kw588 : Jvm.Cond.codeWith ({ cls := "AccessGateLaw", name := "overdue", desc := "(LAccessGate;I[J)I" } : Jvm.MethodName) method_13_code (4 : Nat) (Option.some Jvm.ClassFile.FieldType.int) [((0 : Nat), (9 : Nat), (12 : Nat), (24 : Nat))] ∈ lw_tbl := List.mem_of_getElem? (i := 633) rfl
set_option maxRecDepth 100000 in
theorem kw589 : Jvm.Cond.methodLink "AccessGateLaw" (51 : Nat) ({ cls := "AccessGate", name := "overdue", desc := "(I)I" } : Jvm.MethodName) ∈ lw_tbl := List.mem_of_getElem? (i := 634) rfl
set_option maxRecDepth 100000 in
theorem kw590 : Jvm.Cond.instanceMethod ({ cls := "AccessGate", name := "overdue", desc := "(I)I" } : Jvm.MethodName) ∈ lw_tbl := List.mem_of_getElem? (i := 635) rfl
set_option maxRecDepth 100000 in
theorem kw591 : Jvm.Cond.selects "AccessGate" ({ cls := "AccessGate", name := "overdue", desc := "(I)I" } : Jvm.MethodName) ({ cls := "AccessGate", name := "overdue", desc := "(I)I" } : Jvm.MethodName) ∈ lw_tbl := List.mem_of_getElem? (i := 636) rfl
set_option maxRecDepth 100000 in
theorem kw592 : Jvm.Cond.code ({ cls := "AccessGate", name := "overdue", desc := "(I)I" } : Jvm.MethodName) prog_1_method_12_code (2 : Nat) (Option.some Jvm.ClassFile.FieldType.int) ∈ lw_tbl := List.mem_of_getElem? (i := 637) rfl
set_option maxRecDepth 100000 in
theorem kw593 : Jvm.Cond.methodLink "AccessGateLaw" (131 : Nat) ({ cls := "AccessGateLaw", name := "couldEnter", desc := "(LAccessGate;III[J)I" } : Jvm.MethodName) ∈ lw_tbl := List.mem_of_getElem? (i := 638) rfl
set_option maxRecDepth 100000 in
theorem kw594 : Jvm.Cond.static ({ cls := "AccessGateLaw", name := "couldEnter", desc := "(LAccessGate;III[J)I" } : Jvm.MethodName) ∈ lw_tbl := List.mem_of_getElem? (i := 639) rfl
set_option maxRecDepth 100000 in
theorem kw595 : Jvm.Cond.codeWith ({ cls := "AccessGateLaw", name := "couldEnter", desc := "(LAccessGate;III[J)I" } : Jvm.MethodName) method_14_code (6 : Nat) (Option.some Jvm.ClassFile.FieldType.int) [((0 : Nat), (19 : Nat), (22 : Nat), (24 : Nat)), ((0 : Nat), (19 : Nat), (26 : Nat), (13 : Nat))] ∈ lw_tbl := List.mem_of_getElem? (i := 640) rfl
set_option maxRecDepth 100000 in
theorem kw596 : Jvm.Cond.methodLink "AccessGateLaw" (54 : Nat) ({ cls := "AccessGate", name := "couldEnter", desc := "(III)Z" } : Jvm.MethodName) ∈ lw_tbl := List.mem_of_getElem? (i := 641) rfl
set_option maxRecDepth 100000 in
theorem kw597 : Jvm.Cond.instanceMethod ({ cls := "AccessGate", name := "couldEnter", desc := "(III)Z" } : Jvm.MethodName) ∈ lw_tbl := List.mem_of_getElem? (i := 642) rfl
set_option maxRecDepth 100000 in
theorem kw598 : Jvm.Cond.selects "AccessGate" ({ cls := "AccessGate", name := "couldEnter", desc := "(III)Z" } : Jvm.MethodName) ({ cls := "AccessGate", name := "couldEnter", desc := "(III)Z" } : Jvm.MethodName) ∈ lw_tbl := List.mem_of_getElem? (i := 643) rfl
set_option maxRecDepth 100000 in
theorem kw599 : Jvm.Cond.code ({ cls := "AccessGate", name := "couldEnter", desc := "(III)Z" } : Jvm.MethodName) prog_1_method_13_code (6 : Nat) (Option.some Jvm.ClassFile.FieldType.boolean) ∈ lw_tbl := List.mem_of_getElem? (i := 644) rfl
set_option maxRecDepth 100000 in
theorem kw600 : Jvm.Cond.constant "AccessGate" (187 : Nat) (100000 : Int32) ∈ lw_tbl := List.mem_of_getElem? (i := 645) rfl
set_option maxRecDepth 100000 in
theorem kw602 : Jvm.Cond.methodLink "AccessGateLaw" (134 : Nat) ({ cls := "AccessGateLaw", name := "open", desc := "(LAccessGate;II[J)I" } : Jvm.MethodName) ∈ lw_tbl := List.mem_of_getElem? (i := 647) rfl
set_option maxRecDepth 100000 in
theorem kw603 : Jvm.Cond.static ({ cls := "AccessGateLaw", name := "open", desc := "(LAccessGate;II[J)I" } : Jvm.MethodName) ∈ lw_tbl := List.mem_of_getElem? (i := 648) rfl
set_option maxRecDepth 100000 in
theorem kw604 : Jvm.Cond.codeWith ({ cls := "AccessGateLaw", name := "open", desc := "(LAccessGate;II[J)I" } : Jvm.MethodName) method_15_code (5 : Nat) (Option.some Jvm.ClassFile.FieldType.int) [((0 : Nat), (10 : Nat), (13 : Nat), (24 : Nat)), ((0 : Nat), (10 : Nat), (17 : Nat), (15 : Nat))] ∈ lw_tbl := List.mem_of_getElem? (i := 649) rfl
set_option maxRecDepth 100000 in
theorem kw605 : Jvm.Cond.methodLink "AccessGateLaw" (58 : Nat) ({ cls := "AccessGate", name := "open", desc := "(II)I" } : Jvm.MethodName) ∈ lw_tbl := List.mem_of_getElem? (i := 650) rfl
set_option maxRecDepth 100000 in
theorem kw606 : Jvm.Cond.instanceMethod ({ cls := "AccessGate", name := "open", desc := "(II)I" } : Jvm.MethodName) ∈ lw_tbl := List.mem_of_getElem? (i := 651) rfl
set_option maxRecDepth 100000 in
theorem kw607 : Jvm.Cond.selects "AccessGate" ({ cls := "AccessGate", name := "open", desc := "(II)I" } : Jvm.MethodName) ({ cls := "AccessGate", name := "open", desc := "(II)I" } : Jvm.MethodName) ∈ lw_tbl := List.mem_of_getElem? (i := 652) rfl
set_option maxRecDepth 100000 in
theorem kw608 : Jvm.Cond.code ({ cls := "AccessGate", name := "open", desc := "(II)I" } : Jvm.MethodName) prog_1_method_14_code (6 : Nat) (Option.some Jvm.ClassFile.FieldType.int) ∈ lw_tbl := List.mem_of_getElem? (i := 653) rfl
set_option maxRecDepth 100000 in
theorem kw610 : Jvm.Cond.methodLinkNest "AccessGate" (198 : Nat) ({ cls := "AccessGate$Session", name := "<init>", desc := "(LAccessGate$Person;LAccessGate$Machine;I)V" } : Jvm.MethodName) "AccessGate" ∈ lw_tbl := List.mem_of_getElem? (i := 655) rfl
set_option maxRecDepth 100000 in
theorem kw611 : Jvm.Cond.instanceMethod ({ cls := "AccessGate$Session", name := "<init>", desc := "(LAccessGate$Person;LAccessGate$Machine;I)V" } : Jvm.MethodName) ∈ lw_tbl := List.mem_of_getElem? (i := 656) rfl
set_option maxRecDepth 100000 in
theorem kw612 : Jvm.Cond.code ({ cls := "AccessGate$Session", name := "<init>", desc := "(LAccessGate$Person;LAccessGate$Machine;I)V" } : Jvm.MethodName) prog_7_method_1_code (4 : Nat) (Option.none : Option Jvm.ClassFile.FieldType) ∈ lw_tbl := List.mem_of_getElem? (i := 657) rfl
set_option maxRecDepth 100000 in
theorem kw613 : Jvm.Cond.methodLink "AccessGate$Session" (3 : Nat) ({ cls := "java/lang/Object", name := "<init>", desc := "()V" } : Jvm.MethodName) ∈ lw_tbl := List.mem_of_getElem? (i := 658) rfl
set_option maxRecDepth 100000 in
theorem kw614 : Jvm.Cond.fieldLink "AccessGate$Session" (22 : Nat) "AccessGate$Session" "who" "LAccessGate$Person;" ∈ lw_tbl := List.mem_of_getElem? (i := 659) rfl
set_option maxRecDepth 100000 in
theorem kw615 : Jvm.Cond.fieldLinkNest "AccessGate" (215 : Nat) "AccessGate$Session" "who" "LAccessGate$Person;" "AccessGate" ∈ lw_tbl := List.mem_of_getElem? (i := 660) rfl
set_option maxRecDepth 100000 in
theorem kw616 : Jvm.Cond.fieldLink "AccessGate$Session" (26 : Nat) "AccessGate$Session" "where" "LAccessGate$Machine;" ∈ lw_tbl := List.mem_of_getElem? (i := 661) rfl
set_option maxRecDepth 100000 in
theorem kw617 : Jvm.Cond.fieldLinkNest "AccessGate" (216 : Nat) "AccessGate$Session" "where" "LAccessGate$Machine;" "AccessGate" ∈ lw_tbl := List.mem_of_getElem? (i := 662) rfl
set_option maxRecDepth 100000 in
theorem kw618 : Jvm.Cond.fieldLink "AccessGate$Session" (9 : Nat) "AccessGate$Session" "closed" "Z" ∈ lw_tbl := List.mem_of_getElem? (i := 663) rfl
set_option maxRecDepth 100000 in
theorem kw619 : Jvm.Cond.fieldLinkNest "AccessGate" (237 : Nat) "AccessGate$Session" "closed" "Z" "AccessGate" ∈ lw_tbl := List.mem_of_getElem? (i := 664) rfl
set_option maxRecDepth 100000 in
theorem kw620 : Jvm.Cond.fieldLink "AccessGate$Session" (30 : Nat) "AccessGate$Session" "lastLine" "I" ∈ lw_tbl := List.mem_of_getElem? (i := 665) rfl
set_option maxRecDepth 100000 in
theorem kw621 : Jvm.Cond.fieldLinkNest "AccessGate" (217 : Nat) "AccessGate$Session" "lastLine" "I" "AccessGate" ∈ lw_tbl := List.mem_of_getElem? (i := 666) rfl
set_option maxRecDepth 100000 in
theorem kw622 : Jvm.Cond.fieldLink "AccessGate$Session" (15 : Nat) "AccessGate$Session" "heldSince" "I" ∈ lw_tbl := List.mem_of_getElem? (i := 667) rfl
set_option maxRecDepth 100000 in
theorem kw623 : Jvm.Cond.fieldLinkNest "AccessGate" (223 : Nat) "AccessGate$Session" "heldSince" "I" "AccessGate" ∈ lw_tbl := List.mem_of_getElem? (i := 668) rfl
set_option maxRecDepth 100000 in
theorem kw624 : Jvm.Cond.fieldLink "AccessGate$Session" (19 : Nat) "AccessGate$Session" "linesLetThrough" "I" ∈ lw_tbl := List.mem_of_getElem? (i := 669) rfl
set_option maxRecDepth 100000 in
theorem kw625 : Jvm.Cond.fieldLinkNest "AccessGate" (220 : Nat) "AccessGate$Session" "linesLetThrough" "I" "AccessGate" ∈ lw_tbl := List.mem_of_getElem? (i := 670) rfl
set_option maxRecDepth 100000 in
theorem kw639 : Jvm.Cond.methodLink "AccessGateLaw" (137 : Nat) ({ cls := "AccessGateLaw", name := "type", desc := "(LAccessGate;II[J)I" } : Jvm.MethodName) ∈ lw_tbl := List.mem_of_getElem? (i := 684) rfl
set_option maxRecDepth 100000 in
theorem kw640 : Jvm.Cond.static ({ cls := "AccessGateLaw", name := "type", desc := "(LAccessGate;II[J)I" } : Jvm.MethodName) ∈ lw_tbl := List.mem_of_getElem? (i := 685) rfl
set_option maxRecDepth 100000 in
theorem kw641 : Jvm.Cond.codeWith ({ cls := "AccessGateLaw", name := "type", desc := "(LAccessGate;II[J)I" } : Jvm.MethodName) method_16_code (5 : Nat) (Option.some Jvm.ClassFile.FieldType.int) [((0 : Nat), (17 : Nat), (20 : Nat), (24 : Nat)), ((0 : Nat), (17 : Nat), (24 : Nat), (13 : Nat)), ((0 : Nat), (17 : Nat), (28 : Nat), (15 : Nat))] ∈ lw_tbl := List.mem_of_getElem? (i := 686) rfl
set_option maxRecDepth 100000 in
theorem kw642 : Jvm.Cond.methodLink "AccessGateLaw" (61 : Nat) ({ cls := "AccessGate", name := "type", desc := "(II)Z" } : Jvm.MethodName) ∈ lw_tbl := List.mem_of_getElem? (i := 687) rfl
set_option maxRecDepth 100000 in
theorem kw643 : Jvm.Cond.instanceMethod ({ cls := "AccessGate", name := "type", desc := "(II)Z" } : Jvm.MethodName) ∈ lw_tbl := List.mem_of_getElem? (i := 688) rfl
set_option maxRecDepth 100000 in
theorem kw644 : Jvm.Cond.selects "AccessGate" ({ cls := "AccessGate", name := "type", desc := "(II)Z" } : Jvm.MethodName) ({ cls := "AccessGate", name := "type", desc := "(II)Z" } : Jvm.MethodName) ∈ lw_tbl := List.mem_of_getElem? (i := 689) rfl
set_option maxRecDepth 100000 in
theorem kw645 : Jvm.Cond.code ({ cls := "AccessGate", name := "type", desc := "(II)Z" } : Jvm.MethodName) prog_1_method_15_code (4 : Nat) (Option.some Jvm.ClassFile.FieldType.boolean) ∈ lw_tbl := List.mem_of_getElem? (i := 690) rfl
set_option maxRecDepth 100000 in
theorem kw646 : Jvm.Cond.methodLink "AccessGate" (199 : Nat) ({ cls := "AccessGate", name := "sessionAt", desc := "(I)LAccessGate$Session;" } : Jvm.MethodName) ∈ lw_tbl := List.mem_of_getElem? (i := 691) rfl
set_option maxRecDepth 100000 in
theorem kw648 : Jvm.Cond.instanceMethod ({ cls := "AccessGate", name := "sessionAt", desc := "(I)LAccessGate$Session;" } : Jvm.MethodName) ∈ lw_tbl := List.mem_of_getElem? (i := 693) rfl
set_option maxRecDepth 100000 in
theorem kw649 : Jvm.Cond.code ({ cls := "AccessGate", name := "sessionAt", desc := "(I)LAccessGate$Session;" } : Jvm.MethodName) prog_1_method_29_code (2 : Nat) (Option.some (Jvm.ClassFile.FieldType.object "AccessGate$Session")) ∈ lw_tbl := List.mem_of_getElem? (i := 694) rfl
set_option maxRecDepth 100000 in
theorem kw652 : Jvm.Cond.methodLink "AccessGate" (205 : Nat) ({ cls := "AccessGate", name := "requireOpen", desc := "(LAccessGate$Session;)V" } : Jvm.MethodName) ∈ lw_tbl := List.mem_of_getElem? (i := 697) rfl
set_option maxRecDepth 100000 in
theorem kw653 : Jvm.Cond.static ({ cls := "AccessGate", name := "requireOpen", desc := "(LAccessGate$Session;)V" } : Jvm.MethodName) ∈ lw_tbl := List.mem_of_getElem? (i := 698) rfl
set_option maxRecDepth 100000 in
theorem kw654 : Jvm.Cond.code ({ cls := "AccessGate", name := "requireOpen", desc := "(LAccessGate$Session;)V" } : Jvm.MethodName) prog_1_method_33_code (1 : Nat) (Option.none : Option Jvm.ClassFile.FieldType) ∈ lw_tbl := List.mem_of_getElem? (i := 699) rfl
set_option maxRecDepth 100000 in
theorem kw656 : Jvm.Cond.methodLinkNest "AccessGate" (209 : Nat) ({ cls := "AccessGate$Session", name := "holdsLine", desc := "()Z" } : Jvm.MethodName) "AccessGate" ∈ lw_tbl := List.mem_of_getElem? (i := 701) rfl
set_option maxRecDepth 100000 in
theorem kw658 : Jvm.Cond.instanceMethod ({ cls := "AccessGate$Session", name := "holdsLine", desc := "()Z" } : Jvm.MethodName) ∈ lw_tbl := List.mem_of_getElem? (i := 703) rfl
set_option maxRecDepth 100000 in
theorem kw659 : Jvm.Cond.code ({ cls := "AccessGate$Session", name := "holdsLine", desc := "()Z" } : Jvm.MethodName) prog_7_method_2_code (1 : Nat) (Option.some Jvm.ClassFile.FieldType.boolean) ∈ lw_tbl := List.mem_of_getElem? (i := 704) rfl
set_option maxRecDepth 100000 in
theorem kw661 : Jvm.Cond.methodLink "AccessGateLaw" (140 : Nat) ({ cls := "AccessGateLaw", name := "letThrough", desc := "(LAccessGate;II[J)I" } : Jvm.MethodName) ∈ lw_tbl := List.mem_of_getElem? (i := 706) rfl
set_option maxRecDepth 100000 in
theorem kw662 : Jvm.Cond.static ({ cls := "AccessGateLaw", name := "letThrough", desc := "(LAccessGate;II[J)I" } : Jvm.MethodName) ∈ lw_tbl := List.mem_of_getElem? (i := 707) rfl
set_option maxRecDepth 100000 in
theorem kw663 : Jvm.Cond.codeWith ({ cls := "AccessGateLaw", name := "letThrough", desc := "(LAccessGate;II[J)I" } : Jvm.MethodName) method_17_code (5 : Nat) (Option.some Jvm.ClassFile.FieldType.int) [((0 : Nat), (10 : Nat), (13 : Nat), (24 : Nat)), ((0 : Nat), (10 : Nat), (17 : Nat), (15 : Nat))] ∈ lw_tbl := List.mem_of_getElem? (i := 708) rfl
set_option maxRecDepth 100000 in
theorem kw664 : Jvm.Cond.methodLink "AccessGateLaw" (64 : Nat) ({ cls := "AccessGate", name := "letThrough", desc := "(II)I" } : Jvm.MethodName) ∈ lw_tbl := List.mem_of_getElem? (i := 709) rfl
set_option maxRecDepth 100000 in
theorem kw665 : Jvm.Cond.instanceMethod ({ cls := "AccessGate", name := "letThrough", desc := "(II)I" } : Jvm.MethodName) ∈ lw_tbl := List.mem_of_getElem? (i := 710) rfl
set_option maxRecDepth 100000 in
theorem kw666 : Jvm.Cond.selects "AccessGate" ({ cls := "AccessGate", name := "letThrough", desc := "(II)I" } : Jvm.MethodName) ({ cls := "AccessGate", name := "letThrough", desc := "(II)I" } : Jvm.MethodName) ∈ lw_tbl := List.mem_of_getElem? (i := 711) rfl
set_option maxRecDepth 100000 in
theorem kw667 : Jvm.Cond.code ({ cls := "AccessGate", name := "letThrough", desc := "(II)I" } : Jvm.MethodName) prog_1_method_16_code (6 : Nat) (Option.some Jvm.ClassFile.FieldType.int) ∈ lw_tbl := List.mem_of_getElem? (i := 712) rfl
set_option maxRecDepth 100000 in
theorem kw670 : Jvm.Cond.methodLink "AccessGateLaw" (143 : Nat) ({ cls := "AccessGateLaw", name := "close", desc := "(LAccessGate;I[J)I" } : Jvm.MethodName) ∈ lw_tbl := List.mem_of_getElem? (i := 715) rfl
set_option maxRecDepth 100000 in
theorem kw671 : Jvm.Cond.static ({ cls := "AccessGateLaw", name := "close", desc := "(LAccessGate;I[J)I" } : Jvm.MethodName) ∈ lw_tbl := List.mem_of_getElem? (i := 716) rfl
set_option maxRecDepth 100000 in
theorem kw672 : Jvm.Cond.codeWith ({ cls := "AccessGateLaw", name := "close", desc := "(LAccessGate;I[J)I" } : Jvm.MethodName) method_18_code (4 : Nat) (Option.some Jvm.ClassFile.FieldType.int) [((0 : Nat), (9 : Nat), (12 : Nat), (24 : Nat)), ((0 : Nat), (9 : Nat), (15 : Nat), (15 : Nat))] ∈ lw_tbl := List.mem_of_getElem? (i := 717) rfl
set_option maxRecDepth 100000 in
theorem kw673 : Jvm.Cond.methodLink "AccessGateLaw" (67 : Nat) ({ cls := "AccessGate", name := "close", desc := "(I)I" } : Jvm.MethodName) ∈ lw_tbl := List.mem_of_getElem? (i := 718) rfl
set_option maxRecDepth 100000 in
theorem kw674 : Jvm.Cond.instanceMethod ({ cls := "AccessGate", name := "close", desc := "(I)I" } : Jvm.MethodName) ∈ lw_tbl := List.mem_of_getElem? (i := 719) rfl
set_option maxRecDepth 100000 in
theorem kw675 : Jvm.Cond.selects "AccessGate" ({ cls := "AccessGate", name := "close", desc := "(I)I" } : Jvm.MethodName) ({ cls := "AccessGate", name := "close", desc := "(I)I" } : Jvm.MethodName) ∈ lw_tbl := List.mem_of_getElem? (i := 720) rfl
set_option maxRecDepth 100000 in
theorem kw676 : Jvm.Cond.code ({ cls := "AccessGate", name := "close", desc := "(I)I" } : Jvm.MethodName) prog_1_method_17_code (3 : Nat) (Option.some Jvm.ClassFile.FieldType.int) ∈ lw_tbl := List.mem_of_getElem? (i := 721) rfl
set_option maxRecDepth 100000 in
theorem kw677 : Jvm.Cond.methodLink "AccessGateLaw" (146 : Nat) ({ cls := "AccessGateLaw", name := "isOpen", desc := "(LAccessGate;I[J)I" } : Jvm.MethodName) ∈ lw_tbl := List.mem_of_getElem? (i := 722) rfl
set_option maxRecDepth 100000 in
theorem kw678 : Jvm.Cond.static ({ cls := "AccessGateLaw", name := "isOpen", desc := "(LAccessGate;I[J)I" } : Jvm.MethodName) ∈ lw_tbl := List.mem_of_getElem? (i := 723) rfl
set_option maxRecDepth 100000 in
theorem kw679 : Jvm.Cond.codeWith ({ cls := "AccessGateLaw", name := "isOpen", desc := "(LAccessGate;I[J)I" } : Jvm.MethodName) method_19_code (4 : Nat) (Option.some Jvm.ClassFile.FieldType.int) [((0 : Nat), (16 : Nat), (19 : Nat), (24 : Nat))] ∈ lw_tbl := List.mem_of_getElem? (i := 724) rfl
set_option maxRecDepth 100000 in
theorem kw680 : Jvm.Cond.methodLink "AccessGateLaw" (70 : Nat) ({ cls := "AccessGate", name := "isOpen", desc := "(I)Z" } : Jvm.MethodName) ∈ lw_tbl := List.mem_of_getElem? (i := 725) rfl
set_option maxRecDepth 100000 in
theorem kw681 : Jvm.Cond.instanceMethod ({ cls := "AccessGate", name := "isOpen", desc := "(I)Z" } : Jvm.MethodName) ∈ lw_tbl := List.mem_of_getElem? (i := 726) rfl
set_option maxRecDepth 100000 in
theorem kw682 : Jvm.Cond.selects "AccessGate" ({ cls := "AccessGate", name := "isOpen", desc := "(I)Z" } : Jvm.MethodName) ({ cls := "AccessGate", name := "isOpen", desc := "(I)Z" } : Jvm.MethodName) ∈ lw_tbl := List.mem_of_getElem? (i := 727) rfl
set_option maxRecDepth 100000 in
theorem kw683 : Jvm.Cond.code ({ cls := "AccessGate", name := "isOpen", desc := "(I)Z" } : Jvm.MethodName) prog_1_method_18_code (2 : Nat) (Option.some Jvm.ClassFile.FieldType.boolean) ∈ lw_tbl := List.mem_of_getElem? (i := 728) rfl
set_option maxRecDepth 100000 in
theorem kw684 : Jvm.Cond.methodLink "AccessGateLaw" (153 : Nat) ({ cls := "AccessGateLaw", name := "pass", desc := "(LAccessGate;I[J)I" } : Jvm.MethodName) ∈ lw_tbl := List.mem_of_getElem? (i := 729) rfl
set_option maxRecDepth 100000 in
theorem kw685 : Jvm.Cond.static ({ cls := "AccessGateLaw", name := "pass", desc := "(LAccessGate;I[J)I" } : Jvm.MethodName) ∈ lw_tbl := List.mem_of_getElem? (i := 730) rfl
set_option maxRecDepth 100000 in
theorem kw686 : Jvm.Cond.codeWith ({ cls := "AccessGateLaw", name := "pass", desc := "(LAccessGate;I[J)I" } : Jvm.MethodName) method_20_code (4 : Nat) (Option.some Jvm.ClassFile.FieldType.int) [((0 : Nat), (9 : Nat), (12 : Nat), (13 : Nat)), ((0 : Nat), (9 : Nat), (15 : Nat), (15 : Nat))] ∈ lw_tbl := List.mem_of_getElem? (i := 731) rfl
set_option maxRecDepth 100000 in
theorem kw687 : Jvm.Cond.methodLink "AccessGateLaw" (74 : Nat) ({ cls := "AccessGate", name := "pass", desc := "(I)I" } : Jvm.MethodName) ∈ lw_tbl := List.mem_of_getElem? (i := 732) rfl
set_option maxRecDepth 100000 in
theorem kw688 : Jvm.Cond.instanceMethod ({ cls := "AccessGate", name := "pass", desc := "(I)I" } : Jvm.MethodName) ∈ lw_tbl := List.mem_of_getElem? (i := 733) rfl
set_option maxRecDepth 100000 in
theorem kw689 : Jvm.Cond.selects "AccessGate" ({ cls := "AccessGate", name := "pass", desc := "(I)I" } : Jvm.MethodName) ({ cls := "AccessGate", name := "pass", desc := "(I)I" } : Jvm.MethodName) ∈ lw_tbl := List.mem_of_getElem? (i := 734) rfl
set_option maxRecDepth 100000 in
theorem kw690 : Jvm.Cond.code ({ cls := "AccessGate", name := "pass", desc := "(I)I" } : Jvm.MethodName) prog_1_method_20_code (5 : Nat) (Option.some Jvm.ClassFile.FieldType.int) ∈ lw_tbl := List.mem_of_getElem? (i := 735) rfl
set_option maxRecDepth 100000 in
theorem kw692 : Jvm.Cond.methodLink "AccessGateLaw" (164 : Nat) ({ cls := "AccessGateLaw", name := "kind", desc := "(LAccessGate;I[J)I" } : Jvm.MethodName) ∈ lw_tbl := List.mem_of_getElem? (i := 737) rfl
set_option maxRecDepth 100000 in
theorem kw693 : Jvm.Cond.static ({ cls := "AccessGateLaw", name := "kind", desc := "(LAccessGate;I[J)I" } : Jvm.MethodName) ∈ lw_tbl := List.mem_of_getElem? (i := 738) rfl
set_option maxRecDepth 100000 in
theorem kw694 : Jvm.Cond.codeWith ({ cls := "AccessGateLaw", name := "kind", desc := "(LAccessGate;I[J)I" } : Jvm.MethodName) method_21_code (4 : Nat) (Option.some Jvm.ClassFile.FieldType.int) [((0 : Nat), (9 : Nat), (12 : Nat), (24 : Nat))] ∈ lw_tbl := List.mem_of_getElem? (i := 739) rfl
set_option maxRecDepth 100000 in
theorem kw695 : Jvm.Cond.methodLink "AccessGateLaw" (77 : Nat) ({ cls := "AccessGate", name := "kind", desc := "(I)I" } : Jvm.MethodName) ∈ lw_tbl := List.mem_of_getElem? (i := 740) rfl
set_option maxRecDepth 100000 in
theorem kw696 : Jvm.Cond.instanceMethod ({ cls := "AccessGate", name := "kind", desc := "(I)I" } : Jvm.MethodName) ∈ lw_tbl := List.mem_of_getElem? (i := 741) rfl
set_option maxRecDepth 100000 in
theorem kw697 : Jvm.Cond.selects "AccessGate" ({ cls := "AccessGate", name := "kind", desc := "(I)I" } : Jvm.MethodName) ({ cls := "AccessGate", name := "kind", desc := "(I)I" } : Jvm.MethodName) ∈ lw_tbl := List.mem_of_getElem? (i := 742) rfl
set_option maxRecDepth 100000 in
theorem kw698 : Jvm.Cond.code ({ cls := "AccessGate", name := "kind", desc := "(I)I" } : Jvm.MethodName) prog_1_method_23_code (2 : Nat) (Option.some Jvm.ClassFile.FieldType.int) ∈ lw_tbl := List.mem_of_getElem? (i := 743) rfl
set_option maxRecDepth 100000 in
theorem kw699 : Jvm.Cond.methodLink "AccessGate" (245 : Nat) ({ cls := "AccessGate", name := "requireStep", desc := "(I)V" } : Jvm.MethodName) ∈ lw_tbl := List.mem_of_getElem? (i := 744) rfl
set_option maxRecDepth 100000 in
theorem kw701 : Jvm.Cond.instanceMethod ({ cls := "AccessGate", name := "requireStep", desc := "(I)V" } : Jvm.MethodName) ∈ lw_tbl := List.mem_of_getElem? (i := 746) rfl
set_option maxRecDepth 100000 in
theorem kw702 : Jvm.Cond.code ({ cls := "AccessGate", name := "requireStep", desc := "(I)V" } : Jvm.MethodName) prog_1_method_30_code (2 : Nat) (Option.none : Option Jvm.ClassFile.FieldType) ∈ lw_tbl := List.mem_of_getElem? (i := 747) rfl
set_option maxRecDepth 100000 in
theorem kw704 : Jvm.Cond.methodLink "AccessGateLaw" (167 : Nat) ({ cls := "AccessGateLaw", name := "seal", desc := "(LAccessGate;I[J)I" } : Jvm.MethodName) ∈ lw_tbl := List.mem_of_getElem? (i := 749) rfl
set_option maxRecDepth 100000 in
theorem kw705 : Jvm.Cond.static ({ cls := "AccessGateLaw", name := "seal", desc := "(LAccessGate;I[J)I" } : Jvm.MethodName) ∈ lw_tbl := List.mem_of_getElem? (i := 750) rfl
set_option maxRecDepth 100000 in
theorem kw706 : Jvm.Cond.codeWith ({ cls := "AccessGateLaw", name := "seal", desc := "(LAccessGate;I[J)I" } : Jvm.MethodName) method_22_code (4 : Nat) (Option.some Jvm.ClassFile.FieldType.int) [((0 : Nat), (9 : Nat), (12 : Nat), (24 : Nat))] ∈ lw_tbl := List.mem_of_getElem? (i := 751) rfl
set_option maxRecDepth 100000 in
theorem kw707 : Jvm.Cond.methodLink "AccessGateLaw" (80 : Nat) ({ cls := "AccessGate", name := "seal", desc := "(I)I" } : Jvm.MethodName) ∈ lw_tbl := List.mem_of_getElem? (i := 752) rfl
set_option maxRecDepth 100000 in
theorem kw708 : Jvm.Cond.instanceMethod ({ cls := "AccessGate", name := "seal", desc := "(I)I" } : Jvm.MethodName) ∈ lw_tbl := List.mem_of_getElem? (i := 753) rfl
set_option maxRecDepth 100000 in
theorem kw709 : Jvm.Cond.selects "AccessGate" ({ cls := "AccessGate", name := "seal", desc := "(I)I" } : Jvm.MethodName) ({ cls := "AccessGate", name := "seal", desc := "(I)I" } : Jvm.MethodName) ∈ lw_tbl := List.mem_of_getElem? (i := 754) rfl
set_option maxRecDepth 100000 in
theorem kw710 : Jvm.Cond.code ({ cls := "AccessGate", name := "seal", desc := "(I)I" } : Jvm.MethodName) prog_1_method_24_code (2 : Nat) (Option.some Jvm.ClassFile.FieldType.int) ∈ lw_tbl := List.mem_of_getElem? (i := 755) rfl
set_option maxRecDepth 100000 in
theorem kw711 : Jvm.Cond.classLink "AccessGateLaw" (84 : Nat) "AccessGateModel" ∈ lw_tbl := List.mem_of_getElem? (i := 756) rfl
set_option maxRecDepth 100000 in
theorem kw712 : Jvm.Cond.instantiable "AccessGateModel" (34 : Nat) ∈ lw_tbl := List.mem_of_getElem? (i := 757) rfl
set_option maxRecDepth 100000 in
theorem kw713 : Jvm.Cond.methodLink "AccessGateLaw" (86 : Nat) ({ cls := "AccessGateModel", name := "<init>", desc := "()V" } : Jvm.MethodName) ∈ lw_tbl := List.mem_of_getElem? (i := 758) rfl
set_option maxRecDepth 100000 in
theorem kw714 : Jvm.Cond.instanceMethod ({ cls := "AccessGateModel", name := "<init>", desc := "()V" } : Jvm.MethodName) ∈ lw_tbl := List.mem_of_getElem? (i := 759) rfl
set_option maxRecDepth 100000 in
theorem kw715 : Jvm.Cond.code ({ cls := "AccessGateModel", name := "<init>", desc := "()V" } : Jvm.MethodName) prog_10_method_1_code (1 : Nat) (Option.none : Option Jvm.ClassFile.FieldType) ∈ lw_tbl := List.mem_of_getElem? (i := 760) rfl
set_option maxRecDepth 100000 in
theorem kw716 : Jvm.Cond.methodLink "AccessGateModel" (1 : Nat) ({ cls := "java/lang/Object", name := "<init>", desc := "()V" } : Jvm.MethodName) ∈ lw_tbl := List.mem_of_getElem? (i := 761) rfl
set_option maxRecDepth 100000 in
theorem kw717 : Jvm.Cond.fieldLink "AccessGateModel" (7 : Nat) "AccessGateModel" "teams" "[I" ∈ lw_tbl := List.mem_of_getElem? (i := 762) rfl
set_option maxRecDepth 100000 in
theorem kw718 : Jvm.Cond.fieldLink "AccessGateModel" (13 : Nat) "AccessGateModel" "labels" "[Z" ∈ lw_tbl := List.mem_of_getElem? (i := 763) rfl
set_option maxRecDepth 100000 in
theorem kw719 : Jvm.Cond.fieldLink "AccessGateModel" (90 : Nat) "AccessGateModel" "people" "I" ∈ lw_tbl := List.mem_of_getElem? (i := 764) rfl
set_option maxRecDepth 100000 in
theorem kw720 : Jvm.Cond.fieldLink "AccessGateModel" (17 : Nat) "AccessGateModel" "labelOf" "[I" ∈ lw_tbl := List.mem_of_getElem? (i := 765) rfl
set_option maxRecDepth 100000 in
theorem kw721 : Jvm.Cond.fieldLink "AccessGateModel" (97 : Nat) "AccessGateModel" "machines" "I" ∈ lw_tbl := List.mem_of_getElem? (i := 766) rfl
set_option maxRecDepth 100000 in
theorem kw722 : Jvm.Cond.fieldLink "AccessGateModel" (119 : Nat) "AccessGateModel" "clock" "I" ∈ lw_tbl := List.mem_of_getElem? (i := 767) rfl
set_option maxRecDepth 100000 in
theorem kw723 : Jvm.Cond.fieldLink "AccessGateModel" (20 : Nat) "AccessGateModel" "rightPeople" "[I" ∈ lw_tbl := List.mem_of_getElem? (i := 768) rfl
set_option maxRecDepth 100000 in
theorem kw724 : Jvm.Cond.fieldLink "AccessGateModel" (23 : Nat) "AccessGateModel" "rightMachines" "[I" ∈ lw_tbl := List.mem_of_getElem? (i := 769) rfl
set_option maxRecDepth 100000 in
theorem kw725 : Jvm.Cond.fieldLink "AccessGateModel" (26 : Nat) "AccessGateModel" "begins" "[I" ∈ lw_tbl := List.mem_of_getElem? (i := 770) rfl
set_option maxRecDepth 100000 in
theorem kw726 : Jvm.Cond.fieldLink "AccessGateModel" (29 : Nat) "AccessGateModel" "ends" "[I" ∈ lw_tbl := List.mem_of_getElem? (i := 771) rfl
set_option maxRecDepth 100000 in
theorem kw727 : Jvm.Cond.fieldLink "AccessGateModel" (127 : Nat) "AccessGateModel" "rights" "I" ∈ lw_tbl := List.mem_of_getElem? (i := 772) rfl
set_option maxRecDepth 100000 in
theorem kw728 : Jvm.Cond.fieldLink "AccessGateModel" (32 : Nat) "AccessGateModel" "askPeople" "[I" ∈ lw_tbl := List.mem_of_getElem? (i := 773) rfl
set_option maxRecDepth 100000 in
theorem kw729 : Jvm.Cond.fieldLink "AccessGateModel" (35 : Nat) "AccessGateModel" "askMachines" "[I" ∈ lw_tbl := List.mem_of_getElem? (i := 774) rfl
set_option maxRecDepth 100000 in
theorem kw730 : Jvm.Cond.fieldLink "AccessGateModel" (38 : Nat) "AccessGateModel" "askMinutes" "[I" ∈ lw_tbl := List.mem_of_getElem? (i := 775) rfl
set_option maxRecDepth 100000 in
theorem kw731 : Jvm.Cond.fieldLink "AccessGateModel" (41 : Nat) "AccessGateModel" "askTimes" "[I" ∈ lw_tbl := List.mem_of_getElem? (i := 776) rfl
set_option maxRecDepth 100000 in
theorem kw732 : Jvm.Cond.fieldLink "AccessGateModel" (44 : Nat) "AccessGateModel" "askStates" "[I" ∈ lw_tbl := List.mem_of_getElem? (i := 777) rfl
set_option maxRecDepth 100000 in
theorem kw733 : Jvm.Cond.fieldLink "AccessGateModel" (47 : Nat) "AccessGateModel" "firstBy" "[I" ∈ lw_tbl := List.mem_of_getElem? (i := 778) rfl
set_option maxRecDepth 100000 in
theorem kw734 : Jvm.Cond.fieldLink "AccessGateModel" (107 : Nat) "AccessGateModel" "asks" "I" ∈ lw_tbl := List.mem_of_getElem? (i := 779) rfl
set_option maxRecDepth 100000 in
theorem kw735 : Jvm.Cond.fieldLink "AccessGateModel" (50 : Nat) "AccessGateModel" "entryPeople" "[I" ∈ lw_tbl := List.mem_of_getElem? (i := 780) rfl
set_option maxRecDepth 100000 in
theorem kw736 : Jvm.Cond.fieldLink "AccessGateModel" (53 : Nat) "AccessGateModel" "entryMachines" "[I" ∈ lw_tbl := List.mem_of_getElem? (i := 781) rfl
set_option maxRecDepth 100000 in
theorem kw737 : Jvm.Cond.fieldLink "AccessGateModel" (56 : Nat) "AccessGateModel" "entryTimes" "[I" ∈ lw_tbl := List.mem_of_getElem? (i := 782) rfl
set_option maxRecDepth 100000 in
theorem kw738 : Jvm.Cond.fieldLink "AccessGateModel" (59 : Nat) "AccessGateModel" "looked" "[Z" ∈ lw_tbl := List.mem_of_getElem? (i := 783) rfl
set_option maxRecDepth 100000 in
theorem kw739 : Jvm.Cond.fieldLink "AccessGateModel" (110 : Nat) "AccessGateModel" "entries" "I" ∈ lw_tbl := List.mem_of_getElem? (i := 784) rfl
set_option maxRecDepth 100000 in
theorem kw740 : Jvm.Cond.fieldLink "AccessGateModel" (62 : Nat) "AccessGateModel" "sessionPeople" "[I" ∈ lw_tbl := List.mem_of_getElem? (i := 785) rfl
set_option maxRecDepth 100000 in
theorem kw741 : Jvm.Cond.fieldLink "AccessGateModel" (65 : Nat) "AccessGateModel" "sessionMachines" "[I" ∈ lw_tbl := List.mem_of_getElem? (i := 786) rfl
set_option maxRecDepth 100000 in
theorem kw742 : Jvm.Cond.fieldLink "AccessGateModel" (68 : Nat) "AccessGateModel" "opens" "[Z" ∈ lw_tbl := List.mem_of_getElem? (i := 787) rfl
set_option maxRecDepth 100000 in
theorem kw743 : Jvm.Cond.fieldLink "AccessGateModel" (71 : Nat) "AccessGateModel" "typed" "[I" ∈ lw_tbl := List.mem_of_getElem? (i := 788) rfl
set_option maxRecDepth 100000 in
theorem kw744 : Jvm.Cond.fieldLink "AccessGateModel" (74 : Nat) "AccessGateModel" "held" "[I" ∈ lw_tbl := List.mem_of_getElem? (i := 789) rfl
set_option maxRecDepth 100000 in
theorem kw745 : Jvm.Cond.fieldLink "AccessGateModel" (77 : Nat) "AccessGateModel" "through" "[I" ∈ lw_tbl := List.mem_of_getElem? (i := 790) rfl
set_option maxRecDepth 100000 in
theorem kw746 : Jvm.Cond.fieldLink "AccessGateModel" (113 : Nat) "AccessGateModel" "sessions" "I" ∈ lw_tbl := List.mem_of_getElem? (i := 791) rfl
set_option maxRecDepth 100000 in
theorem kw747 : Jvm.Cond.fieldLink "AccessGateModel" (80 : Nat) "AccessGateModel" "kinds" "[I" ∈ lw_tbl := List.mem_of_getElem? (i := 792) rfl
set_option maxRecDepth 100000 in
theorem kw748 : Jvm.Cond.fieldLink "AccessGateModel" (83 : Nat) "AccessGateModel" "seals" "[I" ∈ lw_tbl := List.mem_of_getElem? (i := 793) rfl
set_option maxRecDepth 100000 in
theorem kw749 : Jvm.Cond.fieldLink "AccessGateModel" (116 : Nat) "AccessGateModel" "steps" "I" ∈ lw_tbl := List.mem_of_getElem? (i := 794) rfl
set_option maxRecDepth 100000 in
theorem kw750 : Jvm.Cond.fieldLink "AccessGateModel" (86 : Nat) "AccessGateModel" "last" "I" ∈ lw_tbl := List.mem_of_getElem? (i := 795) rfl
set_option maxRecDepth 100000 in
theorem kw820 : Jvm.Cond.arrayClass Jvm.ClassFile.FieldType.boolean ∈ lw_tbl := List.mem_of_getElem? (i := 865) rfl
set_option maxRecDepth 100000 in
theorem kw821 : Jvm.Cond.methodLink "AccessGateLaw" (93 : Nat) ({ cls := "AccessGateModel", name := "thrown", desc := "()I" } : Jvm.MethodName) ∈ lw_tbl := List.mem_of_getElem? (i := 866) rfl
set_option maxRecDepth 100000 in
theorem kw822 : Jvm.Cond.instanceMethod ({ cls := "AccessGateModel", name := "thrown", desc := "()I" } : Jvm.MethodName) ∈ lw_tbl := List.mem_of_getElem? (i := 867) rfl
set_option maxRecDepth 100000 in
theorem kw823 : Jvm.Cond.selects "AccessGateModel" ({ cls := "AccessGateModel", name := "thrown", desc := "()I" } : Jvm.MethodName) ({ cls := "AccessGateModel", name := "thrown", desc := "()I" } : Jvm.MethodName) ∈ lw_tbl := List.mem_of_getElem? (i := 868) rfl
set_option maxRecDepth 100000 in
theorem kw824 : Jvm.Cond.code ({ cls := "AccessGateModel", name := "thrown", desc := "()I" } : Jvm.MethodName) prog_10_method_2_code (1 : Nat) (Option.some Jvm.ClassFile.FieldType.int) ∈ lw_tbl := List.mem_of_getElem? (i := 869) rfl
set_option maxRecDepth 100000 in
theorem kw825 : Jvm.Cond.methodLink "AccessGateLaw" (92 : Nat) ({ cls := "AccessGateModel", name := "addPerson", desc := "(I)I" } : Jvm.MethodName) ∈ lw_tbl := List.mem_of_getElem? (i := 870) rfl
set_option maxRecDepth 100000 in
theorem kw826 : Jvm.Cond.instanceMethod ({ cls := "AccessGateModel", name := "addPerson", desc := "(I)I" } : Jvm.MethodName) ∈ lw_tbl := List.mem_of_getElem? (i := 871) rfl
set_option maxRecDepth 100000 in
theorem kw827 : Jvm.Cond.selects "AccessGateModel" ({ cls := "AccessGateModel", name := "addPerson", desc := "(I)I" } : Jvm.MethodName) ({ cls := "AccessGateModel", name := "addPerson", desc := "(I)I" } : Jvm.MethodName) ∈ lw_tbl := List.mem_of_getElem? (i := 872) rfl
set_option maxRecDepth 100000 in
theorem kw828 : Jvm.Cond.code ({ cls := "AccessGateModel", name := "addPerson", desc := "(I)I" } : Jvm.MethodName) prog_10_method_12_code (2 : Nat) (Option.some Jvm.ClassFile.FieldType.int) ∈ lw_tbl := List.mem_of_getElem? (i := 873) rfl
set_option maxRecDepth 100000 in
theorem kw829 : Jvm.Cond.methodLink "AccessGateModel" (93 : Nat) ({ cls := "AccessGateModel", name := "in", desc := "(III)Z" } : Jvm.MethodName) ∈ lw_tbl := List.mem_of_getElem? (i := 874) rfl
set_option maxRecDepth 100000 in
theorem kw830 : Jvm.Cond.static ({ cls := "AccessGateModel", name := "in", desc := "(III)Z" } : Jvm.MethodName) ∈ lw_tbl := List.mem_of_getElem? (i := 875) rfl
set_option maxRecDepth 100000 in
theorem kw831 : Jvm.Cond.code ({ cls := "AccessGateModel", name := "in", desc := "(III)Z" } : Jvm.MethodName) prog_10_method_3_code (3 : Nat) (Option.some Jvm.ClassFile.FieldType.boolean) ∈ lw_tbl := List.mem_of_getElem? (i := 876) rfl
set_option maxRecDepth 100000 in
theorem kw832 : Jvm.Cond.methodLink "AccessGateModel" (123 : Nat) ({ cls := "AccessGateModel", name := "goes", desc := "(ZZZ)Z" } : Jvm.MethodName) ∈ lw_tbl := List.mem_of_getElem? (i := 877) rfl
set_option maxRecDepth 100000 in
theorem kw834 : Jvm.Cond.instanceMethod ({ cls := "AccessGateModel", name := "goes", desc := "(ZZZ)Z" } : Jvm.MethodName) ∈ lw_tbl := List.mem_of_getElem? (i := 879) rfl
set_option maxRecDepth 100000 in
theorem kw835 : Jvm.Cond.code ({ cls := "AccessGateModel", name := "goes", desc := "(ZZZ)Z" } : Jvm.MethodName) prog_10_method_4_code (4 : Nat) (Option.some Jvm.ClassFile.FieldType.boolean) ∈ lw_tbl := List.mem_of_getElem? (i := 880) rfl
set_option maxRecDepth 100000 in
theorem kw836 : Jvm.Cond.methodLink "AccessGateLaw" (99 : Nat) ({ cls := "AccessGateModel", name := "addMachine", desc := "(I)I" } : Jvm.MethodName) ∈ lw_tbl := List.mem_of_getElem? (i := 881) rfl
set_option maxRecDepth 100000 in
theorem kw837 : Jvm.Cond.instanceMethod ({ cls := "AccessGateModel", name := "addMachine", desc := "(I)I" } : Jvm.MethodName) ∈ lw_tbl := List.mem_of_getElem? (i := 882) rfl
set_option maxRecDepth 100000 in
theorem kw838 : Jvm.Cond.selects "AccessGateModel" ({ cls := "AccessGateModel", name := "addMachine", desc := "(I)I" } : Jvm.MethodName) ({ cls := "AccessGateModel", name := "addMachine", desc := "(I)I" } : Jvm.MethodName) ∈ lw_tbl := List.mem_of_getElem? (i := 883) rfl
set_option maxRecDepth 100000 in
theorem kw839 : Jvm.Cond.code ({ cls := "AccessGateModel", name := "addMachine", desc := "(I)I" } : Jvm.MethodName) prog_10_method_13_code (2 : Nat) (Option.some Jvm.ClassFile.FieldType.int) ∈ lw_tbl := List.mem_of_getElem? (i := 884) rfl
set_option maxRecDepth 100000 in
theorem kw840 : Jvm.Cond.methodLink "AccessGateLaw" (103 : Nat) ({ cls := "AccessGateModel", name := "setLabel", desc := "(IIZ)I" } : Jvm.MethodName) ∈ lw_tbl := List.mem_of_getElem? (i := 885) rfl
set_option maxRecDepth 100000 in
theorem kw841 : Jvm.Cond.instanceMethod ({ cls := "AccessGateModel", name := "setLabel", desc := "(IIZ)I" } : Jvm.MethodName) ∈ lw_tbl := List.mem_of_getElem? (i := 886) rfl
set_option maxRecDepth 100000 in
theorem kw842 : Jvm.Cond.selects "AccessGateModel" ({ cls := "AccessGateModel", name := "setLabel", desc := "(IIZ)I" } : Jvm.MethodName) ({ cls := "AccessGateModel", name := "setLabel", desc := "(IIZ)I" } : Jvm.MethodName) ∈ lw_tbl := List.mem_of_getElem? (i := 887) rfl
set_option maxRecDepth 100000 in
theorem kw843 : Jvm.Cond.code ({ cls := "AccessGateModel", name := "setLabel", desc := "(IIZ)I" } : Jvm.MethodName) prog_10_method_21_code (5 : Nat) (Option.some Jvm.ClassFile.FieldType.int) ∈ lw_tbl := List.mem_of_getElem? (i := 888) rfl
set_option maxRecDepth 100000 in
theorem kw844 : Jvm.Cond.methodLink "AccessGateModel" (100 : Nat) ({ cls := "AccessGateModel", name := "isPerson", desc := "(I)Z" } : Jvm.MethodName) ∈ lw_tbl := List.mem_of_getElem? (i := 889) rfl
set_option maxRecDepth 100000 in
theorem kw846 : Jvm.Cond.instanceMethod ({ cls := "AccessGateModel", name := "isPerson", desc := "(I)Z" } : Jvm.MethodName) ∈ lw_tbl := List.mem_of_getElem? (i := 891) rfl
set_option maxRecDepth 100000 in
theorem kw847 : Jvm.Cond.code ({ cls := "AccessGateModel", name := "isPerson", desc := "(I)Z" } : Jvm.MethodName) prog_10_method_5_code (2 : Nat) (Option.some Jvm.ClassFile.FieldType.boolean) ∈ lw_tbl := List.mem_of_getElem? (i := 892) rfl
set_option maxRecDepth 100000 in
theorem kw848 : Jvm.Cond.methodLink "AccessGateModel" (141 : Nat) ({ cls := "AccessGateModel", name := "endsRights", desc := "(II)V" } : Jvm.MethodName) ∈ lw_tbl := List.mem_of_getElem? (i := 893) rfl
set_option maxRecDepth 100000 in
theorem kw850 : Jvm.Cond.instanceMethod ({ cls := "AccessGateModel", name := "endsRights", desc := "(II)V" } : Jvm.MethodName) ∈ lw_tbl := List.mem_of_getElem? (i := 895) rfl
set_option maxRecDepth 100000 in
theorem kw851 : Jvm.Cond.code ({ cls := "AccessGateModel", name := "endsRights", desc := "(II)V" } : Jvm.MethodName) prog_10_method_17_code (5 : Nat) (Option.none : Option Jvm.ClassFile.FieldType) ∈ lw_tbl := List.mem_of_getElem? (i := 896) rfl
set_option maxRecDepth 100000 in
theorem kw852 : Jvm.Cond.methodLink "AccessGateModel" (145 : Nat) ({ cls := "AccessGateModel", name := "deniesAsks", desc := "(II)V" } : Jvm.MethodName) ∈ lw_tbl := List.mem_of_getElem? (i := 897) rfl
set_option maxRecDepth 100000 in
theorem kw854 : Jvm.Cond.instanceMethod ({ cls := "AccessGateModel", name := "deniesAsks", desc := "(II)V" } : Jvm.MethodName) ∈ lw_tbl := List.mem_of_getElem? (i := 899) rfl
set_option maxRecDepth 100000 in
theorem kw855 : Jvm.Cond.code ({ cls := "AccessGateModel", name := "deniesAsks", desc := "(II)V" } : Jvm.MethodName) prog_10_method_18_code (5 : Nat) (Option.none : Option Jvm.ClassFile.FieldType) ∈ lw_tbl := List.mem_of_getElem? (i := 900) rfl
set_option maxRecDepth 100000 in
theorem kw856 : Jvm.Cond.methodLink "AccessGateModel" (148 : Nat) ({ cls := "AccessGateModel", name := "closes", desc := "(I)I" } : Jvm.MethodName) ∈ lw_tbl := List.mem_of_getElem? (i := 901) rfl
set_option maxRecDepth 100000 in
theorem kw858 : Jvm.Cond.instanceMethod ({ cls := "AccessGateModel", name := "closes", desc := "(I)I" } : Jvm.MethodName) ∈ lw_tbl := List.mem_of_getElem? (i := 903) rfl
set_option maxRecDepth 100000 in
theorem kw859 : Jvm.Cond.code ({ cls := "AccessGateModel", name := "closes", desc := "(I)I" } : Jvm.MethodName) prog_10_method_20_code (4 : Nat) (Option.some Jvm.ClassFile.FieldType.int) ∈ lw_tbl := List.mem_of_getElem? (i := 904) rfl
set_option maxRecDepth 100000 in
theorem kw860 : Jvm.Cond.methodLink "AccessGateModel" (134 : Nat) ({ cls := "AccessGateModel", name := "holdsAt", desc := "(III)Z" } : Jvm.MethodName) ∈ lw_tbl := List.mem_of_getElem? (i := 905) rfl
set_option maxRecDepth 100000 in
theorem kw862 : Jvm.Cond.instanceMethod ({ cls := "AccessGateModel", name := "holdsAt", desc := "(III)Z" } : Jvm.MethodName) ∈ lw_tbl := List.mem_of_getElem? (i := 907) rfl
set_option maxRecDepth 100000 in
theorem kw863 : Jvm.Cond.code ({ cls := "AccessGateModel", name := "holdsAt", desc := "(III)Z" } : Jvm.MethodName) prog_10_method_15_code (6 : Nat) (Option.some Jvm.ClassFile.FieldType.boolean) ∈ lw_tbl := List.mem_of_getElem? (i := 908) rfl
set_option maxRecDepth 100000 in
theorem kw864 : Jvm.Cond.methodLink "AccessGateModel" (137 : Nat) ({ cls := "AccessGateModel", name := "shuts", desc := "(I)V" } : Jvm.MethodName) ∈ lw_tbl := List.mem_of_getElem? (i := 909) rfl
set_option maxRecDepth 100000 in
theorem kw866 : Jvm.Cond.instanceMethod ({ cls := "AccessGateModel", name := "shuts", desc := "(I)V" } : Jvm.MethodName) ∈ lw_tbl := List.mem_of_getElem? (i := 911) rfl
set_option maxRecDepth 100000 in
theorem kw867 : Jvm.Cond.code ({ cls := "AccessGateModel", name := "shuts", desc := "(I)V" } : Jvm.MethodName) prog_10_method_19_code (2 : Nat) (Option.none : Option Jvm.ClassFile.FieldType) ∈ lw_tbl := List.mem_of_getElem? (i := 912) rfl
set_option maxRecDepth 100000 in
theorem kw868 : Jvm.Cond.methodLink "AccessGateModel" (130 : Nat) ({ cls := "AccessGateModel", name := "writes", desc := "(III)V" } : Jvm.MethodName) ∈ lw_tbl := List.mem_of_getElem? (i := 913) rfl
set_option maxRecDepth 100000 in
theorem kw870 : Jvm.Cond.instanceMethod ({ cls := "AccessGateModel", name := "writes", desc := "(III)V" } : Jvm.MethodName) ∈ lw_tbl := List.mem_of_getElem? (i := 915) rfl
set_option maxRecDepth 100000 in
theorem kw871 : Jvm.Cond.code ({ cls := "AccessGateModel", name := "writes", desc := "(III)V" } : Jvm.MethodName) prog_10_method_11_code (5 : Nat) (Option.none : Option Jvm.ClassFile.FieldType) ∈ lw_tbl := List.mem_of_getElem? (i := 916) rfl
set_option maxRecDepth 100000 in
theorem kw872 : Jvm.Cond.constant "AccessGateModel" (122 : Nat) (1000003 : Int32) ∈ lw_tbl := List.mem_of_getElem? (i := 917) rfl
set_option maxRecDepth 100000 in
theorem kw873 : Jvm.Cond.methodLink "AccessGateLaw" (107 : Nat) ({ cls := "AccessGateModel", name := "takeAway", desc := "(II)I" } : Jvm.MethodName) ∈ lw_tbl := List.mem_of_getElem? (i := 918) rfl
set_option maxRecDepth 100000 in
theorem kw874 : Jvm.Cond.instanceMethod ({ cls := "AccessGateModel", name := "takeAway", desc := "(II)I" } : Jvm.MethodName) ∈ lw_tbl := List.mem_of_getElem? (i := 919) rfl
set_option maxRecDepth 100000 in
theorem kw875 : Jvm.Cond.selects "AccessGateModel" ({ cls := "AccessGateModel", name := "takeAway", desc := "(II)I" } : Jvm.MethodName) ({ cls := "AccessGateModel", name := "takeAway", desc := "(II)I" } : Jvm.MethodName) ∈ lw_tbl := List.mem_of_getElem? (i := 920) rfl
set_option maxRecDepth 100000 in
theorem kw876 : Jvm.Cond.code ({ cls := "AccessGateModel", name := "takeAway", desc := "(II)I" } : Jvm.MethodName) prog_10_method_22_code (3 : Nat) (Option.some Jvm.ClassFile.FieldType.int) ∈ lw_tbl := List.mem_of_getElem? (i := 921) rfl
set_option maxRecDepth 100000 in
theorem kw877 : Jvm.Cond.methodLink "AccessGateModel" (152 : Nat) ({ cls := "AccessGateModel", name := "areBoth", desc := "(II)Z" } : Jvm.MethodName) ∈ lw_tbl := List.mem_of_getElem? (i := 922) rfl
set_option maxRecDepth 100000 in
theorem kw879 : Jvm.Cond.instanceMethod ({ cls := "AccessGateModel", name := "areBoth", desc := "(II)Z" } : Jvm.MethodName) ∈ lw_tbl := List.mem_of_getElem? (i := 924) rfl
set_option maxRecDepth 100000 in
theorem kw880 : Jvm.Cond.code ({ cls := "AccessGateModel", name := "areBoth", desc := "(II)Z" } : Jvm.MethodName) prog_10_method_7_code (3 : Nat) (Option.some Jvm.ClassFile.FieldType.boolean) ∈ lw_tbl := List.mem_of_getElem? (i := 925) rfl
set_option maxRecDepth 100000 in
theorem kw881 : Jvm.Cond.methodLink "AccessGateModel" (104 : Nat) ({ cls := "AccessGateModel", name := "isMachine", desc := "(I)Z" } : Jvm.MethodName) ∈ lw_tbl := List.mem_of_getElem? (i := 926) rfl
set_option maxRecDepth 100000 in
theorem kw883 : Jvm.Cond.instanceMethod ({ cls := "AccessGateModel", name := "isMachine", desc := "(I)Z" } : Jvm.MethodName) ∈ lw_tbl := List.mem_of_getElem? (i := 928) rfl
set_option maxRecDepth 100000 in
theorem kw884 : Jvm.Cond.code ({ cls := "AccessGateModel", name := "isMachine", desc := "(I)Z" } : Jvm.MethodName) prog_10_method_6_code (2 : Nat) (Option.some Jvm.ClassFile.FieldType.boolean) ∈ lw_tbl := List.mem_of_getElem? (i := 929) rfl
set_option maxRecDepth 100000 in
theorem kw885 : Jvm.Cond.methodLink "AccessGateLaw" (111 : Nat) ({ cls := "AccessGateModel", name := "ask", desc := "(III)I" } : Jvm.MethodName) ∈ lw_tbl := List.mem_of_getElem? (i := 930) rfl
set_option maxRecDepth 100000 in
theorem kw886 : Jvm.Cond.instanceMethod ({ cls := "AccessGateModel", name := "ask", desc := "(III)I" } : Jvm.MethodName) ∈ lw_tbl := List.mem_of_getElem? (i := 931) rfl
set_option maxRecDepth 100000 in
theorem kw887 : Jvm.Cond.selects "AccessGateModel" ({ cls := "AccessGateModel", name := "ask", desc := "(III)I" } : Jvm.MethodName) ({ cls := "AccessGateModel", name := "ask", desc := "(III)I" } : Jvm.MethodName) ∈ lw_tbl := List.mem_of_getElem? (i := 932) rfl
set_option maxRecDepth 100000 in
theorem kw888 : Jvm.Cond.code ({ cls := "AccessGateModel", name := "ask", desc := "(III)I" } : Jvm.MethodName) prog_10_method_25_code (4 : Nat) (Option.some Jvm.ClassFile.FieldType.int) ∈ lw_tbl := List.mem_of_getElem? (i := 933) rfl
set_option maxRecDepth 100000 in
theorem kw889 : Jvm.Cond.methodLink "AccessGateModel" (162 : Nat) ({ cls := "AccessGateModel", name := "canAsk", desc := "(II)Z" } : Jvm.MethodName) ∈ lw_tbl := List.mem_of_getElem? (i := 934) rfl
set_option maxRecDepth 100000 in
theorem kw891 : Jvm.Cond.instanceMethod ({ cls := "AccessGateModel", name := "canAsk", desc := "(II)Z" } : Jvm.MethodName) ∈ lw_tbl := List.mem_of_getElem? (i := 936) rfl
set_option maxRecDepth 100000 in
theorem kw892 : Jvm.Cond.code ({ cls := "AccessGateModel", name := "canAsk", desc := "(II)Z" } : Jvm.MethodName) prog_10_method_24_code (3 : Nat) (Option.some Jvm.ClassFile.FieldType.boolean) ∈ lw_tbl := List.mem_of_getElem? (i := 937) rfl
set_option maxRecDepth 100000 in
theorem kw893 : Jvm.Cond.methodLink "AccessGateModel" (156 : Nat) ({ cls := "AccessGateModel", name := "hasLabel", desc := "(II)Z" } : Jvm.MethodName) ∈ lw_tbl := List.mem_of_getElem? (i := 938) rfl
set_option maxRecDepth 100000 in
theorem kw895 : Jvm.Cond.instanceMethod ({ cls := "AccessGateModel", name := "hasLabel", desc := "(II)Z" } : Jvm.MethodName) ∈ lw_tbl := List.mem_of_getElem? (i := 940) rfl
set_option maxRecDepth 100000 in
theorem kw896 : Jvm.Cond.code ({ cls := "AccessGateModel", name := "hasLabel", desc := "(II)Z" } : Jvm.MethodName) prog_10_method_14_code (3 : Nat) (Option.some Jvm.ClassFile.FieldType.boolean) ∈ lw_tbl := List.mem_of_getElem? (i := 941) rfl
set_option maxRecDepth 100000 in
theorem kw897 : Jvm.Cond.methodLink "AccessGateModel" (159 : Nat) ({ cls := "AccessGateModel", name := "overdues", desc := "(I)I" } : Jvm.MethodName) ∈ lw_tbl := List.mem_of_getElem? (i := 942) rfl
set_option maxRecDepth 100000 in
theorem kw899 : Jvm.Cond.instanceMethod ({ cls := "AccessGateModel", name := "overdues", desc := "(I)I" } : Jvm.MethodName) ∈ lw_tbl := List.mem_of_getElem? (i := 944) rfl
set_option maxRecDepth 100000 in
theorem kw900 : Jvm.Cond.code ({ cls := "AccessGateModel", name := "overdues", desc := "(I)I" } : Jvm.MethodName) prog_10_method_23_code (4 : Nat) (Option.some Jvm.ClassFile.FieldType.int) ∈ lw_tbl := List.mem_of_getElem? (i := 945) rfl
set_option maxRecDepth 100000 in
theorem kw901 : Jvm.Cond.methodLink "AccessGateLaw" (114 : Nat) ({ cls := "AccessGateModel", name := "approve", desc := "(II)Z" } : Jvm.MethodName) ∈ lw_tbl := List.mem_of_getElem? (i := 946) rfl
set_option maxRecDepth 100000 in
theorem kw902 : Jvm.Cond.instanceMethod ({ cls := "AccessGateModel", name := "approve", desc := "(II)Z" } : Jvm.MethodName) ∈ lw_tbl := List.mem_of_getElem? (i := 947) rfl
set_option maxRecDepth 100000 in
theorem kw903 : Jvm.Cond.selects "AccessGateModel" ({ cls := "AccessGateModel", name := "approve", desc := "(II)Z" } : Jvm.MethodName) ({ cls := "AccessGateModel", name := "approve", desc := "(II)Z" } : Jvm.MethodName) ∈ lw_tbl := List.mem_of_getElem? (i := 948) rfl
set_option maxRecDepth 100000 in
theorem kw904 : Jvm.Cond.code ({ cls := "AccessGateModel", name := "approve", desc := "(II)Z" } : Jvm.MethodName) prog_10_method_27_code (4 : Nat) (Option.some Jvm.ClassFile.FieldType.boolean) ∈ lw_tbl := List.mem_of_getElem? (i := 949) rfl
set_option maxRecDepth 100000 in
theorem kw905 : Jvm.Cond.methodLink "AccessGateModel" (168 : Nat) ({ cls := "AccessGateModel", name := "canJudge", desc := "(II)Z" } : Jvm.MethodName) ∈ lw_tbl := List.mem_of_getElem? (i := 950) rfl
set_option maxRecDepth 100000 in
theorem kw907 : Jvm.Cond.instanceMethod ({ cls := "AccessGateModel", name := "canJudge", desc := "(II)Z" } : Jvm.MethodName) ∈ lw_tbl := List.mem_of_getElem? (i := 952) rfl
set_option maxRecDepth 100000 in
theorem kw908 : Jvm.Cond.code ({ cls := "AccessGateModel", name := "canJudge", desc := "(II)Z" } : Jvm.MethodName) prog_10_method_26_code (3 : Nat) (Option.some Jvm.ClassFile.FieldType.boolean) ∈ lw_tbl := List.mem_of_getElem? (i := 953) rfl
set_option maxRecDepth 100000 in
theorem kw909 : Jvm.Cond.methodLink "AccessGateModel" (165 : Nat) ({ cls := "AccessGateModel", name := "isAsk", desc := "(I)Z" } : Jvm.MethodName) ∈ lw_tbl := List.mem_of_getElem? (i := 954) rfl
set_option maxRecDepth 100000 in
theorem kw911 : Jvm.Cond.instanceMethod ({ cls := "AccessGateModel", name := "isAsk", desc := "(I)Z" } : Jvm.MethodName) ∈ lw_tbl := List.mem_of_getElem? (i := 956) rfl
set_option maxRecDepth 100000 in
theorem kw912 : Jvm.Cond.code ({ cls := "AccessGateModel", name := "isAsk", desc := "(I)Z" } : Jvm.MethodName) prog_10_method_8_code (2 : Nat) (Option.some Jvm.ClassFile.FieldType.boolean) ∈ lw_tbl := List.mem_of_getElem? (i := 957) rfl
set_option maxRecDepth 100000 in
theorem kw913 : Jvm.Cond.methodLink "AccessGateModel" (171 : Nat) ({ cls := "AccessGateModel", name := "grants", desc := "(III)V" } : Jvm.MethodName) ∈ lw_tbl := List.mem_of_getElem? (i := 958) rfl
set_option maxRecDepth 100000 in
theorem kw915 : Jvm.Cond.instanceMethod ({ cls := "AccessGateModel", name := "grants", desc := "(III)V" } : Jvm.MethodName) ∈ lw_tbl := List.mem_of_getElem? (i := 960) rfl
set_option maxRecDepth 100000 in
theorem kw916 : Jvm.Cond.code ({ cls := "AccessGateModel", name := "grants", desc := "(III)V" } : Jvm.MethodName) prog_10_method_16_code (4 : Nat) (Option.none : Option Jvm.ClassFile.FieldType) ∈ lw_tbl := List.mem_of_getElem? (i := 961) rfl
set_option maxRecDepth 100000 in
theorem kw917 : Jvm.Cond.methodLink "AccessGateLaw" (118 : Nat) ({ cls := "AccessGateModel", name := "deny", desc := "(II)V" } : Jvm.MethodName) ∈ lw_tbl := List.mem_of_getElem? (i := 962) rfl
set_option maxRecDepth 100000 in
theorem kw918 : Jvm.Cond.instanceMethod ({ cls := "AccessGateModel", name := "deny", desc := "(II)V" } : Jvm.MethodName) ∈ lw_tbl := List.mem_of_getElem? (i := 963) rfl
set_option maxRecDepth 100000 in
theorem kw919 : Jvm.Cond.selects "AccessGateModel" ({ cls := "AccessGateModel", name := "deny", desc := "(II)V" } : Jvm.MethodName) ({ cls := "AccessGateModel", name := "deny", desc := "(II)V" } : Jvm.MethodName) ∈ lw_tbl := List.mem_of_getElem? (i := 964) rfl
set_option maxRecDepth 100000 in
theorem kw920 : Jvm.Cond.code ({ cls := "AccessGateModel", name := "deny", desc := "(II)V" } : Jvm.MethodName) prog_10_method_28_code (3 : Nat) (Option.none : Option Jvm.ClassFile.FieldType) ∈ lw_tbl := List.mem_of_getElem? (i := 965) rfl
set_option maxRecDepth 100000 in
theorem kw921 : Jvm.Cond.methodLink "AccessGateLaw" (121 : Nat) ({ cls := "AccessGateModel", name := "askState", desc := "(I)I" } : Jvm.MethodName) ∈ lw_tbl := List.mem_of_getElem? (i := 966) rfl
set_option maxRecDepth 100000 in
theorem kw922 : Jvm.Cond.instanceMethod ({ cls := "AccessGateModel", name := "askState", desc := "(I)I" } : Jvm.MethodName) ∈ lw_tbl := List.mem_of_getElem? (i := 967) rfl
set_option maxRecDepth 100000 in
theorem kw923 : Jvm.Cond.selects "AccessGateModel" ({ cls := "AccessGateModel", name := "askState", desc := "(I)I" } : Jvm.MethodName) ({ cls := "AccessGateModel", name := "askState", desc := "(I)I" } : Jvm.MethodName) ∈ lw_tbl := List.mem_of_getElem? (i := 968) rfl
set_option maxRecDepth 100000 in
theorem kw924 : Jvm.Cond.code ({ cls := "AccessGateModel", name := "askState", desc := "(I)I" } : Jvm.MethodName) prog_10_method_29_code (2 : Nat) (Option.some Jvm.ClassFile.FieldType.int) ∈ lw_tbl := List.mem_of_getElem? (i := 969) rfl
set_option maxRecDepth 100000 in
theorem kw925 : Jvm.Cond.methodLink "AccessGateLaw" (124 : Nat) ({ cls := "AccessGateModel", name := "enter", desc := "(II)I" } : Jvm.MethodName) ∈ lw_tbl := List.mem_of_getElem? (i := 970) rfl
set_option maxRecDepth 100000 in
theorem kw926 : Jvm.Cond.instanceMethod ({ cls := "AccessGateModel", name := "enter", desc := "(II)I" } : Jvm.MethodName) ∈ lw_tbl := List.mem_of_getElem? (i := 971) rfl
set_option maxRecDepth 100000 in
theorem kw927 : Jvm.Cond.selects "AccessGateModel" ({ cls := "AccessGateModel", name := "enter", desc := "(II)I" } : Jvm.MethodName) ({ cls := "AccessGateModel", name := "enter", desc := "(II)I" } : Jvm.MethodName) ∈ lw_tbl := List.mem_of_getElem? (i := 972) rfl
set_option maxRecDepth 100000 in
theorem kw928 : Jvm.Cond.code ({ cls := "AccessGateModel", name := "enter", desc := "(II)I" } : Jvm.MethodName) prog_10_method_30_code (3 : Nat) (Option.some Jvm.ClassFile.FieldType.int) ∈ lw_tbl := List.mem_of_getElem? (i := 973) rfl
set_option maxRecDepth 100000 in
theorem kw929 : Jvm.Cond.methodLink "AccessGateLaw" (127 : Nat) ({ cls := "AccessGateModel", name := "lookAt", desc := "(II)I" } : Jvm.MethodName) ∈ lw_tbl := List.mem_of_getElem? (i := 974) rfl
set_option maxRecDepth 100000 in
theorem kw930 : Jvm.Cond.instanceMethod ({ cls := "AccessGateModel", name := "lookAt", desc := "(II)I" } : Jvm.MethodName) ∈ lw_tbl := List.mem_of_getElem? (i := 975) rfl
set_option maxRecDepth 100000 in
theorem kw931 : Jvm.Cond.selects "AccessGateModel" ({ cls := "AccessGateModel", name := "lookAt", desc := "(II)I" } : Jvm.MethodName) ({ cls := "AccessGateModel", name := "lookAt", desc := "(II)I" } : Jvm.MethodName) ∈ lw_tbl := List.mem_of_getElem? (i := 976) rfl
set_option maxRecDepth 100000 in
theorem kw932 : Jvm.Cond.code ({ cls := "AccessGateModel", name := "lookAt", desc := "(II)I" } : Jvm.MethodName) prog_10_method_31_code (4 : Nat) (Option.some Jvm.ClassFile.FieldType.int) ∈ lw_tbl := List.mem_of_getElem? (i := 977) rfl
set_option maxRecDepth 100000 in
theorem kw933 : Jvm.Cond.methodLink "AccessGateModel" (174 : Nat) ({ cls := "AccessGateModel", name := "isEntry", desc := "(I)Z" } : Jvm.MethodName) ∈ lw_tbl := List.mem_of_getElem? (i := 978) rfl
set_option maxRecDepth 100000 in
theorem kw935 : Jvm.Cond.instanceMethod ({ cls := "AccessGateModel", name := "isEntry", desc := "(I)Z" } : Jvm.MethodName) ∈ lw_tbl := List.mem_of_getElem? (i := 980) rfl
set_option maxRecDepth 100000 in
theorem kw936 : Jvm.Cond.code ({ cls := "AccessGateModel", name := "isEntry", desc := "(I)Z" } : Jvm.MethodName) prog_10_method_9_code (2 : Nat) (Option.some Jvm.ClassFile.FieldType.boolean) ∈ lw_tbl := List.mem_of_getElem? (i := 981) rfl
set_option maxRecDepth 100000 in
theorem kw937 : Jvm.Cond.methodLink "AccessGateLaw" (130 : Nat) ({ cls := "AccessGateModel", name := "overdue", desc := "(I)I" } : Jvm.MethodName) ∈ lw_tbl := List.mem_of_getElem? (i := 982) rfl
set_option maxRecDepth 100000 in
theorem kw938 : Jvm.Cond.instanceMethod ({ cls := "AccessGateModel", name := "overdue", desc := "(I)I" } : Jvm.MethodName) ∈ lw_tbl := List.mem_of_getElem? (i := 983) rfl
set_option maxRecDepth 100000 in
theorem kw939 : Jvm.Cond.selects "AccessGateModel" ({ cls := "AccessGateModel", name := "overdue", desc := "(I)I" } : Jvm.MethodName) ({ cls := "AccessGateModel", name := "overdue", desc := "(I)I" } : Jvm.MethodName) ∈ lw_tbl := List.mem_of_getElem? (i := 984) rfl
set_option maxRecDepth 100000 in
theorem kw940 : Jvm.Cond.code ({ cls := "AccessGateModel", name := "overdue", desc := "(I)I" } : Jvm.MethodName) prog_10_method_32_code (2 : Nat) (Option.some Jvm.ClassFile.FieldType.int) ∈ lw_tbl := List.mem_of_getElem? (i := 985) rfl
set_option maxRecDepth 100000 in
theorem kw941 : Jvm.Cond.methodLink "AccessGateLaw" (133 : Nat) ({ cls := "AccessGateModel", name := "couldEnter", desc := "(III)Z" } : Jvm.MethodName) ∈ lw_tbl := List.mem_of_getElem? (i := 986) rfl
set_option maxRecDepth 100000 in
theorem kw942 : Jvm.Cond.instanceMethod ({ cls := "AccessGateModel", name := "couldEnter", desc := "(III)Z" } : Jvm.MethodName) ∈ lw_tbl := List.mem_of_getElem? (i := 987) rfl
set_option maxRecDepth 100000 in
theorem kw943 : Jvm.Cond.selects "AccessGateModel" ({ cls := "AccessGateModel", name := "couldEnter", desc := "(III)Z" } : Jvm.MethodName) ({ cls := "AccessGateModel", name := "couldEnter", desc := "(III)Z" } : Jvm.MethodName) ∈ lw_tbl := List.mem_of_getElem? (i := 988) rfl
set_option maxRecDepth 100000 in
theorem kw944 : Jvm.Cond.code ({ cls := "AccessGateModel", name := "couldEnter", desc := "(III)Z" } : Jvm.MethodName) prog_10_method_33_code (4 : Nat) (Option.some Jvm.ClassFile.FieldType.boolean) ∈ lw_tbl := List.mem_of_getElem? (i := 989) rfl
set_option maxRecDepth 100000 in
theorem kw945 : Jvm.Cond.constant "AccessGateModel" (177 : Nat) (100000 : Int32) ∈ lw_tbl := List.mem_of_getElem? (i := 990) rfl
set_option maxRecDepth 100000 in
theorem kw946 : Jvm.Cond.methodLink "AccessGateLaw" (136 : Nat) ({ cls := "AccessGateModel", name := "open", desc := "(II)I" } : Jvm.MethodName) ∈ lw_tbl := List.mem_of_getElem? (i := 991) rfl
set_option maxRecDepth 100000 in
theorem kw947 : Jvm.Cond.instanceMethod ({ cls := "AccessGateModel", name := "open", desc := "(II)I" } : Jvm.MethodName) ∈ lw_tbl := List.mem_of_getElem? (i := 992) rfl
set_option maxRecDepth 100000 in
theorem kw948 : Jvm.Cond.selects "AccessGateModel" ({ cls := "AccessGateModel", name := "open", desc := "(II)I" } : Jvm.MethodName) ({ cls := "AccessGateModel", name := "open", desc := "(II)I" } : Jvm.MethodName) ∈ lw_tbl := List.mem_of_getElem? (i := 993) rfl
set_option maxRecDepth 100000 in
theorem kw949 : Jvm.Cond.code ({ cls := "AccessGateModel", name := "open", desc := "(II)I" } : Jvm.MethodName) prog_10_method_34_code (4 : Nat) (Option.some Jvm.ClassFile.FieldType.int) ∈ lw_tbl := List.mem_of_getElem? (i := 994) rfl
set_option maxRecDepth 100000 in
theorem kw950 : Jvm.Cond.methodLink "AccessGateLaw" (139 : Nat) ({ cls := "AccessGateModel", name := "type", desc := "(II)Z" } : Jvm.MethodName) ∈ lw_tbl := List.mem_of_getElem? (i := 995) rfl
set_option maxRecDepth 100000 in
theorem kw951 : Jvm.Cond.instanceMethod ({ cls := "AccessGateModel", name := "type", desc := "(II)Z" } : Jvm.MethodName) ∈ lw_tbl := List.mem_of_getElem? (i := 996) rfl
set_option maxRecDepth 100000 in
theorem kw952 : Jvm.Cond.selects "AccessGateModel" ({ cls := "AccessGateModel", name := "type", desc := "(II)Z" } : Jvm.MethodName) ({ cls := "AccessGateModel", name := "type", desc := "(II)Z" } : Jvm.MethodName) ∈ lw_tbl := List.mem_of_getElem? (i := 997) rfl
set_option maxRecDepth 100000 in
theorem kw953 : Jvm.Cond.code ({ cls := "AccessGateModel", name := "type", desc := "(II)Z" } : Jvm.MethodName) prog_10_method_35_code (4 : Nat) (Option.some Jvm.ClassFile.FieldType.boolean) ∈ lw_tbl := List.mem_of_getElem? (i := 998) rfl
set_option maxRecDepth 100000 in
theorem kw954 : Jvm.Cond.methodLink "AccessGateModel" (178 : Nat) ({ cls := "AccessGateModel", name := "isSession", desc := "(I)Z" } : Jvm.MethodName) ∈ lw_tbl := List.mem_of_getElem? (i := 999) rfl
set_option maxRecDepth 100000 in
theorem kw956 : Jvm.Cond.instanceMethod ({ cls := "AccessGateModel", name := "isSession", desc := "(I)Z" } : Jvm.MethodName) ∈ lw_tbl := List.mem_of_getElem? (i := 1001) rfl
set_option maxRecDepth 100000 in
theorem kw957 : Jvm.Cond.code ({ cls := "AccessGateModel", name := "isSession", desc := "(I)Z" } : Jvm.MethodName) prog_10_method_10_code (2 : Nat) (Option.some Jvm.ClassFile.FieldType.boolean) ∈ lw_tbl := List.mem_of_getElem? (i := 1002) rfl
set_option maxRecDepth 100000 in
theorem kw958 : Jvm.Cond.methodLink "AccessGateLaw" (142 : Nat) ({ cls := "AccessGateModel", name := "letThrough", desc := "(II)I" } : Jvm.MethodName) ∈ lw_tbl := List.mem_of_getElem? (i := 1003) rfl
set_option maxRecDepth 100000 in
theorem kw959 : Jvm.Cond.instanceMethod ({ cls := "AccessGateModel", name := "letThrough", desc := "(II)I" } : Jvm.MethodName) ∈ lw_tbl := List.mem_of_getElem? (i := 1004) rfl
set_option maxRecDepth 100000 in
theorem kw960 : Jvm.Cond.selects "AccessGateModel" ({ cls := "AccessGateModel", name := "letThrough", desc := "(II)I" } : Jvm.MethodName) ({ cls := "AccessGateModel", name := "letThrough", desc := "(II)I" } : Jvm.MethodName) ∈ lw_tbl := List.mem_of_getElem? (i := 1005) rfl
set_option maxRecDepth 100000 in
theorem kw961 : Jvm.Cond.code ({ cls := "AccessGateModel", name := "letThrough", desc := "(II)I" } : Jvm.MethodName) prog_10_method_36_code (6 : Nat) (Option.some Jvm.ClassFile.FieldType.int) ∈ lw_tbl := List.mem_of_getElem? (i := 1006) rfl
set_option maxRecDepth 100000 in
theorem kw962 : Jvm.Cond.methodLink "AccessGateLaw" (145 : Nat) ({ cls := "AccessGateModel", name := "close", desc := "(I)I" } : Jvm.MethodName) ∈ lw_tbl := List.mem_of_getElem? (i := 1007) rfl
set_option maxRecDepth 100000 in
theorem kw963 : Jvm.Cond.instanceMethod ({ cls := "AccessGateModel", name := "close", desc := "(I)I" } : Jvm.MethodName) ∈ lw_tbl := List.mem_of_getElem? (i := 1008) rfl
set_option maxRecDepth 100000 in
theorem kw964 : Jvm.Cond.selects "AccessGateModel" ({ cls := "AccessGateModel", name := "close", desc := "(I)I" } : Jvm.MethodName) ({ cls := "AccessGateModel", name := "close", desc := "(I)I" } : Jvm.MethodName) ∈ lw_tbl := List.mem_of_getElem? (i := 1009) rfl
set_option maxRecDepth 100000 in
theorem kw965 : Jvm.Cond.code ({ cls := "AccessGateModel", name := "close", desc := "(I)I" } : Jvm.MethodName) prog_10_method_37_code (3 : Nat) (Option.some Jvm.ClassFile.FieldType.int) ∈ lw_tbl := List.mem_of_getElem? (i := 1010) rfl
set_option maxRecDepth 100000 in
theorem kw966 : Jvm.Cond.methodLink "AccessGateLaw" (148 : Nat) ({ cls := "AccessGateModel", name := "isOpen", desc := "(I)Z" } : Jvm.MethodName) ∈ lw_tbl := List.mem_of_getElem? (i := 1011) rfl
set_option maxRecDepth 100000 in
theorem kw967 : Jvm.Cond.instanceMethod ({ cls := "AccessGateModel", name := "isOpen", desc := "(I)Z" } : Jvm.MethodName) ∈ lw_tbl := List.mem_of_getElem? (i := 1012) rfl
set_option maxRecDepth 100000 in
theorem kw968 : Jvm.Cond.selects "AccessGateModel" ({ cls := "AccessGateModel", name := "isOpen", desc := "(I)Z" } : Jvm.MethodName) ({ cls := "AccessGateModel", name := "isOpen", desc := "(I)Z" } : Jvm.MethodName) ∈ lw_tbl := List.mem_of_getElem? (i := 1013) rfl
set_option maxRecDepth 100000 in
theorem kw969 : Jvm.Cond.code ({ cls := "AccessGateModel", name := "isOpen", desc := "(I)Z" } : Jvm.MethodName) prog_10_method_38_code (2 : Nat) (Option.some Jvm.ClassFile.FieldType.boolean) ∈ lw_tbl := List.mem_of_getElem? (i := 1014) rfl
set_option maxRecDepth 100000 in
theorem kw970 : Jvm.Cond.methodLink "AccessGateLaw" (152 : Nat) ({ cls := "AccessGateModel", name := "openSessions", desc := "()I" } : Jvm.MethodName) ∈ lw_tbl := List.mem_of_getElem? (i := 1015) rfl
set_option maxRecDepth 100000 in
theorem kw971 : Jvm.Cond.instanceMethod ({ cls := "AccessGateModel", name := "openSessions", desc := "()I" } : Jvm.MethodName) ∈ lw_tbl := List.mem_of_getElem? (i := 1016) rfl
set_option maxRecDepth 100000 in
theorem kw972 : Jvm.Cond.selects "AccessGateModel" ({ cls := "AccessGateModel", name := "openSessions", desc := "()I" } : Jvm.MethodName) ({ cls := "AccessGateModel", name := "openSessions", desc := "()I" } : Jvm.MethodName) ∈ lw_tbl := List.mem_of_getElem? (i := 1017) rfl
set_option maxRecDepth 100000 in
theorem kw973 : Jvm.Cond.code ({ cls := "AccessGateModel", name := "openSessions", desc := "()I" } : Jvm.MethodName) prog_10_method_39_code (3 : Nat) (Option.some Jvm.ClassFile.FieldType.int) ∈ lw_tbl := List.mem_of_getElem? (i := 1018) rfl
set_option maxRecDepth 100000 in
theorem kw974 : Jvm.Cond.methodLink "AccessGateLaw" (155 : Nat) ({ cls := "AccessGateModel", name := "pass", desc := "(I)I" } : Jvm.MethodName) ∈ lw_tbl := List.mem_of_getElem? (i := 1019) rfl
set_option maxRecDepth 100000 in
theorem kw975 : Jvm.Cond.instanceMethod ({ cls := "AccessGateModel", name := "pass", desc := "(I)I" } : Jvm.MethodName) ∈ lw_tbl := List.mem_of_getElem? (i := 1020) rfl
set_option maxRecDepth 100000 in
theorem kw976 : Jvm.Cond.selects "AccessGateModel" ({ cls := "AccessGateModel", name := "pass", desc := "(I)I" } : Jvm.MethodName) ({ cls := "AccessGateModel", name := "pass", desc := "(I)I" } : Jvm.MethodName) ∈ lw_tbl := List.mem_of_getElem? (i := 1021) rfl
set_option maxRecDepth 100000 in
theorem kw977 : Jvm.Cond.code ({ cls := "AccessGateModel", name := "pass", desc := "(I)I" } : Jvm.MethodName) prog_10_method_40_code (5 : Nat) (Option.some Jvm.ClassFile.FieldType.int) ∈ lw_tbl := List.mem_of_getElem? (i := 1022) rfl
set_option maxRecDepth 100000 in
theorem kw978 : Jvm.Cond.methodLink "AccessGateLaw" (159 : Nat) ({ cls := "AccessGateModel", name := "clock", desc := "()I" } : Jvm.MethodName) ∈ lw_tbl := List.mem_of_getElem? (i := 1023) rfl
set_option maxRecDepth 100000 in
theorem kw979 : Jvm.Cond.instanceMethod ({ cls := "AccessGateModel", name := "clock", desc := "()I" } : Jvm.MethodName) ∈ lw_tbl := List.mem_of_getElem? (i := 1024) rfl
set_option maxRecDepth 100000 in
theorem kw980 : Jvm.Cond.selects "AccessGateModel" ({ cls := "AccessGateModel", name := "clock", desc := "()I" } : Jvm.MethodName) ({ cls := "AccessGateModel", name := "clock", desc := "()I" } : Jvm.MethodName) ∈ lw_tbl := List.mem_of_getElem? (i := 1025) rfl
set_option maxRecDepth 100000 in
theorem kw981 : Jvm.Cond.code ({ cls := "AccessGateModel", name := "clock", desc := "()I" } : Jvm.MethodName) prog_10_method_41_code (1 : Nat) (Option.some Jvm.ClassFile.FieldType.int) ∈ lw_tbl := List.mem_of_getElem? (i := 1026) rfl
set_option maxRecDepth 100000 in
theorem kw982 : Jvm.Cond.methodLink "AccessGateLaw" (163 : Nat) ({ cls := "AccessGateModel", name := "steps", desc := "()I" } : Jvm.MethodName) ∈ lw_tbl := List.mem_of_getElem? (i := 1027) rfl
set_option maxRecDepth 100000 in
theorem kw983 : Jvm.Cond.instanceMethod ({ cls := "AccessGateModel", name := "steps", desc := "()I" } : Jvm.MethodName) ∈ lw_tbl := List.mem_of_getElem? (i := 1028) rfl
set_option maxRecDepth 100000 in
theorem kw984 : Jvm.Cond.selects "AccessGateModel" ({ cls := "AccessGateModel", name := "steps", desc := "()I" } : Jvm.MethodName) ({ cls := "AccessGateModel", name := "steps", desc := "()I" } : Jvm.MethodName) ∈ lw_tbl := List.mem_of_getElem? (i := 1029) rfl
set_option maxRecDepth 100000 in
theorem kw985 : Jvm.Cond.code ({ cls := "AccessGateModel", name := "steps", desc := "()I" } : Jvm.MethodName) prog_10_method_42_code (1 : Nat) (Option.some Jvm.ClassFile.FieldType.int) ∈ lw_tbl := List.mem_of_getElem? (i := 1030) rfl
set_option maxRecDepth 100000 in
theorem kw986 : Jvm.Cond.methodLink "AccessGateLaw" (166 : Nat) ({ cls := "AccessGateModel", name := "kind", desc := "(I)I" } : Jvm.MethodName) ∈ lw_tbl := List.mem_of_getElem? (i := 1031) rfl
set_option maxRecDepth 100000 in
theorem kw987 : Jvm.Cond.instanceMethod ({ cls := "AccessGateModel", name := "kind", desc := "(I)I" } : Jvm.MethodName) ∈ lw_tbl := List.mem_of_getElem? (i := 1032) rfl
set_option maxRecDepth 100000 in
theorem kw988 : Jvm.Cond.selects "AccessGateModel" ({ cls := "AccessGateModel", name := "kind", desc := "(I)I" } : Jvm.MethodName) ({ cls := "AccessGateModel", name := "kind", desc := "(I)I" } : Jvm.MethodName) ∈ lw_tbl := List.mem_of_getElem? (i := 1033) rfl
set_option maxRecDepth 100000 in
theorem kw989 : Jvm.Cond.code ({ cls := "AccessGateModel", name := "kind", desc := "(I)I" } : Jvm.MethodName) prog_10_method_43_code (2 : Nat) (Option.some Jvm.ClassFile.FieldType.int) ∈ lw_tbl := List.mem_of_getElem? (i := 1034) rfl
set_option maxRecDepth 100000 in
theorem kw990 : Jvm.Cond.methodLink "AccessGateLaw" (169 : Nat) ({ cls := "AccessGateModel", name := "seal", desc := "(I)I" } : Jvm.MethodName) ∈ lw_tbl := List.mem_of_getElem? (i := 1035) rfl
set_option maxRecDepth 100000 in
theorem kw991 : Jvm.Cond.instanceMethod ({ cls := "AccessGateModel", name := "seal", desc := "(I)I" } : Jvm.MethodName) ∈ lw_tbl := List.mem_of_getElem? (i := 1036) rfl
set_option maxRecDepth 100000 in
theorem kw992 : Jvm.Cond.selects "AccessGateModel" ({ cls := "AccessGateModel", name := "seal", desc := "(I)I" } : Jvm.MethodName) ({ cls := "AccessGateModel", name := "seal", desc := "(I)I" } : Jvm.MethodName) ∈ lw_tbl := List.mem_of_getElem? (i := 1037) rfl
set_option maxRecDepth 100000 in
theorem kw993 : Jvm.Cond.code ({ cls := "AccessGateModel", name := "seal", desc := "(I)I" } : Jvm.MethodName) prog_10_method_44_code (2 : Nat) (Option.some Jvm.ClassFile.FieldType.int) ∈ lw_tbl := List.mem_of_getElem? (i := 1038) rfl
set_option maxRecDepth 100000 in
theorem kw994 : Jvm.Cond.arrayClass Jvm.ClassFile.FieldType.long ∈ lw_tbl := List.mem_of_getElem? (i := 1039) rfl
set_option maxRecDepth 100000 in
theorem kw996 : Jvm.Cond.castable "AccessGate" "java/lang/Object" ∈ lw_tbl := List.mem_of_getElem? (i := 1041) rfl
set_option maxRecDepth 100000 in
theorem kw997 : Jvm.Cond.castable "java/util/ArrayList" "java/lang/Object" ∈ lw_tbl := List.mem_of_getElem? (i := 1042) rfl
set_option maxRecDepth 100000 in
theorem kw998 : Jvm.Cond.castable "AccessGate$StepRecord" "java/lang/Object" ∈ lw_tbl := List.mem_of_getElem? (i := 1043) rfl
set_option maxRecDepth 100000 in
theorem kw999 : Jvm.Cond.castable "AccessGateModel" "java/lang/Object" ∈ lw_tbl := List.mem_of_getElem? (i := 1044) rfl
set_option maxRecDepth 100000 in
theorem kw1000 : Jvm.Cond.castable "java/lang/IllegalArgumentException" "java/lang/Object" ∈ lw_tbl := List.mem_of_getElem? (i := 1045) rfl
set_option maxRecDepth 100000 in
theorem kw1001 : Jvm.Cond.castable "java/lang/IllegalStateException" "java/lang/Object" ∈ lw_tbl := List.mem_of_getElem? (i := 1046) rfl
set_option maxRecDepth 100000 in
theorem kw1002 : Jvm.Cond.castable "AccessGate$Person" "java/lang/Object" ∈ lw_tbl := List.mem_of_getElem? (i := 1047) rfl
set_option maxRecDepth 100000 in
theorem kw1003 : Jvm.Cond.castable "AccessGate$Machine" "java/lang/Object" ∈ lw_tbl := List.mem_of_getElem? (i := 1048) rfl
set_option maxRecDepth 100000 in
theorem kw1004 : Jvm.Cond.castable "java/lang/IndexOutOfBoundsException" "java/lang/Object" ∈ lw_tbl := List.mem_of_getElem? (i := 1049) rfl
set_option maxRecDepth 100000 in
theorem kw1005 : Jvm.Cond.castable "AccessGate$Ask" "java/lang/Object" ∈ lw_tbl := List.mem_of_getElem? (i := 1050) rfl
set_option maxRecDepth 100000 in
theorem kw1006 : Jvm.Cond.castable "AccessGate$Right" "java/lang/Object" ∈ lw_tbl := List.mem_of_getElem? (i := 1051) rfl
set_option maxRecDepth 100000 in
theorem kw1007 : Jvm.Cond.castable "AccessGate$Entry" "java/lang/Object" ∈ lw_tbl := List.mem_of_getElem? (i := 1052) rfl
set_option maxRecDepth 100000 in
theorem kw1008 : Jvm.Cond.castable "AccessGate$Session" "java/lang/Object" ∈ lw_tbl := List.mem_of_getElem? (i := 1053) rfl
set_option maxRecDepth 100000 in
theorem kw1009 : Jvm.Cond.castable "java/lang/Throwable" "java/lang/Object" ∈ lw_tbl := List.mem_of_getElem? (i := 1054) rfl
set_option maxRecDepth 100000 in
theorem kw1010 : Jvm.Cond.castable "java/lang/String" "java/lang/Object" ∈ lw_tbl := List.mem_of_getElem? (i := 1055) rfl
set_option maxRecDepth 100000 in
theorem kw1012 : Jvm.Cond.selects "[Ljava/lang/Object;" ({ cls := "java/lang/Object", name := "getClass", desc := "()Ljava/lang/Class;" } : Jvm.MethodName) ({ cls := "java/lang/Object", name := "getClass", desc := "()Ljava/lang/Class;" } : Jvm.MethodName) ∈ lw_tbl := List.mem_of_getElem? (i := 1057) rfl
set_option maxRecDepth 100000 in
theorem kw1013 : Jvm.Cond.declares ({ cls := "java/lang/Object", name := "getClass", desc := "()Ljava/lang/Class;" } : Jvm.MethodName) ∈ lw_tbl := List.mem_of_getElem? (i := 1058) rfl
set_option maxRecDepth 100000 in
theorem kw1014 : Jvm.Cond.castable "[I" "java/lang/Object" ∈ lw_tbl := List.mem_of_getElem? (i := 1059) rfl
set_option maxRecDepth 100000 in
theorem kw1015 : Jvm.Cond.castable "[B" "java/lang/Object" ∈ lw_tbl := List.mem_of_getElem? (i := 1060) rfl
set_option maxRecDepth 100000 in
theorem kw1016 : Jvm.Cond.castable "[Ljava/lang/Object;" "java/lang/Object" ∈ lw_tbl := List.mem_of_getElem? (i := 1061) rfl
set_option maxRecDepth 100000 in
theorem kw1017 : Jvm.Cond.castable "[Z" "java/lang/Object" ∈ lw_tbl := List.mem_of_getElem? (i := 1062) rfl
set_option maxRecDepth 100000 in
theorem kw1018 : Jvm.Cond.castable "[J" "java/lang/Object" ∈ lw_tbl := List.mem_of_getElem? (i := 1063) rfl
theorem kp0 : Jvm.Cond.selects "java/lang/Throwable" (⟨"java/lang/Throwable", "fillInStackTrace", "(I)Ljava/lang/Throwable;"⟩ : Jvm.MethodName) (⟨"java/lang/Throwable", "fillInStackTrace", "(I)Ljava/lang/Throwable;"⟩ : Jvm.MethodName) ∈ lw_tbl := List.mem_of_getElem? (i := 0) rfl
theorem kp1 : Jvm.Cond.selects "java/util/ArrayList" (⟨"java/util/ArrayList", "add", "(Ljava/lang/Object;[Ljava/lang/Object;I)V"⟩ : Jvm.MethodName) (⟨"java/util/ArrayList", "add", "(Ljava/lang/Object;[Ljava/lang/Object;I)V"⟩ : Jvm.MethodName) ∈ lw_tbl := List.mem_of_getElem? (i := 1) rfl
theorem kp2 : Jvm.Cond.selects "java/util/ArrayList" (⟨"java/util/ArrayList", "grow", "()[Ljava/lang/Object;"⟩ : Jvm.MethodName) (⟨"java/util/ArrayList", "grow", "()[Ljava/lang/Object;"⟩ : Jvm.MethodName) ∈ lw_tbl := List.mem_of_getElem? (i := 2) rfl
theorem kp3 : Jvm.Cond.selects "java/util/ArrayList" (⟨"java/util/ArrayList", "grow", "(I)[Ljava/lang/Object;"⟩ : Jvm.MethodName) (⟨"java/util/ArrayList", "grow", "(I)[Ljava/lang/Object;"⟩ : Jvm.MethodName) ∈ lw_tbl := List.mem_of_getElem? (i := 3) rfl
theorem kp4 : Jvm.Cond.selects "AccessGate" (⟨"AccessGate", "personAt", "(I)LAccessGate$Person;"⟩ : Jvm.MethodName) (⟨"AccessGate", "personAt", "(I)LAccessGate$Person;"⟩ : Jvm.MethodName) ∈ lw_tbl := List.mem_of_getElem? (i := 4) rfl
theorem kp5 : Jvm.Cond.selects "AccessGate$Person" (⟨"AccessGate$Person", "keepLabel", "(IZ)V"⟩ : Jvm.MethodName) (⟨"AccessGate$Person", "keepLabel", "(IZ)V"⟩ : Jvm.MethodName) ∈ lw_tbl := List.mem_of_getElem? (i := 5) rfl
theorem kp6 : Jvm.Cond.selects "AccessGate" (⟨"AccessGate", "endRights", "(LAccessGate$Person;LAccessGate$Machine;)V"⟩ : Jvm.MethodName) (⟨"AccessGate", "endRights", "(LAccessGate$Person;LAccessGate$Machine;)V"⟩ : Jvm.MethodName) ∈ lw_tbl := List.mem_of_getElem? (i := 6) rfl
theorem kp7 : Jvm.Cond.selects "AccessGate$Right" (⟨"AccessGate$Right", "holdsAt", "(I)Z"⟩ : Jvm.MethodName) (⟨"AccessGate$Right", "holdsAt", "(I)Z"⟩ : Jvm.MethodName) ∈ lw_tbl := List.mem_of_getElem? (i := 7) rfl
theorem kp8 : Jvm.Cond.selects "AccessGate" (⟨"AccessGate", "denyWaitingAsks", "(LAccessGate$Person;LAccessGate$Machine;)V"⟩ : Jvm.MethodName) (⟨"AccessGate", "denyWaitingAsks", "(LAccessGate$Person;LAccessGate$Machine;)V"⟩ : Jvm.MethodName) ∈ lw_tbl := List.mem_of_getElem? (i := 8) rfl
theorem kp9 : Jvm.Cond.selects "AccessGate$Ask" (⟨"AccessGate$Ask", "stateAt", "(I)I"⟩ : Jvm.MethodName) (⟨"AccessGate$Ask", "stateAt", "(I)I"⟩ : Jvm.MethodName) ∈ lw_tbl := List.mem_of_getElem? (i := 9) rfl
theorem kp10 : Jvm.Cond.selects "AccessGate" (⟨"AccessGate", "closeEndedSessions", "()I"⟩ : Jvm.MethodName) (⟨"AccessGate", "closeEndedSessions", "()I"⟩ : Jvm.MethodName) ∈ lw_tbl := List.mem_of_getElem? (i := 10) rfl
theorem kp11 : Jvm.Cond.selects "AccessGate$Session" (⟨"AccessGate$Session", "restsAt", "(I)Z"⟩ : Jvm.MethodName) (⟨"AccessGate$Session", "restsAt", "(I)Z"⟩ : Jvm.MethodName) ∈ lw_tbl := List.mem_of_getElem? (i := 11) rfl
theorem kp12 : Jvm.Cond.selects "AccessGate" (⟨"AccessGate", "rightHolds", "(LAccessGate$Person;LAccessGate$Machine;I)Z"⟩ : Jvm.MethodName) (⟨"AccessGate", "rightHolds", "(LAccessGate$Person;LAccessGate$Machine;I)Z"⟩ : Jvm.MethodName) ∈ lw_tbl := List.mem_of_getElem? (i := 12) rfl
theorem kp13 : Jvm.Cond.selects "AccessGate" (⟨"AccessGate", "endSession", "(LAccessGate$Session;)V"⟩ : Jvm.MethodName) (⟨"AccessGate", "endSession", "(LAccessGate$Session;)V"⟩ : Jvm.MethodName) ∈ lw_tbl := List.mem_of_getElem? (i := 13) rfl
theorem kp14 : Jvm.Cond.selects "AccessGate$StepRecord" (⟨"AccessGate$StepRecord", "add", "(ILAccessGate$Person;LAccessGate$Machine;I)V"⟩ : Jvm.MethodName) (⟨"AccessGate$StepRecord", "add", "(ILAccessGate$Person;LAccessGate$Machine;I)V"⟩ : Jvm.MethodName) ∈ lw_tbl := List.mem_of_getElem? (i := 14) rfl
theorem kp15 : Jvm.Cond.selects "AccessGate" (⟨"AccessGate", "machineAt", "(I)LAccessGate$Machine;"⟩ : Jvm.MethodName) (⟨"AccessGate", "machineAt", "(I)LAccessGate$Machine;"⟩ : Jvm.MethodName) ∈ lw_tbl := List.mem_of_getElem? (i := 15) rfl
theorem kp16 : Jvm.Cond.selects "AccessGate" (⟨"AccessGate", "requireMayAskOrEnter", "(LAccessGate$Person;LAccessGate$Machine;)V"⟩ : Jvm.MethodName) (⟨"AccessGate", "requireMayAskOrEnter", "(LAccessGate$Person;LAccessGate$Machine;)V"⟩ : Jvm.MethodName) ∈ lw_tbl := List.mem_of_getElem? (i := 16) rfl
theorem kp17 : Jvm.Cond.selects "AccessGate$Person" (⟨"AccessGate$Person", "hasLabel", "(I)Z"⟩ : Jvm.MethodName) (⟨"AccessGate$Person", "hasLabel", "(I)Z"⟩ : Jvm.MethodName) ∈ lw_tbl := List.mem_of_getElem? (i := 17) rfl
theorem kp18 : Jvm.Cond.selects "AccessGate" (⟨"AccessGate", "countOverdue", "(LAccessGate$Person;)I"⟩ : Jvm.MethodName) (⟨"AccessGate", "countOverdue", "(LAccessGate$Person;)I"⟩ : Jvm.MethodName) ∈ lw_tbl := List.mem_of_getElem? (i := 18) rfl
theorem kp19 : Jvm.Cond.selects "AccessGate$Entry" (⟨"AccessGate$Entry", "isOverdueAt", "(I)Z"⟩ : Jvm.MethodName) (⟨"AccessGate$Entry", "isOverdueAt", "(I)Z"⟩ : Jvm.MethodName) ∈ lw_tbl := List.mem_of_getElem? (i := 19) rfl
theorem kp20 : Jvm.Cond.selects "AccessGate" (⟨"AccessGate", "askAt", "(I)LAccessGate$Ask;"⟩ : Jvm.MethodName) (⟨"AccessGate", "askAt", "(I)LAccessGate$Ask;"⟩ : Jvm.MethodName) ∈ lw_tbl := List.mem_of_getElem? (i := 20) rfl
theorem kp21 : Jvm.Cond.selects "AccessGate" (⟨"AccessGate", "requireMayJudge", "(LAccessGate$Ask;LAccessGate$Person;)V"⟩ : Jvm.MethodName) (⟨"AccessGate", "requireMayJudge", "(LAccessGate$Ask;LAccessGate$Person;)V"⟩ : Jvm.MethodName) ∈ lw_tbl := List.mem_of_getElem? (i := 21) rfl
theorem kp22 : Jvm.Cond.selects "AccessGate$Person" (⟨"AccessGate$Person", "mayJudge", "(LAccessGate$Person;LAccessGate$Machine;)Z"⟩ : Jvm.MethodName) (⟨"AccessGate$Person", "mayJudge", "(LAccessGate$Person;LAccessGate$Machine;)Z"⟩ : Jvm.MethodName) ∈ lw_tbl := List.mem_of_getElem? (i := 22) rfl
theorem kp23 : Jvm.Cond.selects "AccessGate" (⟨"AccessGate", "entryAt", "(I)LAccessGate$Entry;"⟩ : Jvm.MethodName) (⟨"AccessGate", "entryAt", "(I)LAccessGate$Entry;"⟩ : Jvm.MethodName) ∈ lw_tbl := List.mem_of_getElem? (i := 23) rfl
theorem kp24 : Jvm.Cond.selects "AccessGate" (⟨"AccessGate", "sessionAt", "(I)LAccessGate$Session;"⟩ : Jvm.MethodName) (⟨"AccessGate", "sessionAt", "(I)LAccessGate$Session;"⟩ : Jvm.MethodName) ∈ lw_tbl := List.mem_of_getElem? (i := 24) rfl
theorem kp25 : Jvm.Cond.selects "AccessGate$Session" (⟨"AccessGate$Session", "holdsLine", "()Z"⟩ : Jvm.MethodName) (⟨"AccessGate$Session", "holdsLine", "()Z"⟩ : Jvm.MethodName) ∈ lw_tbl := List.mem_of_getElem? (i := 25) rfl
theorem kp26 : Jvm.Cond.selects "AccessGate" (⟨"AccessGate", "requireStep", "(I)V"⟩ : Jvm.MethodName) (⟨"AccessGate", "requireStep", "(I)V"⟩ : Jvm.MethodName) ∈ lw_tbl := List.mem_of_getElem? (i := 26) rfl
theorem kp27 : Jvm.Cond.selects "AccessGateModel" (⟨"AccessGateModel", "goes", "(ZZZ)Z"⟩ : Jvm.MethodName) (⟨"AccessGateModel", "goes", "(ZZZ)Z"⟩ : Jvm.MethodName) ∈ lw_tbl := List.mem_of_getElem? (i := 27) rfl
theorem kp28 : Jvm.Cond.selects "AccessGateModel" (⟨"AccessGateModel", "isPerson", "(I)Z"⟩ : Jvm.MethodName) (⟨"AccessGateModel", "isPerson", "(I)Z"⟩ : Jvm.MethodName) ∈ lw_tbl := List.mem_of_getElem? (i := 28) rfl
theorem kp29 : Jvm.Cond.selects "AccessGateModel" (⟨"AccessGateModel", "endsRights", "(II)V"⟩ : Jvm.MethodName) (⟨"AccessGateModel", "endsRights", "(II)V"⟩ : Jvm.MethodName) ∈ lw_tbl := List.mem_of_getElem? (i := 29) rfl
theorem kp30 : Jvm.Cond.selects "AccessGateModel" (⟨"AccessGateModel", "deniesAsks", "(II)V"⟩ : Jvm.MethodName) (⟨"AccessGateModel", "deniesAsks", "(II)V"⟩ : Jvm.MethodName) ∈ lw_tbl := List.mem_of_getElem? (i := 30) rfl
theorem kp31 : Jvm.Cond.selects "AccessGateModel" (⟨"AccessGateModel", "closes", "(I)I"⟩ : Jvm.MethodName) (⟨"AccessGateModel", "closes", "(I)I"⟩ : Jvm.MethodName) ∈ lw_tbl := List.mem_of_getElem? (i := 31) rfl
theorem kp32 : Jvm.Cond.selects "AccessGateModel" (⟨"AccessGateModel", "holdsAt", "(III)Z"⟩ : Jvm.MethodName) (⟨"AccessGateModel", "holdsAt", "(III)Z"⟩ : Jvm.MethodName) ∈ lw_tbl := List.mem_of_getElem? (i := 32) rfl
theorem kp33 : Jvm.Cond.selects "AccessGateModel" (⟨"AccessGateModel", "shuts", "(I)V"⟩ : Jvm.MethodName) (⟨"AccessGateModel", "shuts", "(I)V"⟩ : Jvm.MethodName) ∈ lw_tbl := List.mem_of_getElem? (i := 33) rfl
theorem kp34 : Jvm.Cond.selects "AccessGateModel" (⟨"AccessGateModel", "writes", "(III)V"⟩ : Jvm.MethodName) (⟨"AccessGateModel", "writes", "(III)V"⟩ : Jvm.MethodName) ∈ lw_tbl := List.mem_of_getElem? (i := 34) rfl
theorem kp35 : Jvm.Cond.selects "AccessGateModel" (⟨"AccessGateModel", "areBoth", "(II)Z"⟩ : Jvm.MethodName) (⟨"AccessGateModel", "areBoth", "(II)Z"⟩ : Jvm.MethodName) ∈ lw_tbl := List.mem_of_getElem? (i := 35) rfl
theorem kp36 : Jvm.Cond.selects "AccessGateModel" (⟨"AccessGateModel", "isMachine", "(I)Z"⟩ : Jvm.MethodName) (⟨"AccessGateModel", "isMachine", "(I)Z"⟩ : Jvm.MethodName) ∈ lw_tbl := List.mem_of_getElem? (i := 36) rfl
theorem kp37 : Jvm.Cond.selects "AccessGateModel" (⟨"AccessGateModel", "canAsk", "(II)Z"⟩ : Jvm.MethodName) (⟨"AccessGateModel", "canAsk", "(II)Z"⟩ : Jvm.MethodName) ∈ lw_tbl := List.mem_of_getElem? (i := 37) rfl
theorem kp38 : Jvm.Cond.selects "AccessGateModel" (⟨"AccessGateModel", "hasLabel", "(II)Z"⟩ : Jvm.MethodName) (⟨"AccessGateModel", "hasLabel", "(II)Z"⟩ : Jvm.MethodName) ∈ lw_tbl := List.mem_of_getElem? (i := 38) rfl
theorem kp39 : Jvm.Cond.selects "AccessGateModel" (⟨"AccessGateModel", "overdues", "(I)I"⟩ : Jvm.MethodName) (⟨"AccessGateModel", "overdues", "(I)I"⟩ : Jvm.MethodName) ∈ lw_tbl := List.mem_of_getElem? (i := 39) rfl
theorem kp40 : Jvm.Cond.selects "AccessGateModel" (⟨"AccessGateModel", "canJudge", "(II)Z"⟩ : Jvm.MethodName) (⟨"AccessGateModel", "canJudge", "(II)Z"⟩ : Jvm.MethodName) ∈ lw_tbl := List.mem_of_getElem? (i := 40) rfl
theorem kp41 : Jvm.Cond.selects "AccessGateModel" (⟨"AccessGateModel", "isAsk", "(I)Z"⟩ : Jvm.MethodName) (⟨"AccessGateModel", "isAsk", "(I)Z"⟩ : Jvm.MethodName) ∈ lw_tbl := List.mem_of_getElem? (i := 41) rfl
theorem kp42 : Jvm.Cond.selects "AccessGateModel" (⟨"AccessGateModel", "grants", "(III)V"⟩ : Jvm.MethodName) (⟨"AccessGateModel", "grants", "(III)V"⟩ : Jvm.MethodName) ∈ lw_tbl := List.mem_of_getElem? (i := 42) rfl
theorem kp43 : Jvm.Cond.selects "AccessGateModel" (⟨"AccessGateModel", "isEntry", "(I)Z"⟩ : Jvm.MethodName) (⟨"AccessGateModel", "isEntry", "(I)Z"⟩ : Jvm.MethodName) ∈ lw_tbl := List.mem_of_getElem? (i := 43) rfl
theorem kp44 : Jvm.Cond.selects "AccessGateModel" (⟨"AccessGateModel", "isSession", "(I)Z"⟩ : Jvm.MethodName) (⟨"AccessGateModel", "isSession", "(I)Z"⟩ : Jvm.MethodName) ∈ lw_tbl := List.mem_of_getElem? (i := 44) rfl
theorem uin_0 : ∀ w ∈ u_ws RJx4a65c TJx4a65c 3, w ∈ lw_tbl := mw_by [101, 97, 99] (by decide +kernel)
theorem uin_1 : ∀ w ∈ u_ws RX0 TX0 6, w ∈ lw_tbl := mw_by [518, 520, 522, 524, 526, 528] (by decide +kernel)
theorem uin_2 : ∀ w ∈ u_ws RX1 TX1 4, w ∈ lw_tbl := mw_by [608, 610, 612, 614] (by decide +kernel)
theorem uin_3 : ∀ w ∈ u_ws RX2 TX2 2, w ∈ lw_tbl := mw_by [365, 367] (by decide +kernel)
theorem uin_4 : ∀ w ∈ u_ws RX3 TX3 3, w ∈ lw_tbl := mw_by [275, 277, 279] (by decide +kernel)
theorem uin_5 : ∀ w ∈ u_ws RX4 TX4 4, w ∈ lw_tbl := mw_by [566, 568, 570, 572] (by decide +kernel)
theorem uin_6 : ∀ w ∈ u_ws RX5 TX5 6, w ∈ lw_tbl := mw_by [671, 673, 675, 677, 679, 681] (by decide +kernel)
theorem uin_7 : ∀ w ∈ u_ws RX6 TX6 4, w ∈ lw_tbl := mw_by [117, 119, 121, 123] (by decide +kernel)
theorem uin_8 : ∀ w ∈ u_ws RX7 TX7 9, w ∈ lw_tbl := mw_by [136, 138, 140, 142, 144, 146, 148, 150, 152] (by decide +kernel)
theorem uin_9 : ∀ w ∈ u_ws RX8 TX8 34, w ∈ lw_tbl := mw_by [796, 798, 800, 802, 804, 806, 808, 810, 812, 814, 816, 818, 820, 822, 824, 826, 828, 830, 832, 834, 836, 838, 840, 842, 844, 846, 848, 850, 852, 854, 856, 858, 860, 862] (by decide +kernel)
theorem cb_RL_83 : mw_CB RL 83 yX7_init 0 := ⟨kw1, ⟨by decide, by decide⟩, by decide +kernel, kw27⟩
theorem cb_RX7_11 : mw_CB RX7 11 yJx4a65c_init_da8c8 0 := ⟨kw4, ⟨by decide, by decide⟩, by decide +kernel, kw35⟩
theorem cb_RJx4a65c_1 : mw_CB RJx4a65c 1 yJxc12de_init_da8c8 0 := ⟨kw3, ⟨by decide, by decide⟩, by decide +kernel, kw38⟩
theorem cb_RJxc12de_1 : mw_CB RJxc12de 1 yJxa1e45_init_da8c8 0 := ⟨kw2, ⟨by decide, by decide⟩, by decide +kernel, kw41⟩
theorem cn_RX7_33 : mw_CN RX7 33 yX6_init 0 := ⟨kw5, ⟨by decide, by decide⟩, by decide +kernel, _, kw61⟩
theorem cb_RL_149 : mw_CB RL 149 yX7_openSessions 0 := ⟨kw1, ⟨by decide, by decide⟩, by decide +kernel, kw110⟩
theorem cb_RL_156 : mw_CB RL 156 yX7_clock 0 := ⟨kw1, ⟨by decide, by decide⟩, by decide +kernel, kw114⟩
theorem cb_RL_160 : mw_CB RL 160 yX7_steps 0 := ⟨kw1, ⟨by decide, by decide⟩, by decide +kernel, kw118⟩
theorem cb_RL_87 : mw_CB RL 87 yL_addPerson 3 := ⟨kw0, ⟨by decide, by decide⟩, by decide +kernel, kw122⟩
theorem cb_RL_7 : mw_CB RL 7 yX7_addPerson 1 := ⟨kw1, ⟨by decide, by decide⟩, by decide +kernel, kw127⟩
theorem cb_RX7_52 : mw_CB RX7 52 yJx4a65c_size_8abf5 0 := ⟨kw4, ⟨by decide, by decide⟩, by decide +kernel, kw199⟩
theorem cn_RX7_63 : mw_CN RX7 63 yX3_init 2 := ⟨kw12, ⟨by decide, by decide⟩, by decide +kernel, _, kw221⟩
theorem cb_RX7_66 : mw_CB RX7 66 yJx4a65c_add_9ea2d 1 := ⟨kw4, ⟨by decide, by decide⟩, by decide +kernel, kw237⟩
theorem cb_RJx4a65c_131 : mw_CB RJx4a65c 131 yJx4a65c_add_72be8 3 := ⟨kw4, ⟨by decide, by decide⟩, by decide +kernel, kw241⟩
theorem cb_RJx4a65c_129 : mw_CB RJx4a65c 129 yJx4a65c_grow_d5877 0 := ⟨kw4, ⟨by decide, by decide⟩, by decide +kernel, kw245⟩
theorem cb_RJx4a65c_69 : mw_CB RJx4a65c 69 yJx4a65c_grow_92f84 1 := ⟨kw4, ⟨by decide, by decide⟩, by decide +kernel, kw249⟩
theorem cb_RJx4a65c_73 : mw_CB RJx4a65c 73 yJ8_newLength_cabcc 3 := ⟨kw13, ⟨by decide, by decide⟩, by decide +kernel, kw253⟩
theorem cb_RJ8_194 : mw_CB RJ8 194 yJ9_max_7cf53 2 := ⟨kw14, ⟨by decide, by decide⟩, by decide +kernel, kw256⟩
theorem cb_RJ8_201 : mw_CB RJ8 201 yJ8_hugeLength_7cf53 2 := ⟨kw13, ⟨by decide, by decide⟩, by decide +kernel, kw260⟩
theorem cb_RJx4a65c_66 : mw_CB RJx4a65c 66 yJ7_copyOf_1904c 2 := ⟨kw15, ⟨by decide, by decide⟩, by decide +kernel, kw263⟩
theorem cb_RJ7_300 : mw_CB RJ7 300 yJ7_copyOf_6403c 3 := ⟨kw15, ⟨by decide, by decide⟩, by decide +kernel, kw283⟩
theorem cb_RJ7_304 : mw_CB RJ7 304 yJ9_min_7cf53 2 := ⟨kw14, ⟨by decide, by decide⟩, by decide +kernel, kw289⟩
theorem cb_RJx4a65c_79 : mw_CB RJx4a65c 79 yJ9_max_7cf53 2 := ⟨kw14, ⟨by decide, by decide⟩, by decide +kernel, kw295⟩
theorem cb_RL_97 : mw_CB RL 97 yL_addMachine 3 := ⟨kw0, ⟨by decide, by decide⟩, by decide +kernel, kw297⟩
theorem cb_RL_17 : mw_CB RL 17 yX7_addMachine 1 := ⟨kw1, ⟨by decide, by decide⟩, by decide +kernel, kw300⟩
theorem cb_RX7_70 : mw_CB RX7 70 yX7_requireLabel 1 := ⟨kw1, ⟨by decide, by decide⟩, by decide +kernel, kw304⟩
theorem cn_RX7_78 : mw_CN RX7 78 yX2_init 2 := ⟨kw17, ⟨by decide, by decide⟩, by decide +kernel, _, kw311⟩
theorem cb_RL_100 : mw_CB RL 100 yL_setLabel 5 := ⟨kw0, ⟨by decide, by decide⟩, by decide +kernel, kw325⟩
theorem cb_RL_20 : mw_CB RL 20 yX7_setLabel 3 := ⟨kw1, ⟨by decide, by decide⟩, by decide +kernel, kw329⟩
theorem cb_RX7_79 : mw_CB RX7 79 yX7_personAt 1 := ⟨kw1, ⟨by decide, by decide⟩, by decide +kernel, kw333⟩
theorem cb_RX7_87 : mw_CB RX7 87 yJx4a65c_get_915e3 1 := ⟨kw4, ⟨by decide, by decide⟩, by decide +kernel, kw353⟩
theorem cb_RJx4a65c_118 : mw_CB RJx4a65c 118 yJ15_checkIndex_7cf53 2 := ⟨kw19, ⟨by decide, by decide⟩, by decide +kernel, kw357⟩
theorem cb_RJ15_105 : mw_CB RJ15 105 yJ3_checkIndex_8e157 3 := ⟨kw20, ⟨by decide, by decide⟩, by decide +kernel, kw360⟩
theorem cb_RJx4a65c_123 : mw_CB RJx4a65c 123 yJx4a65c_elementData_915e3 1 := ⟨kw4, ⟨by decide, by decide⟩, by decide +kernel, kw363⟩
theorem cn_RX7_83 : mw_CN RX7 83 yX3_keepLabel 2 := ⟨kw12, ⟨by decide, by decide⟩, by decide +kernel, _, kw367⟩
theorem cb_RX7_94 : mw_CB RX7 94 yX7_endRights 2 := ⟨kw1, ⟨by decide, by decide⟩, by decide +kernel, kw371⟩
theorem cn_RX7_293 : mw_CN RX7 293 yX4_holdsAt 1 := ⟨kw22, ⟨by decide, by decide⟩, by decide +kernel, _, kw376⟩
theorem cb_RX7_98 : mw_CB RX7 98 yX7_denyWaitingAsks 2 := ⟨kw1, ⟨by decide, by decide⟩, by decide +kernel, kw381⟩
theorem cn_RX7_154 : mw_CN RX7 154 yX0_stateAt 1 := ⟨kw21, ⟨by decide, by decide⟩, by decide +kernel, _, kw386⟩
theorem cb_RX7_101 : mw_CB RX7 101 yX7_closeEndedSessions 0 := ⟨kw1, ⟨by decide, by decide⟩, by decide +kernel, kw391⟩
theorem cn_RX7_299 : mw_CN RX7 299 yX5_restsAt 1 := ⟨kw24, ⟨by decide, by decide⟩, by decide +kernel, _, kw396⟩
theorem cb_RX7_190 : mw_CB RX7 190 yX7_rightHolds 3 := ⟨kw1, ⟨by decide, by decide⟩, by decide +kernel, kw401⟩
theorem cb_RX7_234 : mw_CB RX7 234 yX7_endSession 1 := ⟨kw1, ⟨by decide, by decide⟩, by decide +kernel, kw405⟩
theorem cn_RX7_121 : mw_CN RX7 121 yX6_add 4 := ⟨kw5, ⟨by decide, by decide⟩, by decide +kernel, _, kw409⟩
theorem cb_RL_104 : mw_CB RL 104 yL_takeAway 4 := ⟨kw0, ⟨by decide, by decide⟩, by decide +kernel, kw414⟩
theorem cb_RL_26 : mw_CB RL 26 yX7_takeAway 2 := ⟨kw1, ⟨by decide, by decide⟩, by decide +kernel, kw417⟩
theorem cb_RX7_104 : mw_CB RX7 104 yX7_machineAt 1 := ⟨kw1, ⟨by decide, by decide⟩, by decide +kernel, kw421⟩
theorem cb_RL_108 : mw_CB RL 108 yL_ask 5 := ⟨kw0, ⟨by decide, by decide⟩, by decide +kernel, kw426⟩
theorem cb_RL_30 : mw_CB RL 30 yX7_ask 3 := ⟨kw1, ⟨by decide, by decide⟩, by decide +kernel, kw429⟩
theorem cb_RX7_110 : mw_CB RX7 110 yX7_requireMayAskOrEnter 2 := ⟨kw1, ⟨by decide, by decide⟩, by decide +kernel, kw434⟩
theorem cn_RX7_276 : mw_CN RX7 276 yX3_hasLabel 1 := ⟨kw12, ⟨by decide, by decide⟩, by decide +kernel, _, kw438⟩
theorem cb_RX7_183 : mw_CB RX7 183 yX7_countOverdue 1 := ⟨kw1, ⟨by decide, by decide⟩, by decide +kernel, kw443⟩
theorem cn_RX7_288 : mw_CN RX7 288 yX1_isOverdueAt 1 := ⟨kw23, ⟨by decide, by decide⟩, by decide +kernel, _, kw448⟩
theorem cb_RX7_113 : mw_CB RX7 113 yX7_requireRoomFor 1 := ⟨kw1, ⟨by decide, by decide⟩, by decide +kernel, kw454⟩
theorem cn_RX7_118 : mw_CN RX7 118 yX0_init 4 := ⟨kw21, ⟨by decide, by decide⟩, by decide +kernel, _, kw458⟩
theorem cb_RL_112 : mw_CB RL 112 yL_approve 4 := ⟨kw0, ⟨by decide, by decide⟩, by decide +kernel, kw486⟩
theorem cb_RL_34 : mw_CB RL 34 yX7_approve 2 := ⟨kw1, ⟨by decide, by decide⟩, by decide +kernel, kw489⟩
theorem cb_RX7_124 : mw_CB RX7 124 yX7_askAt 1 := ⟨kw1, ⟨by decide, by decide⟩, by decide +kernel, kw493⟩
theorem cb_RX7_128 : mw_CB RX7 128 yX7_requireMayJudge 2 := ⟨kw1, ⟨by decide, by decide⟩, by decide +kernel, kw498⟩
theorem cn_RX7_228 : mw_CN RX7 228 yX3_mayJudge 2 := ⟨kw12, ⟨by decide, by decide⟩, by decide +kernel, _, kw503⟩
theorem cb_RX3_24 : mw_CB RX3 24 yX3_hasLabel 1 := ⟨kw12, ⟨by decide, by decide⟩, by decide +kernel, kw507⟩
theorem cn_RX7_153 : mw_CN RX7 153 yX4_init 4 := ⟨kw22, ⟨by decide, by decide⟩, by decide +kernel, _, kw510⟩
theorem cb_RL_115 : mw_CB RL 115 yL_deny 3 := ⟨kw0, ⟨by decide, by decide⟩, by decide +kernel, kw530⟩
theorem cb_RL_38 : mw_CB RL 38 yX7_deny 2 := ⟨kw1, ⟨by decide, by decide⟩, by decide +kernel, kw533⟩
theorem cb_RL_119 : mw_CB RL 119 yL_askState 3 := ⟨kw0, ⟨by decide, by decide⟩, by decide +kernel, kw537⟩
theorem cb_RL_42 : mw_CB RL 42 yX7_askState 1 := ⟨kw1, ⟨by decide, by decide⟩, by decide +kernel, kw540⟩
theorem cb_RL_122 : mw_CB RL 122 yL_enter 4 := ⟨kw0, ⟨by decide, by decide⟩, by decide +kernel, kw544⟩
theorem cb_RL_45 : mw_CB RL 45 yX7_enter 2 := ⟨kw1, ⟨by decide, by decide⟩, by decide +kernel, kw547⟩
theorem cn_RX7_160 : mw_CN RX7 160 yX1_init 3 := ⟨kw23, ⟨by decide, by decide⟩, by decide +kernel, _, kw551⟩
theorem cb_RL_125 : mw_CB RL 125 yL_lookAt 4 := ⟨kw0, ⟨by decide, by decide⟩, by decide +kernel, kw572⟩
theorem cb_RL_48 : mw_CB RL 48 yX7_lookAt 2 := ⟨kw1, ⟨by decide, by decide⟩, by decide +kernel, kw575⟩
theorem cb_RX7_163 : mw_CB RX7 163 yX7_entryAt 1 := ⟨kw1, ⟨by decide, by decide⟩, by decide +kernel, kw579⟩
theorem cb_RL_128 : mw_CB RL 128 yL_overdue 3 := ⟨kw0, ⟨by decide, by decide⟩, by decide +kernel, kw586⟩
theorem cb_RL_51 : mw_CB RL 51 yX7_overdue 1 := ⟨kw1, ⟨by decide, by decide⟩, by decide +kernel, kw589⟩
theorem cb_RL_131 : mw_CB RL 131 yL_couldEnter 5 := ⟨kw0, ⟨by decide, by decide⟩, by decide +kernel, kw593⟩
theorem cb_RL_54 : mw_CB RL 54 yX7_couldEnter 3 := ⟨kw1, ⟨by decide, by decide⟩, by decide +kernel, kw596⟩
theorem cb_RL_134 : mw_CB RL 134 yL_open 4 := ⟨kw0, ⟨by decide, by decide⟩, by decide +kernel, kw602⟩
theorem cb_RL_58 : mw_CB RL 58 yX7_open 2 := ⟨kw1, ⟨by decide, by decide⟩, by decide +kernel, kw605⟩
theorem cn_RX7_198 : mw_CN RX7 198 yX5_init 3 := ⟨kw24, ⟨by decide, by decide⟩, by decide +kernel, _, kw610⟩
theorem cb_RL_137 : mw_CB RL 137 yL_type 4 := ⟨kw0, ⟨by decide, by decide⟩, by decide +kernel, kw639⟩
theorem cb_RL_61 : mw_CB RL 61 yX7_type 2 := ⟨kw1, ⟨by decide, by decide⟩, by decide +kernel, kw642⟩
theorem cb_RX7_199 : mw_CB RX7 199 yX7_sessionAt 1 := ⟨kw1, ⟨by decide, by decide⟩, by decide +kernel, kw646⟩
theorem cb_RX7_205 : mw_CB RX7 205 yX7_requireOpen 1 := ⟨kw1, ⟨by decide, by decide⟩, by decide +kernel, kw652⟩
theorem cn_RX7_209 : mw_CN RX7 209 yX5_holdsLine 0 := ⟨kw24, ⟨by decide, by decide⟩, by decide +kernel, _, kw656⟩
theorem cb_RL_140 : mw_CB RL 140 yL_letThrough 4 := ⟨kw0, ⟨by decide, by decide⟩, by decide +kernel, kw661⟩
theorem cb_RL_64 : mw_CB RL 64 yX7_letThrough 2 := ⟨kw1, ⟨by decide, by decide⟩, by decide +kernel, kw664⟩
theorem cb_RL_143 : mw_CB RL 143 yL_close 3 := ⟨kw0, ⟨by decide, by decide⟩, by decide +kernel, kw670⟩
theorem cb_RL_67 : mw_CB RL 67 yX7_close 1 := ⟨kw1, ⟨by decide, by decide⟩, by decide +kernel, kw673⟩
theorem cb_RL_146 : mw_CB RL 146 yL_isOpen 3 := ⟨kw0, ⟨by decide, by decide⟩, by decide +kernel, kw677⟩
theorem cb_RL_70 : mw_CB RL 70 yX7_isOpen 1 := ⟨kw1, ⟨by decide, by decide⟩, by decide +kernel, kw680⟩
theorem cb_RL_153 : mw_CB RL 153 yL_pass 3 := ⟨kw0, ⟨by decide, by decide⟩, by decide +kernel, kw684⟩
theorem cb_RL_74 : mw_CB RL 74 yX7_pass 1 := ⟨kw1, ⟨by decide, by decide⟩, by decide +kernel, kw687⟩
theorem cb_RL_164 : mw_CB RL 164 yL_kind 3 := ⟨kw0, ⟨by decide, by decide⟩, by decide +kernel, kw692⟩
theorem cb_RL_77 : mw_CB RL 77 yX7_kind 1 := ⟨kw1, ⟨by decide, by decide⟩, by decide +kernel, kw695⟩
theorem cb_RX7_245 : mw_CB RX7 245 yX7_requireStep 1 := ⟨kw1, ⟨by decide, by decide⟩, by decide +kernel, kw699⟩
theorem cb_RL_167 : mw_CB RL 167 yL_seal 3 := ⟨kw0, ⟨by decide, by decide⟩, by decide +kernel, kw704⟩
theorem cb_RL_80 : mw_CB RL 80 yX7_seal 1 := ⟨kw1, ⟨by decide, by decide⟩, by decide +kernel, kw707⟩
theorem cb_RL_86 : mw_CB RL 86 yX8_init 0 := ⟨kw6, ⟨by decide, by decide⟩, by decide +kernel, kw713⟩
theorem cb_RL_93 : mw_CB RL 93 yX8_thrown 0 := ⟨kw6, ⟨by decide, by decide⟩, by decide +kernel, kw821⟩
theorem cb_RL_92 : mw_CB RL 92 yX8_addPerson 1 := ⟨kw6, ⟨by decide, by decide⟩, by decide +kernel, kw825⟩
theorem cb_RX8_93 : mw_CB RX8 93 yX8_in 3 := ⟨kw6, ⟨by decide, by decide⟩, by decide +kernel, kw829⟩
theorem cb_RX8_123 : mw_CB RX8 123 yX8_goes 3 := ⟨kw6, ⟨by decide, by decide⟩, by decide +kernel, kw832⟩
theorem cb_RL_99 : mw_CB RL 99 yX8_addMachine 1 := ⟨kw6, ⟨by decide, by decide⟩, by decide +kernel, kw836⟩
theorem cb_RL_103 : mw_CB RL 103 yX8_setLabel 3 := ⟨kw6, ⟨by decide, by decide⟩, by decide +kernel, kw840⟩
theorem cb_RX8_100 : mw_CB RX8 100 yX8_isPerson 1 := ⟨kw6, ⟨by decide, by decide⟩, by decide +kernel, kw844⟩
theorem cb_RX8_141 : mw_CB RX8 141 yX8_endsRights 2 := ⟨kw6, ⟨by decide, by decide⟩, by decide +kernel, kw848⟩
theorem cb_RX8_145 : mw_CB RX8 145 yX8_deniesAsks 2 := ⟨kw6, ⟨by decide, by decide⟩, by decide +kernel, kw852⟩
theorem cb_RX8_148 : mw_CB RX8 148 yX8_closes 1 := ⟨kw6, ⟨by decide, by decide⟩, by decide +kernel, kw856⟩
theorem cb_RX8_134 : mw_CB RX8 134 yX8_holdsAt 3 := ⟨kw6, ⟨by decide, by decide⟩, by decide +kernel, kw860⟩
theorem cb_RX8_137 : mw_CB RX8 137 yX8_shuts 1 := ⟨kw6, ⟨by decide, by decide⟩, by decide +kernel, kw864⟩
theorem cb_RX8_130 : mw_CB RX8 130 yX8_writes 3 := ⟨kw6, ⟨by decide, by decide⟩, by decide +kernel, kw868⟩
theorem cb_RL_107 : mw_CB RL 107 yX8_takeAway 2 := ⟨kw6, ⟨by decide, by decide⟩, by decide +kernel, kw873⟩
theorem cb_RX8_152 : mw_CB RX8 152 yX8_areBoth 2 := ⟨kw6, ⟨by decide, by decide⟩, by decide +kernel, kw877⟩
theorem cb_RX8_104 : mw_CB RX8 104 yX8_isMachine 1 := ⟨kw6, ⟨by decide, by decide⟩, by decide +kernel, kw881⟩
theorem cb_RL_111 : mw_CB RL 111 yX8_ask 3 := ⟨kw6, ⟨by decide, by decide⟩, by decide +kernel, kw885⟩
theorem cb_RX8_162 : mw_CB RX8 162 yX8_canAsk 2 := ⟨kw6, ⟨by decide, by decide⟩, by decide +kernel, kw889⟩
theorem cb_RX8_156 : mw_CB RX8 156 yX8_hasLabel 2 := ⟨kw6, ⟨by decide, by decide⟩, by decide +kernel, kw893⟩
theorem cb_RX8_159 : mw_CB RX8 159 yX8_overdues 1 := ⟨kw6, ⟨by decide, by decide⟩, by decide +kernel, kw897⟩
theorem cb_RL_114 : mw_CB RL 114 yX8_approve 2 := ⟨kw6, ⟨by decide, by decide⟩, by decide +kernel, kw901⟩
theorem cb_RX8_168 : mw_CB RX8 168 yX8_canJudge 2 := ⟨kw6, ⟨by decide, by decide⟩, by decide +kernel, kw905⟩
theorem cb_RX8_165 : mw_CB RX8 165 yX8_isAsk 1 := ⟨kw6, ⟨by decide, by decide⟩, by decide +kernel, kw909⟩
theorem cb_RX8_171 : mw_CB RX8 171 yX8_grants 3 := ⟨kw6, ⟨by decide, by decide⟩, by decide +kernel, kw913⟩
theorem cb_RL_118 : mw_CB RL 118 yX8_deny 2 := ⟨kw6, ⟨by decide, by decide⟩, by decide +kernel, kw917⟩
theorem cb_RL_121 : mw_CB RL 121 yX8_askState 1 := ⟨kw6, ⟨by decide, by decide⟩, by decide +kernel, kw921⟩
theorem cb_RL_124 : mw_CB RL 124 yX8_enter 2 := ⟨kw6, ⟨by decide, by decide⟩, by decide +kernel, kw925⟩
theorem cb_RL_127 : mw_CB RL 127 yX8_lookAt 2 := ⟨kw6, ⟨by decide, by decide⟩, by decide +kernel, kw929⟩
theorem cb_RX8_174 : mw_CB RX8 174 yX8_isEntry 1 := ⟨kw6, ⟨by decide, by decide⟩, by decide +kernel, kw933⟩
theorem cb_RL_130 : mw_CB RL 130 yX8_overdue 1 := ⟨kw6, ⟨by decide, by decide⟩, by decide +kernel, kw937⟩
theorem cb_RL_133 : mw_CB RL 133 yX8_couldEnter 3 := ⟨kw6, ⟨by decide, by decide⟩, by decide +kernel, kw941⟩
theorem cb_RL_136 : mw_CB RL 136 yX8_open 2 := ⟨kw6, ⟨by decide, by decide⟩, by decide +kernel, kw946⟩
theorem cb_RL_139 : mw_CB RL 139 yX8_type 2 := ⟨kw6, ⟨by decide, by decide⟩, by decide +kernel, kw950⟩
theorem cb_RX8_178 : mw_CB RX8 178 yX8_isSession 1 := ⟨kw6, ⟨by decide, by decide⟩, by decide +kernel, kw954⟩
theorem cb_RL_142 : mw_CB RL 142 yX8_letThrough 2 := ⟨kw6, ⟨by decide, by decide⟩, by decide +kernel, kw958⟩
theorem cb_RL_145 : mw_CB RL 145 yX8_close 1 := ⟨kw6, ⟨by decide, by decide⟩, by decide +kernel, kw962⟩
theorem cb_RL_148 : mw_CB RL 148 yX8_isOpen 1 := ⟨kw6, ⟨by decide, by decide⟩, by decide +kernel, kw966⟩
theorem cb_RL_152 : mw_CB RL 152 yX8_openSessions 0 := ⟨kw6, ⟨by decide, by decide⟩, by decide +kernel, kw970⟩
theorem cb_RL_155 : mw_CB RL 155 yX8_pass 1 := ⟨kw6, ⟨by decide, by decide⟩, by decide +kernel, kw974⟩
theorem cb_RL_159 : mw_CB RL 159 yX8_clock 0 := ⟨kw6, ⟨by decide, by decide⟩, by decide +kernel, kw978⟩
theorem cb_RL_163 : mw_CB RL 163 yX8_steps 0 := ⟨kw6, ⟨by decide, by decide⟩, by decide +kernel, kw982⟩
theorem cb_RL_166 : mw_CB RL 166 yX8_kind 1 := ⟨kw6, ⟨by decide, by decide⟩, by decide +kernel, kw986⟩
theorem cb_RL_169 : mw_CB RL 169 yX8_seal 1 := ⟨kw6, ⟨by decide, by decide⟩, by decide +kernel, kw990⟩
theorem fl_RJx4a65c_9 : mw_FL RJx4a65c 9 0 1 := ⟨RJx4a65c, TJx4a65c, 3, "java/util/ArrayList", rfl, by decide, uin_0, fun U A h => Or.inl (mw_use h kw47 rfl), fun _ _ _ h => h⟩
theorem fp_RJx4a65c_9 : mw_FP RJx4a65c 9 0 1 (.array (.object "java/lang/Object")) false := ⟨RJx4a65c, TJx4a65c, 3, "java/util/ArrayList", tyJx4a65c, rfl, by decide, uin_0, fun U A h => Or.inl (mw_use h kw47 rfl), fun _ _ _ h => h, tyJx4a65c_ok, nmJx4a65c, by decide +kernel, rfl, fun h => nomatch h⟩
theorem fl_RJx4a65c_48 : mw_FL RJx4a65c 48 0 2 := ⟨RJx4a65c, TJx4a65c, 3, "java/util/ArrayList", rfl, by decide, uin_0, fun U A h => Or.inl (mw_use h kw48 rfl), fun _ _ _ h => h⟩
theorem fp_RJx4a65c_48 : mw_FP RJx4a65c 48 0 2 (.int) false := ⟨RJx4a65c, TJx4a65c, 3, "java/util/ArrayList", tyJx4a65c, rfl, by decide, uin_0, fun U A h => Or.inl (mw_use h kw48 rfl), fun _ _ _ h => h, tyJx4a65c_ok, nmJx4a65c, by decide +kernel, rfl, fun h => nomatch h⟩
theorem fl_RJxc12de_7 : mw_FL RJxc12de 7 0 0 := ⟨RJx4a65c, TJx4a65c, 3, "java/util/AbstractList", rfl, by decide, uin_0, fun U A h => Or.inl (mw_use h kw49 rfl), fun _ _ _ h => h⟩
theorem fp_RJxc12de_7 : mw_FP RJxc12de 7 0 0 (.int) false := ⟨RJx4a65c, TJx4a65c, 3, "java/util/AbstractList", tyJx4a65c, rfl, by decide, uin_0, fun U A h => Or.inl (mw_use h kw49 rfl), fun _ _ _ h => h, tyJx4a65c_ok, nmJx4a65c, by decide +kernel, rfl, fun h => nomatch h⟩
theorem fl_RJx4a65c_63 : mw_FL RJx4a65c 63 0 0 := ⟨RJx4a65c, TJx4a65c, 3, "java/util/ArrayList", rfl, by decide, uin_0, fun U A h => Or.inl (mw_use h kw50 rfl), fun U x h hx => u_same (args := #[]) (mw_use h kw51 rfl) x hx⟩
theorem fp_RJx4a65c_63 : mw_FP RJx4a65c 63 0 0 (.int) false := ⟨RJx4a65c, TJx4a65c, 3, "java/util/ArrayList", tyJx4a65c, rfl, by decide, uin_0, fun U A h => Or.inl (mw_use h kw50 rfl), fun U x h hx => u_same (args := #[]) (mw_use h kw51 rfl) x hx, tyJx4a65c_ok, nmJx4a65c, by decide +kernel, rfl, fun h => nomatch h⟩
theorem fl_RX6_9 : mw_FL RX6 9 7 0 := ⟨RX6, TX6, 4, "AccessGate$StepRecord", rfl, by decide, uin_7, fun U A h => Or.inl (mw_use h kw65 rfl), fun _ _ _ h => h⟩
theorem fp_RX6_9 : mw_FP RX6 9 7 0 (.array .int) true := ⟨RX6, TX6, 4, "AccessGate$StepRecord", tyX6, rfl, by decide, uin_7, fun U A h => Or.inl (mw_use h kw65 rfl), fun _ _ _ h => h, tyX6_ok, nmX6, by decide +kernel, rfl, fun _ => rfl⟩
theorem fl_RX7_248 : mw_FL RX7 248 7 0 := ⟨RX6, TX6, 4, "AccessGate$StepRecord", rfl, by decide, uin_7, fun U A h => Or.inr ⟨_, mw_use h kw66 rfl⟩, fun _ _ _ h => h⟩
theorem fl_RX6_15 : mw_FL RX6 15 7 1 := ⟨RX6, TX6, 4, "AccessGate$StepRecord", rfl, by decide, uin_7, fun U A h => Or.inl (mw_use h kw67 rfl), fun _ _ _ h => h⟩
theorem fp_RX6_15 : mw_FP RX6 15 7 1 (.array .int) true := ⟨RX6, TX6, 4, "AccessGate$StepRecord", tyX6, rfl, by decide, uin_7, fun U A h => Or.inl (mw_use h kw67 rfl), fun _ _ _ h => h, tyX6_ok, nmX6, by decide +kernel, rfl, fun _ => rfl⟩
theorem fl_RX7_252 : mw_FL RX7 252 7 1 := ⟨RX6, TX6, 4, "AccessGate$StepRecord", rfl, by decide, uin_7, fun U A h => Or.inr ⟨_, mw_use h kw68 rfl⟩, fun _ _ _ h => h⟩
theorem fl_RX6_18 : mw_FL RX6 18 7 2 := ⟨RX6, TX6, 4, "AccessGate$StepRecord", rfl, by decide, uin_7, fun U A h => Or.inl (mw_use h kw69 rfl), fun _ _ _ h => h⟩
theorem fp_RX6_18 : mw_FP RX6 18 7 2 (.int) false := ⟨RX6, TX6, 4, "AccessGate$StepRecord", tyX6, rfl, by decide, uin_7, fun U A h => Or.inl (mw_use h kw69 rfl), fun _ _ _ h => h, tyX6_ok, nmX6, by decide +kernel, rfl, fun h => nomatch h⟩
theorem fl_RX7_242 : mw_FL RX7 242 7 2 := ⟨RX6, TX6, 4, "AccessGate$StepRecord", rfl, by decide, uin_7, fun U A h => Or.inr ⟨_, mw_use h kw70 rfl⟩, fun _ _ _ h => h⟩
theorem fp_RX7_242 : mw_FP RX7 242 7 2 (.int) false := ⟨RX6, TX6, 4, "AccessGate$StepRecord", tyX6, rfl, by decide, uin_7, fun U A h => Or.inr ⟨rfl, _, mw_use h kw70 rfl⟩, fun _ _ _ h => h, tyX6_ok, nmX6, by decide +kernel, rfl, fun h => nomatch h⟩
theorem fl_RX6_22 : mw_FL RX6 22 7 3 := ⟨RX6, TX6, 4, "AccessGate$StepRecord", rfl, by decide, uin_7, fun U A h => Or.inl (mw_use h kw71 rfl), fun _ _ _ h => h⟩
theorem fp_RX6_22 : mw_FP RX6 22 7 3 (.int) false := ⟨RX6, TX6, 4, "AccessGate$StepRecord", tyX6, rfl, by decide, uin_7, fun U A h => Or.inl (mw_use h kw71 rfl), fun _ _ _ h => h, tyX6_ok, nmX6, by decide +kernel, rfl, fun h => nomatch h⟩
theorem fl_RX7_12 : mw_FL RX7 12 8 0 := ⟨RX7, TX7, 9, "AccessGate", rfl, by decide, uin_8, fun U A h => Or.inl (mw_use h kw82 rfl), fun _ _ _ h => h⟩
theorem fp_RX7_12 : mw_FP RX7 12 8 0 (.object "java/util/ArrayList") true := ⟨RX7, TX7, 9, "AccessGate", tyX7, rfl, by decide, uin_8, fun U A h => Or.inl (mw_use h kw82 rfl), fun _ _ _ h => h, tyX7_ok, nmX7, by decide +kernel, rfl, fun _ => rfl⟩
theorem fl_RX7_16 : mw_FL RX7 16 8 1 := ⟨RX7, TX7, 9, "AccessGate", rfl, by decide, uin_8, fun U A h => Or.inl (mw_use h kw83 rfl), fun _ _ _ h => h⟩
theorem fp_RX7_16 : mw_FP RX7 16 8 1 (.object "java/util/ArrayList") true := ⟨RX7, TX7, 9, "AccessGate", tyX7, rfl, by decide, uin_8, fun U A h => Or.inl (mw_use h kw83 rfl), fun _ _ _ h => h, tyX7_ok, nmX7, by decide +kernel, rfl, fun _ => rfl⟩
theorem fl_RX7_19 : mw_FL RX7 19 8 2 := ⟨RX7, TX7, 9, "AccessGate", rfl, by decide, uin_8, fun U A h => Or.inl (mw_use h kw84 rfl), fun _ _ _ h => h⟩
theorem fp_RX7_19 : mw_FP RX7 19 8 2 (.object "java/util/ArrayList") true := ⟨RX7, TX7, 9, "AccessGate", tyX7, rfl, by decide, uin_8, fun U A h => Or.inl (mw_use h kw84 rfl), fun _ _ _ h => h, tyX7_ok, nmX7, by decide +kernel, rfl, fun _ => rfl⟩
theorem fl_RX7_22 : mw_FL RX7 22 8 3 := ⟨RX7, TX7, 9, "AccessGate", rfl, by decide, uin_8, fun U A h => Or.inl (mw_use h kw85 rfl), fun _ _ _ h => h⟩
theorem fp_RX7_22 : mw_FP RX7 22 8 3 (.object "java/util/ArrayList") true := ⟨RX7, TX7, 9, "AccessGate", tyX7, rfl, by decide, uin_8, fun U A h => Or.inl (mw_use h kw85 rfl), fun _ _ _ h => h, tyX7_ok, nmX7, by decide +kernel, rfl, fun _ => rfl⟩
theorem fl_RX7_25 : mw_FL RX7 25 8 4 := ⟨RX7, TX7, 9, "AccessGate", rfl, by decide, uin_8, fun U A h => Or.inl (mw_use h kw86 rfl), fun _ _ _ h => h⟩
theorem fp_RX7_25 : mw_FP RX7 25 8 4 (.object "java/util/ArrayList") true := ⟨RX7, TX7, 9, "AccessGate", tyX7, rfl, by decide, uin_8, fun U A h => Or.inl (mw_use h kw86 rfl), fun _ _ _ h => h, tyX7_ok, nmX7, by decide +kernel, rfl, fun _ => rfl⟩
theorem fl_RX7_28 : mw_FL RX7 28 8 5 := ⟨RX7, TX7, 9, "AccessGate", rfl, by decide, uin_8, fun U A h => Or.inl (mw_use h kw87 rfl), fun _ _ _ h => h⟩
theorem fp_RX7_28 : mw_FP RX7 28 8 5 (.object "java/util/ArrayList") true := ⟨RX7, TX7, 9, "AccessGate", tyX7, rfl, by decide, uin_8, fun U A h => Or.inl (mw_use h kw87 rfl), fun _ _ _ h => h, tyX7_ok, nmX7, by decide +kernel, rfl, fun _ => rfl⟩
theorem fl_RX7_34 : mw_FL RX7 34 8 6 := ⟨RX7, TX7, 9, "AccessGate", rfl, by decide, uin_8, fun U A h => Or.inl (mw_use h kw88 rfl), fun _ _ _ h => h⟩
theorem fp_RX7_34 : mw_FP RX7 34 8 6 (.object "AccessGate$StepRecord") true := ⟨RX7, TX7, 9, "AccessGate", tyX7, rfl, by decide, uin_8, fun U A h => Or.inl (mw_use h kw88 rfl), fun _ _ _ h => h, tyX7_ok, nmX7, by decide +kernel, rfl, fun _ => rfl⟩
theorem fl_RX7_38 : mw_FL RX7 38 8 7 := ⟨RX7, TX7, 9, "AccessGate", rfl, by decide, uin_8, fun U A h => Or.inl (mw_use h kw89 rfl), fun _ _ _ h => h⟩
theorem fp_RX7_38 : mw_FP RX7 38 8 7 (.int) false := ⟨RX7, TX7, 9, "AccessGate", tyX7, rfl, by decide, uin_8, fun U A h => Or.inl (mw_use h kw89 rfl), fun _ _ _ h => h, tyX7_ok, nmX7, by decide +kernel, rfl, fun h => nomatch h⟩
theorem fl_RX7_42 : mw_FL RX7 42 8 8 := ⟨RX7, TX7, 9, "AccessGate", rfl, by decide, uin_8, fun U A h => Or.inl (mw_use h kw90 rfl), fun _ _ _ h => h⟩
theorem fp_RX7_42 : mw_FP RX7 42 8 8 (.int) false := ⟨RX7, TX7, 9, "AccessGate", tyX7, rfl, by decide, uin_8, fun U A h => Or.inl (mw_use h kw90 rfl), fun _ _ _ h => h, tyX7_ok, nmX7, by decide +kernel, rfl, fun h => nomatch h⟩
theorem fl_RX3_13 : mw_FL RX3 13 4 0 := ⟨RX3, TX3, 3, "AccessGate$Person", rfl, by decide, uin_4, fun U A h => Or.inl (mw_use h kw225 rfl), fun _ _ _ h => h⟩
theorem fp_RX3_13 : mw_FP RX3 13 4 0 (.int) true := ⟨RX3, TX3, 3, "AccessGate$Person", tyX3, rfl, by decide, uin_4, fun U A h => Or.inl (mw_use h kw225 rfl), fun _ _ _ h => h, tyX3_ok, nmX3, by decide +kernel, rfl, fun _ => rfl⟩
theorem fl_RX6_25 : mw_FL RX6 25 4 0 := ⟨RX3, TX3, 3, "AccessGate$Person", rfl, by decide, uin_4, fun U A h => Or.inr ⟨_, mw_use h kw226 rfl⟩, fun _ _ _ h => h⟩
theorem fl_RX3_16 : mw_FL RX3 16 4 1 := ⟨RX3, TX3, 3, "AccessGate$Person", rfl, by decide, uin_4, fun U A h => Or.inl (mw_use h kw227 rfl), fun _ _ _ h => h⟩
theorem fp_RX3_16 : mw_FP RX3 16 4 1 (.int) true := ⟨RX3, TX3, 3, "AccessGate$Person", tyX3, rfl, by decide, uin_4, fun U A h => Or.inl (mw_use h kw227 rfl), fun _ _ _ h => h, tyX3_ok, nmX3, by decide +kernel, rfl, fun _ => rfl⟩
theorem fl_RX7_173 : mw_FL RX7 173 4 1 := ⟨RX3, TX3, 3, "AccessGate$Person", rfl, by decide, uin_4, fun U A h => Or.inr ⟨_, mw_use h kw228 rfl⟩, fun _ _ _ h => h⟩
theorem fl_RX3_7 : mw_FL RX3 7 4 2 := ⟨RX3, TX3, 3, "AccessGate$Person", rfl, by decide, uin_4, fun U A h => Or.inl (mw_use h kw229 rfl), fun _ _ _ h => h⟩
theorem fp_RX3_7 : mw_FP RX3 7 4 2 (.int) false := ⟨RX3, TX3, 3, "AccessGate$Person", tyX3, rfl, by decide, uin_4, fun U A h => Or.inl (mw_use h kw229 rfl), fun _ _ _ h => h, tyX3_ok, nmX3, by decide +kernel, rfl, fun h => nomatch h⟩
theorem fl_RX2_7 : mw_FL RX2 7 3 0 := ⟨RX2, TX2, 2, "AccessGate$Machine", rfl, by decide, uin_3, fun U A h => Or.inl (mw_use h kw315 rfl), fun _ _ _ h => h⟩
theorem fp_RX2_7 : mw_FP RX2 7 3 0 (.int) true := ⟨RX2, TX2, 2, "AccessGate$Machine", tyX2, rfl, by decide, uin_3, fun U A h => Or.inl (mw_use h kw315 rfl), fun _ _ _ h => h, tyX2_ok, nmX2, by decide +kernel, rfl, fun _ => rfl⟩
theorem fl_RX6_30 : mw_FL RX6 30 3 0 := ⟨RX2, TX2, 2, "AccessGate$Machine", rfl, by decide, uin_3, fun U A h => Or.inr ⟨_, mw_use h kw316 rfl⟩, fun _ _ _ h => h⟩
theorem fl_RX2_13 : mw_FL RX2 13 3 1 := ⟨RX2, TX2, 2, "AccessGate$Machine", rfl, by decide, uin_3, fun U A h => Or.inl (mw_use h kw317 rfl), fun _ _ _ h => h⟩
theorem fp_RX2_13 : mw_FP RX2 13 3 1 (.int) true := ⟨RX2, TX2, 2, "AccessGate$Machine", tyX2, rfl, by decide, uin_3, fun U A h => Or.inl (mw_use h kw317 rfl), fun _ _ _ h => h, tyX2_ok, nmX2, by decide +kernel, rfl, fun _ => rfl⟩
theorem fl_RX3_19 : mw_FL RX3 19 3 1 := ⟨RX2, TX2, 2, "AccessGate$Machine", rfl, by decide, uin_3, fun U A h => Or.inr ⟨_, mw_use h kw318 rfl⟩, fun _ _ _ h => h⟩
theorem fl_RX7_91 : mw_FL RX7 91 3 1 := ⟨RX2, TX2, 2, "AccessGate$Machine", rfl, by decide, uin_3, fun U A h => Or.inr ⟨_, mw_use h kw319 rfl⟩, fun _ _ _ h => h⟩
theorem fl_RX0_19 : mw_FL RX0 19 1 0 := ⟨RX0, TX0, 6, "AccessGate$Ask", rfl, by decide, uin_1, fun U A h => Or.inl (mw_use h kw462 rfl), fun _ _ _ h => h⟩
theorem fp_RX0_19 : mw_FP RX0 19 1 0 (.object "AccessGate$Person") true := ⟨RX0, TX0, 6, "AccessGate$Ask", tyX0, rfl, by decide, uin_1, fun U A h => Or.inl (mw_use h kw462 rfl), fun _ _ _ h => h, tyX0_ok, nmX0, by decide +kernel, rfl, fun _ => rfl⟩
theorem fl_RX7_147 : mw_FL RX7 147 1 0 := ⟨RX0, TX0, 6, "AccessGate$Ask", rfl, by decide, uin_1, fun U A h => Or.inr ⟨_, mw_use h kw463 rfl⟩, fun _ _ _ h => h⟩
theorem fl_RX0_22 : mw_FL RX0 22 1 1 := ⟨RX0, TX0, 6, "AccessGate$Ask", rfl, by decide, uin_1, fun U A h => Or.inl (mw_use h kw464 rfl), fun _ _ _ h => h⟩
theorem fp_RX0_22 : mw_FP RX0 22 1 1 (.object "AccessGate$Machine") true := ⟨RX0, TX0, 6, "AccessGate$Ask", tyX0, rfl, by decide, uin_1, fun U A h => Or.inl (mw_use h kw464 rfl), fun _ _ _ h => h, tyX0_ok, nmX0, by decide +kernel, rfl, fun _ => rfl⟩
theorem fl_RX7_138 : mw_FL RX7 138 1 1 := ⟨RX0, TX0, 6, "AccessGate$Ask", rfl, by decide, uin_1, fun U A h => Or.inr ⟨_, mw_use h kw465 rfl⟩, fun _ _ _ h => h⟩
theorem fl_RX0_26 : mw_FL RX0 26 1 2 := ⟨RX0, TX0, 6, "AccessGate$Ask", rfl, by decide, uin_1, fun U A h => Or.inl (mw_use h kw466 rfl), fun _ _ _ h => h⟩
theorem fp_RX0_26 : mw_FP RX0 26 1 2 (.int) true := ⟨RX0, TX0, 6, "AccessGate$Ask", tyX0, rfl, by decide, uin_1, fun U A h => Or.inl (mw_use h kw466 rfl), fun _ _ _ h => h, tyX0_ok, nmX0, by decide +kernel, rfl, fun _ => rfl⟩
theorem fl_RX7_150 : mw_FL RX7 150 1 2 := ⟨RX0, TX0, 6, "AccessGate$Ask", rfl, by decide, uin_1, fun U A h => Or.inr ⟨_, mw_use h kw467 rfl⟩, fun _ _ _ h => h⟩
theorem fl_RX0_29 : mw_FL RX0 29 1 3 := ⟨RX0, TX0, 6, "AccessGate$Ask", rfl, by decide, uin_1, fun U A h => Or.inl (mw_use h kw468 rfl), fun _ _ _ h => h⟩
theorem fp_RX0_29 : mw_FP RX0 29 1 3 (.int) true := ⟨RX0, TX0, 6, "AccessGate$Ask", tyX0, rfl, by decide, uin_1, fun U A h => Or.inl (mw_use h kw468 rfl), fun _ _ _ h => h, tyX0_ok, nmX0, by decide +kernel, rfl, fun _ => rfl⟩
theorem fl_RX0_9 : mw_FL RX0 9 1 4 := ⟨RX0, TX0, 6, "AccessGate$Ask", rfl, by decide, uin_1, fun U A h => Or.inl (mw_use h kw469 rfl), fun _ _ _ h => h⟩
theorem fp_RX0_9 : mw_FP RX0 9 1 4 (.object "AccessGate$Person") false := ⟨RX0, TX0, 6, "AccessGate$Ask", tyX0, rfl, by decide, uin_1, fun U A h => Or.inl (mw_use h kw469 rfl), fun _ _ _ h => h, tyX0_ok, nmX0, by decide +kernel, rfl, fun h => nomatch h⟩
theorem fl_RX7_132 : mw_FL RX7 132 1 4 := ⟨RX0, TX0, 6, "AccessGate$Ask", rfl, by decide, uin_1, fun U A h => Or.inr ⟨_, mw_use h kw470 rfl⟩, fun _ _ _ h => h⟩
theorem fp_RX7_132 : mw_FP RX7 132 1 4 (.object "AccessGate$Person") false := ⟨RX0, TX0, 6, "AccessGate$Ask", tyX0, rfl, by decide, uin_1, fun U A h => Or.inr ⟨rfl, _, mw_use h kw470 rfl⟩, fun _ _ _ h => h, tyX0_ok, nmX0, by decide +kernel, rfl, fun h => nomatch h⟩
theorem fl_RX0_15 : mw_FL RX0 15 1 5 := ⟨RX0, TX0, 6, "AccessGate$Ask", rfl, by decide, uin_1, fun U A h => Or.inl (mw_use h kw471 rfl), fun _ _ _ h => h⟩
theorem fp_RX0_15 : mw_FP RX0 15 1 5 (.int) false := ⟨RX0, TX0, 6, "AccessGate$Ask", tyX0, rfl, by decide, uin_1, fun U A h => Or.inl (mw_use h kw471 rfl), fun _ _ _ h => h, tyX0_ok, nmX0, by decide +kernel, rfl, fun h => nomatch h⟩
theorem fl_RX7_142 : mw_FL RX7 142 1 5 := ⟨RX0, TX0, 6, "AccessGate$Ask", rfl, by decide, uin_1, fun U A h => Or.inr ⟨_, mw_use h kw472 rfl⟩, fun _ _ _ h => h⟩
theorem fp_RX7_142 : mw_FP RX7 142 1 5 (.int) false := ⟨RX0, TX0, 6, "AccessGate$Ask", tyX0, rfl, by decide, uin_1, fun U A h => Or.inr ⟨rfl, _, mw_use h kw472 rfl⟩, fun _ _ _ h => h, tyX0_ok, nmX0, by decide +kernel, rfl, fun h => nomatch h⟩
theorem fl_RX4_7 : mw_FL RX4 7 5 0 := ⟨RX4, TX4, 4, "AccessGate$Right", rfl, by decide, uin_5, fun U A h => Or.inl (mw_use h kw514 rfl), fun _ _ _ h => h⟩
theorem fp_RX4_7 : mw_FP RX4 7 5 0 (.object "AccessGate$Person") true := ⟨RX4, TX4, 4, "AccessGate$Right", tyX4, rfl, by decide, uin_5, fun U A h => Or.inl (mw_use h kw514 rfl), fun _ _ _ h => h, tyX4_ok, nmX4, by decide +kernel, rfl, fun _ => rfl⟩
theorem fl_RX7_291 : mw_FL RX7 291 5 0 := ⟨RX4, TX4, 4, "AccessGate$Right", rfl, by decide, uin_5, fun U A h => Or.inr ⟨_, mw_use h kw515 rfl⟩, fun _ _ _ h => h⟩
theorem fl_RX4_13 : mw_FL RX4 13 5 1 := ⟨RX4, TX4, 4, "AccessGate$Right", rfl, by decide, uin_5, fun U A h => Or.inl (mw_use h kw516 rfl), fun _ _ _ h => h⟩
theorem fp_RX4_13 : mw_FP RX4 13 5 1 (.object "AccessGate$Machine") true := ⟨RX4, TX4, 4, "AccessGate$Right", tyX4, rfl, by decide, uin_5, fun U A h => Or.inl (mw_use h kw516 rfl), fun _ _ _ h => h, tyX4_ok, nmX4, by decide +kernel, rfl, fun _ => rfl⟩
theorem fl_RX7_292 : mw_FL RX7 292 5 1 := ⟨RX4, TX4, 4, "AccessGate$Right", rfl, by decide, uin_5, fun U A h => Or.inr ⟨_, mw_use h kw517 rfl⟩, fun _ _ _ h => h⟩
theorem fl_RX4_17 : mw_FL RX4 17 5 2 := ⟨RX4, TX4, 4, "AccessGate$Right", rfl, by decide, uin_5, fun U A h => Or.inl (mw_use h kw518 rfl), fun _ _ _ h => h⟩
theorem fp_RX4_17 : mw_FP RX4 17 5 2 (.int) true := ⟨RX4, TX4, 4, "AccessGate$Right", tyX4, rfl, by decide, uin_5, fun U A h => Or.inl (mw_use h kw518 rfl), fun _ _ _ h => h, tyX4_ok, nmX4, by decide +kernel, rfl, fun _ => rfl⟩
theorem fl_RX4_21 : mw_FL RX4 21 5 3 := ⟨RX4, TX4, 4, "AccessGate$Right", rfl, by decide, uin_5, fun U A h => Or.inl (mw_use h kw519 rfl), fun _ _ _ h => h⟩
theorem fp_RX4_21 : mw_FP RX4 21 5 3 (.int) false := ⟨RX4, TX4, 4, "AccessGate$Right", tyX4, rfl, by decide, uin_5, fun U A h => Or.inl (mw_use h kw519 rfl), fun _ _ _ h => h, tyX4_ok, nmX4, by decide +kernel, rfl, fun h => nomatch h⟩
theorem fl_RX7_296 : mw_FL RX7 296 5 3 := ⟨RX4, TX4, 4, "AccessGate$Right", rfl, by decide, uin_5, fun U A h => Or.inr ⟨_, mw_use h kw520 rfl⟩, fun _ _ _ h => h⟩
theorem fp_RX7_296 : mw_FP RX7 296 5 3 (.int) false := ⟨RX4, TX4, 4, "AccessGate$Right", tyX4, rfl, by decide, uin_5, fun U A h => Or.inr ⟨rfl, _, mw_use h kw520 rfl⟩, fun _ _ _ h => h, tyX4_ok, nmX4, by decide +kernel, rfl, fun h => nomatch h⟩
theorem fl_RX1_15 : mw_FL RX1 15 2 0 := ⟨RX1, TX1, 4, "AccessGate$Entry", rfl, by decide, uin_2, fun U A h => Or.inl (mw_use h kw555 rfl), fun _ _ _ h => h⟩
theorem fp_RX1_15 : mw_FP RX1 15 2 0 (.object "AccessGate$Person") true := ⟨RX1, TX1, 4, "AccessGate$Entry", tyX1, rfl, by decide, uin_2, fun U A h => Or.inl (mw_use h kw555 rfl), fun _ _ _ h => h, tyX1_ok, nmX1, by decide +kernel, rfl, fun _ => rfl⟩
theorem fl_RX7_176 : mw_FL RX7 176 2 0 := ⟨RX1, TX1, 4, "AccessGate$Entry", rfl, by decide, uin_2, fun U A h => Or.inr ⟨_, mw_use h kw556 rfl⟩, fun _ _ _ h => h⟩
theorem fl_RX1_19 : mw_FL RX1 19 2 1 := ⟨RX1, TX1, 4, "AccessGate$Entry", rfl, by decide, uin_2, fun U A h => Or.inl (mw_use h kw557 rfl), fun _ _ _ h => h⟩
theorem fp_RX1_19 : mw_FP RX1 19 2 1 (.object "AccessGate$Machine") true := ⟨RX1, TX1, 4, "AccessGate$Entry", tyX1, rfl, by decide, uin_2, fun U A h => Or.inl (mw_use h kw557 rfl), fun _ _ _ h => h, tyX1_ok, nmX1, by decide +kernel, rfl, fun _ => rfl⟩
theorem fl_RX7_179 : mw_FL RX7 179 2 1 := ⟨RX1, TX1, 4, "AccessGate$Entry", rfl, by decide, uin_2, fun U A h => Or.inr ⟨_, mw_use h kw558 rfl⟩, fun _ _ _ h => h⟩
theorem fl_RX1_23 : mw_FL RX1 23 2 2 := ⟨RX1, TX1, 4, "AccessGate$Entry", rfl, by decide, uin_2, fun U A h => Or.inl (mw_use h kw559 rfl), fun _ _ _ h => h⟩
theorem fp_RX1_23 : mw_FP RX1 23 2 2 (.int) true := ⟨RX1, TX1, 4, "AccessGate$Entry", tyX1, rfl, by decide, uin_2, fun U A h => Or.inl (mw_use h kw559 rfl), fun _ _ _ h => h, tyX1_ok, nmX1, by decide +kernel, rfl, fun _ => rfl⟩
theorem fl_RX7_180 : mw_FL RX7 180 2 2 := ⟨RX1, TX1, 4, "AccessGate$Entry", rfl, by decide, uin_2, fun U A h => Or.inr ⟨_, mw_use h kw560 rfl⟩, fun _ _ _ h => h⟩
theorem fl_RX1_9 : mw_FL RX1 9 2 3 := ⟨RX1, TX1, 4, "AccessGate$Entry", rfl, by decide, uin_2, fun U A h => Or.inl (mw_use h kw561 rfl), fun _ _ _ h => h⟩
theorem fp_RX1_9 : mw_FP RX1 9 2 3 (.boolean) false := ⟨RX1, TX1, 4, "AccessGate$Entry", tyX1, rfl, by decide, uin_2, fun U A h => Or.inl (mw_use h kw561 rfl), fun _ _ _ h => h, tyX1_ok, nmX1, by decide +kernel, rfl, fun h => nomatch h⟩
theorem fl_RX7_167 : mw_FL RX7 167 2 3 := ⟨RX1, TX1, 4, "AccessGate$Entry", rfl, by decide, uin_2, fun U A h => Or.inr ⟨_, mw_use h kw562 rfl⟩, fun _ _ _ h => h⟩
theorem fp_RX7_167 : mw_FP RX7 167 2 3 (.boolean) false := ⟨RX1, TX1, 4, "AccessGate$Entry", tyX1, rfl, by decide, uin_2, fun U A h => Or.inr ⟨rfl, _, mw_use h kw562 rfl⟩, fun _ _ _ h => h, tyX1_ok, nmX1, by decide +kernel, rfl, fun h => nomatch h⟩
theorem fl_RX5_22 : mw_FL RX5 22 6 0 := ⟨RX5, TX5, 6, "AccessGate$Session", rfl, by decide, uin_6, fun U A h => Or.inl (mw_use h kw614 rfl), fun _ _ _ h => h⟩
theorem fp_RX5_22 : mw_FP RX5 22 6 0 (.object "AccessGate$Person") true := ⟨RX5, TX5, 6, "AccessGate$Session", tyX5, rfl, by decide, uin_6, fun U A h => Or.inl (mw_use h kw614 rfl), fun _ _ _ h => h, tyX5_ok, nmX5, by decide +kernel, rfl, fun _ => rfl⟩
theorem fl_RX7_215 : mw_FL RX7 215 6 0 := ⟨RX5, TX5, 6, "AccessGate$Session", rfl, by decide, uin_6, fun U A h => Or.inr ⟨_, mw_use h kw615 rfl⟩, fun _ _ _ h => h⟩
theorem fl_RX5_26 : mw_FL RX5 26 6 1 := ⟨RX5, TX5, 6, "AccessGate$Session", rfl, by decide, uin_6, fun U A h => Or.inl (mw_use h kw616 rfl), fun _ _ _ h => h⟩
theorem fp_RX5_26 : mw_FP RX5 26 6 1 (.object "AccessGate$Machine") true := ⟨RX5, TX5, 6, "AccessGate$Session", tyX5, rfl, by decide, uin_6, fun U A h => Or.inl (mw_use h kw616 rfl), fun _ _ _ h => h, tyX5_ok, nmX5, by decide +kernel, rfl, fun _ => rfl⟩
theorem fl_RX7_216 : mw_FL RX7 216 6 1 := ⟨RX5, TX5, 6, "AccessGate$Session", rfl, by decide, uin_6, fun U A h => Or.inr ⟨_, mw_use h kw617 rfl⟩, fun _ _ _ h => h⟩
theorem fl_RX5_9 : mw_FL RX5 9 6 2 := ⟨RX5, TX5, 6, "AccessGate$Session", rfl, by decide, uin_6, fun U A h => Or.inl (mw_use h kw618 rfl), fun _ _ _ h => h⟩
theorem fp_RX5_9 : mw_FP RX5 9 6 2 (.boolean) false := ⟨RX5, TX5, 6, "AccessGate$Session", tyX5, rfl, by decide, uin_6, fun U A h => Or.inl (mw_use h kw618 rfl), fun _ _ _ h => h, tyX5_ok, nmX5, by decide +kernel, rfl, fun h => nomatch h⟩
theorem fl_RX7_237 : mw_FL RX7 237 6 2 := ⟨RX5, TX5, 6, "AccessGate$Session", rfl, by decide, uin_6, fun U A h => Or.inr ⟨_, mw_use h kw619 rfl⟩, fun _ _ _ h => h⟩
theorem fp_RX7_237 : mw_FP RX7 237 6 2 (.boolean) false := ⟨RX5, TX5, 6, "AccessGate$Session", tyX5, rfl, by decide, uin_6, fun U A h => Or.inr ⟨rfl, _, mw_use h kw619 rfl⟩, fun _ _ _ h => h, tyX5_ok, nmX5, by decide +kernel, rfl, fun h => nomatch h⟩
theorem fl_RX5_30 : mw_FL RX5 30 6 3 := ⟨RX5, TX5, 6, "AccessGate$Session", rfl, by decide, uin_6, fun U A h => Or.inl (mw_use h kw620 rfl), fun _ _ _ h => h⟩
theorem fp_RX5_30 : mw_FP RX5 30 6 3 (.int) false := ⟨RX5, TX5, 6, "AccessGate$Session", tyX5, rfl, by decide, uin_6, fun U A h => Or.inl (mw_use h kw620 rfl), fun _ _ _ h => h, tyX5_ok, nmX5, by decide +kernel, rfl, fun h => nomatch h⟩
theorem fl_RX7_217 : mw_FL RX7 217 6 3 := ⟨RX5, TX5, 6, "AccessGate$Session", rfl, by decide, uin_6, fun U A h => Or.inr ⟨_, mw_use h kw621 rfl⟩, fun _ _ _ h => h⟩
theorem fp_RX7_217 : mw_FP RX7 217 6 3 (.int) false := ⟨RX5, TX5, 6, "AccessGate$Session", tyX5, rfl, by decide, uin_6, fun U A h => Or.inr ⟨rfl, _, mw_use h kw621 rfl⟩, fun _ _ _ h => h, tyX5_ok, nmX5, by decide +kernel, rfl, fun h => nomatch h⟩
theorem fl_RX5_15 : mw_FL RX5 15 6 4 := ⟨RX5, TX5, 6, "AccessGate$Session", rfl, by decide, uin_6, fun U A h => Or.inl (mw_use h kw622 rfl), fun _ _ _ h => h⟩
theorem fp_RX5_15 : mw_FP RX5 15 6 4 (.int) false := ⟨RX5, TX5, 6, "AccessGate$Session", tyX5, rfl, by decide, uin_6, fun U A h => Or.inl (mw_use h kw622 rfl), fun _ _ _ h => h, tyX5_ok, nmX5, by decide +kernel, rfl, fun h => nomatch h⟩
theorem fl_RX7_223 : mw_FL RX7 223 6 4 := ⟨RX5, TX5, 6, "AccessGate$Session", rfl, by decide, uin_6, fun U A h => Or.inr ⟨_, mw_use h kw623 rfl⟩, fun _ _ _ h => h⟩
theorem fp_RX7_223 : mw_FP RX7 223 6 4 (.int) false := ⟨RX5, TX5, 6, "AccessGate$Session", tyX5, rfl, by decide, uin_6, fun U A h => Or.inr ⟨rfl, _, mw_use h kw623 rfl⟩, fun _ _ _ h => h, tyX5_ok, nmX5, by decide +kernel, rfl, fun h => nomatch h⟩
theorem fl_RX5_19 : mw_FL RX5 19 6 5 := ⟨RX5, TX5, 6, "AccessGate$Session", rfl, by decide, uin_6, fun U A h => Or.inl (mw_use h kw624 rfl), fun _ _ _ h => h⟩
theorem fp_RX5_19 : mw_FP RX5 19 6 5 (.int) false := ⟨RX5, TX5, 6, "AccessGate$Session", tyX5, rfl, by decide, uin_6, fun U A h => Or.inl (mw_use h kw624 rfl), fun _ _ _ h => h, tyX5_ok, nmX5, by decide +kernel, rfl, fun h => nomatch h⟩
theorem fl_RX7_220 : mw_FL RX7 220 6 5 := ⟨RX5, TX5, 6, "AccessGate$Session", rfl, by decide, uin_6, fun U A h => Or.inr ⟨_, mw_use h kw625 rfl⟩, fun _ _ _ h => h⟩
theorem fp_RX7_220 : mw_FP RX7 220 6 5 (.int) false := ⟨RX5, TX5, 6, "AccessGate$Session", tyX5, rfl, by decide, uin_6, fun U A h => Or.inr ⟨rfl, _, mw_use h kw625 rfl⟩, fun _ _ _ h => h, tyX5_ok, nmX5, by decide +kernel, rfl, fun h => nomatch h⟩
theorem fl_RX8_7 : mw_FL RX8 7 9 0 := ⟨RX8, TX8, 34, "AccessGateModel", rfl, by decide, uin_9, fun U A h => Or.inl (mw_use h kw717 rfl), fun _ _ _ h => h⟩
theorem fp_RX8_7 : mw_FP RX8 7 9 0 (.array .int) true := ⟨RX8, TX8, 34, "AccessGateModel", tyX8, rfl, by decide, uin_9, fun U A h => Or.inl (mw_use h kw717 rfl), fun _ _ _ h => h, tyX8_ok, nmX8, by decide +kernel, rfl, fun _ => rfl⟩
theorem fl_RX8_13 : mw_FL RX8 13 9 1 := ⟨RX8, TX8, 34, "AccessGateModel", rfl, by decide, uin_9, fun U A h => Or.inl (mw_use h kw718 rfl), fun _ _ _ h => h⟩
theorem fp_RX8_13 : mw_FP RX8 13 9 1 (.array .boolean) true := ⟨RX8, TX8, 34, "AccessGateModel", tyX8, rfl, by decide, uin_9, fun U A h => Or.inl (mw_use h kw718 rfl), fun _ _ _ h => h, tyX8_ok, nmX8, by decide +kernel, rfl, fun _ => rfl⟩
theorem fl_RX8_90 : mw_FL RX8 90 9 2 := ⟨RX8, TX8, 34, "AccessGateModel", rfl, by decide, uin_9, fun U A h => Or.inl (mw_use h kw719 rfl), fun _ _ _ h => h⟩
theorem fp_RX8_90 : mw_FP RX8 90 9 2 (.int) false := ⟨RX8, TX8, 34, "AccessGateModel", tyX8, rfl, by decide, uin_9, fun U A h => Or.inl (mw_use h kw719 rfl), fun _ _ _ h => h, tyX8_ok, nmX8, by decide +kernel, rfl, fun h => nomatch h⟩
theorem fl_RX8_17 : mw_FL RX8 17 9 3 := ⟨RX8, TX8, 34, "AccessGateModel", rfl, by decide, uin_9, fun U A h => Or.inl (mw_use h kw720 rfl), fun _ _ _ h => h⟩
theorem fp_RX8_17 : mw_FP RX8 17 9 3 (.array .int) true := ⟨RX8, TX8, 34, "AccessGateModel", tyX8, rfl, by decide, uin_9, fun U A h => Or.inl (mw_use h kw720 rfl), fun _ _ _ h => h, tyX8_ok, nmX8, by decide +kernel, rfl, fun _ => rfl⟩
theorem fl_RX8_97 : mw_FL RX8 97 9 4 := ⟨RX8, TX8, 34, "AccessGateModel", rfl, by decide, uin_9, fun U A h => Or.inl (mw_use h kw721 rfl), fun _ _ _ h => h⟩
theorem fp_RX8_97 : mw_FP RX8 97 9 4 (.int) false := ⟨RX8, TX8, 34, "AccessGateModel", tyX8, rfl, by decide, uin_9, fun U A h => Or.inl (mw_use h kw721 rfl), fun _ _ _ h => h, tyX8_ok, nmX8, by decide +kernel, rfl, fun h => nomatch h⟩
theorem fl_RX8_119 : mw_FL RX8 119 9 5 := ⟨RX8, TX8, 34, "AccessGateModel", rfl, by decide, uin_9, fun U A h => Or.inl (mw_use h kw722 rfl), fun _ _ _ h => h⟩
theorem fp_RX8_119 : mw_FP RX8 119 9 5 (.int) false := ⟨RX8, TX8, 34, "AccessGateModel", tyX8, rfl, by decide, uin_9, fun U A h => Or.inl (mw_use h kw722 rfl), fun _ _ _ h => h, tyX8_ok, nmX8, by decide +kernel, rfl, fun h => nomatch h⟩
theorem fl_RX8_20 : mw_FL RX8 20 9 6 := ⟨RX8, TX8, 34, "AccessGateModel", rfl, by decide, uin_9, fun U A h => Or.inl (mw_use h kw723 rfl), fun _ _ _ h => h⟩
theorem fp_RX8_20 : mw_FP RX8 20 9 6 (.array .int) true := ⟨RX8, TX8, 34, "AccessGateModel", tyX8, rfl, by decide, uin_9, fun U A h => Or.inl (mw_use h kw723 rfl), fun _ _ _ h => h, tyX8_ok, nmX8, by decide +kernel, rfl, fun _ => rfl⟩
theorem fl_RX8_23 : mw_FL RX8 23 9 7 := ⟨RX8, TX8, 34, "AccessGateModel", rfl, by decide, uin_9, fun U A h => Or.inl (mw_use h kw724 rfl), fun _ _ _ h => h⟩
theorem fp_RX8_23 : mw_FP RX8 23 9 7 (.array .int) true := ⟨RX8, TX8, 34, "AccessGateModel", tyX8, rfl, by decide, uin_9, fun U A h => Or.inl (mw_use h kw724 rfl), fun _ _ _ h => h, tyX8_ok, nmX8, by decide +kernel, rfl, fun _ => rfl⟩
theorem fl_RX8_26 : mw_FL RX8 26 9 8 := ⟨RX8, TX8, 34, "AccessGateModel", rfl, by decide, uin_9, fun U A h => Or.inl (mw_use h kw725 rfl), fun _ _ _ h => h⟩
theorem fp_RX8_26 : mw_FP RX8 26 9 8 (.array .int) true := ⟨RX8, TX8, 34, "AccessGateModel", tyX8, rfl, by decide, uin_9, fun U A h => Or.inl (mw_use h kw725 rfl), fun _ _ _ h => h, tyX8_ok, nmX8, by decide +kernel, rfl, fun _ => rfl⟩
theorem fl_RX8_29 : mw_FL RX8 29 9 9 := ⟨RX8, TX8, 34, "AccessGateModel", rfl, by decide, uin_9, fun U A h => Or.inl (mw_use h kw726 rfl), fun _ _ _ h => h⟩
theorem fp_RX8_29 : mw_FP RX8 29 9 9 (.array .int) true := ⟨RX8, TX8, 34, "AccessGateModel", tyX8, rfl, by decide, uin_9, fun U A h => Or.inl (mw_use h kw726 rfl), fun _ _ _ h => h, tyX8_ok, nmX8, by decide +kernel, rfl, fun _ => rfl⟩
theorem fl_RX8_127 : mw_FL RX8 127 9 10 := ⟨RX8, TX8, 34, "AccessGateModel", rfl, by decide, uin_9, fun U A h => Or.inl (mw_use h kw727 rfl), fun _ _ _ h => h⟩
theorem fp_RX8_127 : mw_FP RX8 127 9 10 (.int) false := ⟨RX8, TX8, 34, "AccessGateModel", tyX8, rfl, by decide, uin_9, fun U A h => Or.inl (mw_use h kw727 rfl), fun _ _ _ h => h, tyX8_ok, nmX8, by decide +kernel, rfl, fun h => nomatch h⟩
theorem fl_RX8_32 : mw_FL RX8 32 9 11 := ⟨RX8, TX8, 34, "AccessGateModel", rfl, by decide, uin_9, fun U A h => Or.inl (mw_use h kw728 rfl), fun _ _ _ h => h⟩
theorem fp_RX8_32 : mw_FP RX8 32 9 11 (.array .int) true := ⟨RX8, TX8, 34, "AccessGateModel", tyX8, rfl, by decide, uin_9, fun U A h => Or.inl (mw_use h kw728 rfl), fun _ _ _ h => h, tyX8_ok, nmX8, by decide +kernel, rfl, fun _ => rfl⟩
theorem fl_RX8_35 : mw_FL RX8 35 9 12 := ⟨RX8, TX8, 34, "AccessGateModel", rfl, by decide, uin_9, fun U A h => Or.inl (mw_use h kw729 rfl), fun _ _ _ h => h⟩
theorem fp_RX8_35 : mw_FP RX8 35 9 12 (.array .int) true := ⟨RX8, TX8, 34, "AccessGateModel", tyX8, rfl, by decide, uin_9, fun U A h => Or.inl (mw_use h kw729 rfl), fun _ _ _ h => h, tyX8_ok, nmX8, by decide +kernel, rfl, fun _ => rfl⟩
theorem fl_RX8_38 : mw_FL RX8 38 9 13 := ⟨RX8, TX8, 34, "AccessGateModel", rfl, by decide, uin_9, fun U A h => Or.inl (mw_use h kw730 rfl), fun _ _ _ h => h⟩
theorem fp_RX8_38 : mw_FP RX8 38 9 13 (.array .int) true := ⟨RX8, TX8, 34, "AccessGateModel", tyX8, rfl, by decide, uin_9, fun U A h => Or.inl (mw_use h kw730 rfl), fun _ _ _ h => h, tyX8_ok, nmX8, by decide +kernel, rfl, fun _ => rfl⟩
theorem fl_RX8_41 : mw_FL RX8 41 9 14 := ⟨RX8, TX8, 34, "AccessGateModel", rfl, by decide, uin_9, fun U A h => Or.inl (mw_use h kw731 rfl), fun _ _ _ h => h⟩
theorem fp_RX8_41 : mw_FP RX8 41 9 14 (.array .int) true := ⟨RX8, TX8, 34, "AccessGateModel", tyX8, rfl, by decide, uin_9, fun U A h => Or.inl (mw_use h kw731 rfl), fun _ _ _ h => h, tyX8_ok, nmX8, by decide +kernel, rfl, fun _ => rfl⟩
theorem fl_RX8_44 : mw_FL RX8 44 9 15 := ⟨RX8, TX8, 34, "AccessGateModel", rfl, by decide, uin_9, fun U A h => Or.inl (mw_use h kw732 rfl), fun _ _ _ h => h⟩
theorem fp_RX8_44 : mw_FP RX8 44 9 15 (.array .int) true := ⟨RX8, TX8, 34, "AccessGateModel", tyX8, rfl, by decide, uin_9, fun U A h => Or.inl (mw_use h kw732 rfl), fun _ _ _ h => h, tyX8_ok, nmX8, by decide +kernel, rfl, fun _ => rfl⟩
theorem fl_RX8_47 : mw_FL RX8 47 9 16 := ⟨RX8, TX8, 34, "AccessGateModel", rfl, by decide, uin_9, fun U A h => Or.inl (mw_use h kw733 rfl), fun _ _ _ h => h⟩
theorem fp_RX8_47 : mw_FP RX8 47 9 16 (.array .int) true := ⟨RX8, TX8, 34, "AccessGateModel", tyX8, rfl, by decide, uin_9, fun U A h => Or.inl (mw_use h kw733 rfl), fun _ _ _ h => h, tyX8_ok, nmX8, by decide +kernel, rfl, fun _ => rfl⟩
theorem fl_RX8_107 : mw_FL RX8 107 9 17 := ⟨RX8, TX8, 34, "AccessGateModel", rfl, by decide, uin_9, fun U A h => Or.inl (mw_use h kw734 rfl), fun _ _ _ h => h⟩
theorem fp_RX8_107 : mw_FP RX8 107 9 17 (.int) false := ⟨RX8, TX8, 34, "AccessGateModel", tyX8, rfl, by decide, uin_9, fun U A h => Or.inl (mw_use h kw734 rfl), fun _ _ _ h => h, tyX8_ok, nmX8, by decide +kernel, rfl, fun h => nomatch h⟩
theorem fl_RX8_50 : mw_FL RX8 50 9 18 := ⟨RX8, TX8, 34, "AccessGateModel", rfl, by decide, uin_9, fun U A h => Or.inl (mw_use h kw735 rfl), fun _ _ _ h => h⟩
theorem fp_RX8_50 : mw_FP RX8 50 9 18 (.array .int) true := ⟨RX8, TX8, 34, "AccessGateModel", tyX8, rfl, by decide, uin_9, fun U A h => Or.inl (mw_use h kw735 rfl), fun _ _ _ h => h, tyX8_ok, nmX8, by decide +kernel, rfl, fun _ => rfl⟩
theorem fl_RX8_53 : mw_FL RX8 53 9 19 := ⟨RX8, TX8, 34, "AccessGateModel", rfl, by decide, uin_9, fun U A h => Or.inl (mw_use h kw736 rfl), fun _ _ _ h => h⟩
theorem fp_RX8_53 : mw_FP RX8 53 9 19 (.array .int) true := ⟨RX8, TX8, 34, "AccessGateModel", tyX8, rfl, by decide, uin_9, fun U A h => Or.inl (mw_use h kw736 rfl), fun _ _ _ h => h, tyX8_ok, nmX8, by decide +kernel, rfl, fun _ => rfl⟩
theorem fl_RX8_56 : mw_FL RX8 56 9 20 := ⟨RX8, TX8, 34, "AccessGateModel", rfl, by decide, uin_9, fun U A h => Or.inl (mw_use h kw737 rfl), fun _ _ _ h => h⟩
theorem fp_RX8_56 : mw_FP RX8 56 9 20 (.array .int) true := ⟨RX8, TX8, 34, "AccessGateModel", tyX8, rfl, by decide, uin_9, fun U A h => Or.inl (mw_use h kw737 rfl), fun _ _ _ h => h, tyX8_ok, nmX8, by decide +kernel, rfl, fun _ => rfl⟩
theorem fl_RX8_59 : mw_FL RX8 59 9 21 := ⟨RX8, TX8, 34, "AccessGateModel", rfl, by decide, uin_9, fun U A h => Or.inl (mw_use h kw738 rfl), fun _ _ _ h => h⟩
theorem fp_RX8_59 : mw_FP RX8 59 9 21 (.array .boolean) true := ⟨RX8, TX8, 34, "AccessGateModel", tyX8, rfl, by decide, uin_9, fun U A h => Or.inl (mw_use h kw738 rfl), fun _ _ _ h => h, tyX8_ok, nmX8, by decide +kernel, rfl, fun _ => rfl⟩
theorem fl_RX8_110 : mw_FL RX8 110 9 22 := ⟨RX8, TX8, 34, "AccessGateModel", rfl, by decide, uin_9, fun U A h => Or.inl (mw_use h kw739 rfl), fun _ _ _ h => h⟩
theorem fp_RX8_110 : mw_FP RX8 110 9 22 (.int) false := ⟨RX8, TX8, 34, "AccessGateModel", tyX8, rfl, by decide, uin_9, fun U A h => Or.inl (mw_use h kw739 rfl), fun _ _ _ h => h, tyX8_ok, nmX8, by decide +kernel, rfl, fun h => nomatch h⟩
theorem fl_RX8_62 : mw_FL RX8 62 9 23 := ⟨RX8, TX8, 34, "AccessGateModel", rfl, by decide, uin_9, fun U A h => Or.inl (mw_use h kw740 rfl), fun _ _ _ h => h⟩
theorem fp_RX8_62 : mw_FP RX8 62 9 23 (.array .int) true := ⟨RX8, TX8, 34, "AccessGateModel", tyX8, rfl, by decide, uin_9, fun U A h => Or.inl (mw_use h kw740 rfl), fun _ _ _ h => h, tyX8_ok, nmX8, by decide +kernel, rfl, fun _ => rfl⟩
theorem fl_RX8_65 : mw_FL RX8 65 9 24 := ⟨RX8, TX8, 34, "AccessGateModel", rfl, by decide, uin_9, fun U A h => Or.inl (mw_use h kw741 rfl), fun _ _ _ h => h⟩
theorem fp_RX8_65 : mw_FP RX8 65 9 24 (.array .int) true := ⟨RX8, TX8, 34, "AccessGateModel", tyX8, rfl, by decide, uin_9, fun U A h => Or.inl (mw_use h kw741 rfl), fun _ _ _ h => h, tyX8_ok, nmX8, by decide +kernel, rfl, fun _ => rfl⟩
theorem fl_RX8_68 : mw_FL RX8 68 9 25 := ⟨RX8, TX8, 34, "AccessGateModel", rfl, by decide, uin_9, fun U A h => Or.inl (mw_use h kw742 rfl), fun _ _ _ h => h⟩
theorem fp_RX8_68 : mw_FP RX8 68 9 25 (.array .boolean) true := ⟨RX8, TX8, 34, "AccessGateModel", tyX8, rfl, by decide, uin_9, fun U A h => Or.inl (mw_use h kw742 rfl), fun _ _ _ h => h, tyX8_ok, nmX8, by decide +kernel, rfl, fun _ => rfl⟩
theorem fl_RX8_71 : mw_FL RX8 71 9 26 := ⟨RX8, TX8, 34, "AccessGateModel", rfl, by decide, uin_9, fun U A h => Or.inl (mw_use h kw743 rfl), fun _ _ _ h => h⟩
theorem fp_RX8_71 : mw_FP RX8 71 9 26 (.array .int) true := ⟨RX8, TX8, 34, "AccessGateModel", tyX8, rfl, by decide, uin_9, fun U A h => Or.inl (mw_use h kw743 rfl), fun _ _ _ h => h, tyX8_ok, nmX8, by decide +kernel, rfl, fun _ => rfl⟩
theorem fl_RX8_74 : mw_FL RX8 74 9 27 := ⟨RX8, TX8, 34, "AccessGateModel", rfl, by decide, uin_9, fun U A h => Or.inl (mw_use h kw744 rfl), fun _ _ _ h => h⟩
theorem fp_RX8_74 : mw_FP RX8 74 9 27 (.array .int) true := ⟨RX8, TX8, 34, "AccessGateModel", tyX8, rfl, by decide, uin_9, fun U A h => Or.inl (mw_use h kw744 rfl), fun _ _ _ h => h, tyX8_ok, nmX8, by decide +kernel, rfl, fun _ => rfl⟩
theorem fl_RX8_77 : mw_FL RX8 77 9 28 := ⟨RX8, TX8, 34, "AccessGateModel", rfl, by decide, uin_9, fun U A h => Or.inl (mw_use h kw745 rfl), fun _ _ _ h => h⟩
theorem fp_RX8_77 : mw_FP RX8 77 9 28 (.array .int) true := ⟨RX8, TX8, 34, "AccessGateModel", tyX8, rfl, by decide, uin_9, fun U A h => Or.inl (mw_use h kw745 rfl), fun _ _ _ h => h, tyX8_ok, nmX8, by decide +kernel, rfl, fun _ => rfl⟩
theorem fl_RX8_113 : mw_FL RX8 113 9 29 := ⟨RX8, TX8, 34, "AccessGateModel", rfl, by decide, uin_9, fun U A h => Or.inl (mw_use h kw746 rfl), fun _ _ _ h => h⟩
theorem fp_RX8_113 : mw_FP RX8 113 9 29 (.int) false := ⟨RX8, TX8, 34, "AccessGateModel", tyX8, rfl, by decide, uin_9, fun U A h => Or.inl (mw_use h kw746 rfl), fun _ _ _ h => h, tyX8_ok, nmX8, by decide +kernel, rfl, fun h => nomatch h⟩
theorem fl_RX8_80 : mw_FL RX8 80 9 30 := ⟨RX8, TX8, 34, "AccessGateModel", rfl, by decide, uin_9, fun U A h => Or.inl (mw_use h kw747 rfl), fun _ _ _ h => h⟩
theorem fp_RX8_80 : mw_FP RX8 80 9 30 (.array .int) true := ⟨RX8, TX8, 34, "AccessGateModel", tyX8, rfl, by decide, uin_9, fun U A h => Or.inl (mw_use h kw747 rfl), fun _ _ _ h => h, tyX8_ok, nmX8, by decide +kernel, rfl, fun _ => rfl⟩
theorem fl_RX8_83 : mw_FL RX8 83 9 31 := ⟨RX8, TX8, 34, "AccessGateModel", rfl, by decide, uin_9, fun U A h => Or.inl (mw_use h kw748 rfl), fun _ _ _ h => h⟩
theorem fp_RX8_83 : mw_FP RX8 83 9 31 (.array .int) true := ⟨RX8, TX8, 34, "AccessGateModel", tyX8, rfl, by decide, uin_9, fun U A h => Or.inl (mw_use h kw748 rfl), fun _ _ _ h => h, tyX8_ok, nmX8, by decide +kernel, rfl, fun _ => rfl⟩
theorem fl_RX8_116 : mw_FL RX8 116 9 32 := ⟨RX8, TX8, 34, "AccessGateModel", rfl, by decide, uin_9, fun U A h => Or.inl (mw_use h kw749 rfl), fun _ _ _ h => h⟩
theorem fp_RX8_116 : mw_FP RX8 116 9 32 (.int) false := ⟨RX8, TX8, 34, "AccessGateModel", tyX8, rfl, by decide, uin_9, fun U A h => Or.inl (mw_use h kw749 rfl), fun _ _ _ h => h, tyX8_ok, nmX8, by decide +kernel, rfl, fun h => nomatch h⟩
theorem fl_RX8_86 : mw_FL RX8 86 9 33 := ⟨RX8, TX8, 34, "AccessGateModel", rfl, by decide, uin_9, fun U A h => Or.inl (mw_use h kw750 rfl), fun _ _ _ h => h⟩
theorem fp_RX8_86 : mw_FP RX8 86 9 33 (.int) false := ⟨RX8, TX8, 34, "AccessGateModel", tyX8, rfl, by decide, uin_9, fun U A h => Or.inl (mw_use h kw750 rfl), fun _ _ _ h => h, tyX8_ok, nmX8, by decide +kernel, rfl, fun h => nomatch h⟩
theorem tx_45_49 : mw_TX RX7 45 49 "java/lang/IllegalArgumentException" ["java/lang/RuntimeException", "java/lang/Exception"] := ⟨by decide, by decide, kw131, kw10, by decide +kernel⟩
theorem tx_56_60 : mw_TX RX7 56 60 "java/lang/IllegalStateException" ["java/lang/RuntimeException", "java/lang/Exception"] := ⟨by decide, by decide, kw203, kw11, by decide +kernel⟩
theorem tx_255_259 : mw_TX RX7 255 259 "java/lang/IndexOutOfBoundsException" ["java/lang/RuntimeException", "java/lang/Exception"] := ⟨by decide, by decide, kw337, kw18, by decide +kernel⟩
end

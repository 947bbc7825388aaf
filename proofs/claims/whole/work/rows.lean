section
-- ===== PART A: goes FIRST, ahead of the names: the tables' words, and 'selects' of the private methods out of them =====
/-- a private method of a class that the tables say can be made, by its rows of tables_1 -/
def lw_okq (q : MethodName × Nat) : Prop := (q.1.cls ≠ "java/lang/invoke/MethodHandle" ∧ q.1.cls ≠ "java/lang/invoke/VarHandle") ∧ Cond.instantiable q.1.cls q.2 ∈ tables_1 ∧ Cond.privateMethod q.1 ∈ tables_1 ∧ Cond.instanceMethod q.1 ∈ tables_1
theorem lw_p0 : lw_okq (⟨"GoalDesk$Aparts", "waitingNow", "()I"⟩, 8) := ⟨⟨by decide +kernel, by decide +kernel⟩, List.mem_of_getElem? (i := 264) (by decide +kernel), List.mem_of_getElem? (i := 407) (by decide +kernel), List.mem_of_getElem? (i := 408) (by decide +kernel)⟩
theorem lw_p1 : lw_okq (⟨"java/lang/Throwable", "fillInStackTrace", "(I)Ljava/lang/Throwable;"⟩, 6) := ⟨⟨by decide +kernel, by decide +kernel⟩, List.mem_of_getElem? (i := 459) (by decide +kernel), List.mem_of_getElem? (i := 457) (by decide +kernel), List.mem_of_getElem? (i := 458) (by decide +kernel)⟩
theorem lw_p2 : lw_okq (⟨"GoalDesk$Reader", "readClause", "([CILGoalDesk$Clause;)Z"⟩, 5) := ⟨⟨by decide +kernel, by decide +kernel⟩, List.mem_of_getElem? (i := 163) (by decide +kernel), List.mem_of_getElem? (i := 506) (by decide +kernel), List.mem_of_getElem? (i := 507) (by decide +kernel)⟩
theorem lw_p3 : lw_okq (⟨"GoalDesk$Reader", "begin", "([CILGoalDesk$Clause;)V"⟩, 5) := ⟨⟨by decide +kernel, by decide +kernel⟩, List.mem_of_getElem? (i := 163) (by decide +kernel), List.mem_of_getElem? (i := 510) (by decide +kernel), List.mem_of_getElem? (i := 511) (by decide +kernel)⟩
theorem lw_p4 : lw_okq (⟨"GoalDesk$Reader", "here", "()C"⟩, 5) := ⟨⟨by decide +kernel, by decide +kernel⟩, List.mem_of_getElem? (i := 163) (by decide +kernel), List.mem_of_getElem? (i := 514) (by decide +kernel), List.mem_of_getElem? (i := 515) (by decide +kernel)⟩
theorem lw_p5 : lw_okq (⟨"GoalDesk$Reader", "readTerm", "(I)Z"⟩, 5) := ⟨⟨by decide +kernel, by decide +kernel⟩, List.mem_of_getElem? (i := 163) (by decide +kernel), List.mem_of_getElem? (i := 521) (by decide +kernel), List.mem_of_getElem? (i := 522) (by decide +kernel)⟩
theorem lw_p6 : lw_okq (⟨"GoalDesk$Reader", "readArguments", "(II)Z"⟩, 5) := ⟨⟨by decide +kernel, by decide +kernel⟩, List.mem_of_getElem? (i := 163) (by decide +kernel), List.mem_of_getElem? (i := 531) (by decide +kernel), List.mem_of_getElem? (i := 532) (by decide +kernel)⟩
theorem lw_p7 : lw_okq (⟨"GoalDesk$Reader", "skip", "(C)Z"⟩, 5) := ⟨⟨by decide +kernel, by decide +kernel⟩, List.mem_of_getElem? (i := 163) (by decide +kernel), List.mem_of_getElem? (i := 535) (by decide +kernel), List.mem_of_getElem? (i := 536) (by decide +kernel)⟩
theorem lw_p8 : lw_okq (⟨"GoalDesk$Reader", "readGoals", "()Z"⟩, 5) := ⟨⟨by decide +kernel, by decide +kernel⟩, List.mem_of_getElem? (i := 163) (by decide +kernel), List.mem_of_getElem? (i := 539) (by decide +kernel), List.mem_of_getElem? (i := 540) (by decide +kernel)⟩
theorem lw_p9 : lw_okq (⟨"GoalDesk$Reader", "readGoal", "()Z"⟩, 5) := ⟨⟨by decide +kernel, by decide +kernel⟩, List.mem_of_getElem? (i := 163) (by decide +kernel), List.mem_of_getElem? (i := 543) (by decide +kernel), List.mem_of_getElem? (i := 544) (by decide +kernel)⟩
theorem lw_p10 : lw_okq (⟨"GoalDesk$Clause", "putGoal", "(CII)V"⟩, 7) := ⟨⟨by decide +kernel, by decide +kernel⟩, List.mem_of_getElem? (i := 124) (by decide +kernel), List.mem_of_getElem? (i := 547) (by decide +kernel), List.mem_of_getElem? (i := 548) (by decide +kernel)⟩
theorem lw_p11 : lw_okq (⟨"GoalDesk$Reader", "rankVariables", "()V"⟩, 5) := ⟨⟨by decide +kernel, by decide +kernel⟩, List.mem_of_getElem? (i := 163) (by decide +kernel), List.mem_of_getElem? (i := 551) (by decide +kernel), List.mem_of_getElem? (i := 552) (by decide +kernel)⟩
theorem lw_p12 : lw_okq (⟨"GoalDesk$Reader", "readQuestion", "([CILGoalDesk$Clause;)Z"⟩, 5) := ⟨⟨by decide +kernel, by decide +kernel⟩, List.mem_of_getElem? (i := 163) (by decide +kernel), List.mem_of_getElem? (i := 574) (by decide +kernel), List.mem_of_getElem? (i := 575) (by decide +kernel)⟩
theorem lw_p13 : lw_okq (⟨"GoalDesk$Search", "begin", "(LGoalDesk$Clause;[LGoalDesk$Clause;I)V"⟩, 16) := ⟨⟨by decide +kernel, by decide +kernel⟩, List.mem_of_getElem? (i := 186) (by decide +kernel), List.mem_of_getElem? (i := 578) (by decide +kernel), List.mem_of_getElem? (i := 579) (by decide +kernel)⟩
theorem lw_p14 : lw_okq (⟨"GoalDesk$Variables", "clear", "()V"⟩, 14) := ⟨⟨by decide +kernel, by decide +kernel⟩, List.mem_of_getElem? (i := 66) (by decide +kernel), List.mem_of_getElem? (i := 582) (by decide +kernel), List.mem_of_getElem? (i := 583) (by decide +kernel)⟩
theorem lw_p15 : lw_okq (⟨"GoalDesk$Aparts", "clear", "()V"⟩, 8) := ⟨⟨by decide +kernel, by decide +kernel⟩, List.mem_of_getElem? (i := 264) (by decide +kernel), List.mem_of_getElem? (i := 586) (by decide +kernel), List.mem_of_getElem? (i := 587) (by decide +kernel)⟩
def lw_privs_1 : List (MethodName × Nat) := [(⟨"GoalDesk$Aparts", "waitingNow", "()I"⟩, 8), (⟨"java/lang/Throwable", "fillInStackTrace", "(I)Ljava/lang/Throwable;"⟩, 6), (⟨"GoalDesk$Reader", "readClause", "([CILGoalDesk$Clause;)Z"⟩, 5), (⟨"GoalDesk$Reader", "begin", "([CILGoalDesk$Clause;)V"⟩, 5), (⟨"GoalDesk$Reader", "here", "()C"⟩, 5), (⟨"GoalDesk$Reader", "readTerm", "(I)Z"⟩, 5), (⟨"GoalDesk$Reader", "readArguments", "(II)Z"⟩, 5), (⟨"GoalDesk$Reader", "skip", "(C)Z"⟩, 5), (⟨"GoalDesk$Reader", "readGoals", "()Z"⟩, 5), (⟨"GoalDesk$Reader", "readGoal", "()Z"⟩, 5), (⟨"GoalDesk$Clause", "putGoal", "(CII)V"⟩, 7), (⟨"GoalDesk$Reader", "rankVariables", "()V"⟩, 5), (⟨"GoalDesk$Reader", "readQuestion", "([CILGoalDesk$Clause;)Z"⟩, 5), (⟨"GoalDesk$Search", "begin", "(LGoalDesk$Clause;[LGoalDesk$Clause;I)V"⟩, 16), (⟨"GoalDesk$Variables", "clear", "()V"⟩, 14), (⟨"GoalDesk$Aparts", "clear", "()V"⟩, 8)]
theorem lw_r1 : ∀ q ∈ lw_privs_1, lw_okq q := List.forall_mem_cons.mpr ⟨lw_p0, List.forall_mem_cons.mpr ⟨lw_p1, List.forall_mem_cons.mpr ⟨lw_p2, List.forall_mem_cons.mpr ⟨lw_p3, List.forall_mem_cons.mpr ⟨lw_p4, List.forall_mem_cons.mpr ⟨lw_p5, List.forall_mem_cons.mpr ⟨lw_p6, List.forall_mem_cons.mpr ⟨lw_p7, List.forall_mem_cons.mpr ⟨lw_p8, List.forall_mem_cons.mpr ⟨lw_p9, List.forall_mem_cons.mpr ⟨lw_p10, List.forall_mem_cons.mpr ⟨lw_p11, List.forall_mem_cons.mpr ⟨lw_p12, List.forall_mem_cons.mpr ⟨lw_p13, List.forall_mem_cons.mpr ⟨lw_p14, List.forall_mem_cons.mpr ⟨lw_p15, fun _ h => absurd h List.not_mem_nil⟩⟩⟩⟩⟩⟩⟩⟩⟩⟩⟩⟩⟩⟩⟩⟩
theorem lw_p16 : lw_okq (⟨"GoalDesk$Variables", "make", "(I)I"⟩, 14) := ⟨⟨by decide +kernel, by decide +kernel⟩, List.mem_of_getElem? (i := 66) (by decide +kernel), List.mem_of_getElem? (i := 590) (by decide +kernel), List.mem_of_getElem? (i := 591) (by decide +kernel)⟩
theorem lw_p17 : lw_okq (⟨"GoalDesk$Search", "putBodyInFront", "(LGoalDesk$Clause;II)V"⟩, 16) := ⟨⟨by decide +kernel, by decide +kernel⟩, List.mem_of_getElem? (i := 186) (by decide +kernel), List.mem_of_getElem? (i := 611) (by decide +kernel), List.mem_of_getElem? (i := 612) (by decide +kernel)⟩
theorem lw_p18 : lw_okq (⟨"GoalDesk$Terms", "termOf", "(II)I"⟩, 4) := ⟨⟨by decide +kernel, by decide +kernel⟩, List.mem_of_getElem? (i := 41) (by decide +kernel), List.mem_of_getElem? (i := 615) (by decide +kernel), List.mem_of_getElem? (i := 616) (by decide +kernel)⟩
theorem lw_p19 : lw_okq (⟨"GoalDesk$Search", "putGoalInFront", "(CIII)V"⟩, 16) := ⟨⟨by decide +kernel, by decide +kernel⟩, List.mem_of_getElem? (i := 186) (by decide +kernel), List.mem_of_getElem? (i := 619) (by decide +kernel), List.mem_of_getElem? (i := 620) (by decide +kernel)⟩
theorem lw_p20 : lw_okq (⟨"java/util/ArrayList", "add", "(Ljava/lang/Object;[Ljava/lang/Object;I)V"⟩, 3) := ⟨⟨by decide +kernel, by decide +kernel⟩, List.mem_of_getElem? (i := 192) (by decide +kernel), List.mem_of_getElem? (i := 653) (by decide +kernel), List.mem_of_getElem? (i := 654) (by decide +kernel)⟩
theorem lw_p21 : lw_okq (⟨"java/util/ArrayList", "grow", "()[Ljava/lang/Object;"⟩, 3) := ⟨⟨by decide +kernel, by decide +kernel⟩, List.mem_of_getElem? (i := 192) (by decide +kernel), List.mem_of_getElem? (i := 657) (by decide +kernel), List.mem_of_getElem? (i := 658) (by decide +kernel)⟩
theorem lw_p22 : lw_okq (⟨"java/util/ArrayList", "grow", "(I)[Ljava/lang/Object;"⟩, 3) := ⟨⟨by decide +kernel, by decide +kernel⟩, List.mem_of_getElem? (i := 192) (by decide +kernel), List.mem_of_getElem? (i := 661) (by decide +kernel), List.mem_of_getElem? (i := 662) (by decide +kernel)⟩
theorem lw_p23 : lw_okq (⟨"GoalDesk$Search", "seek", "(Z)Z"⟩, 16) := ⟨⟨by decide +kernel, by decide +kernel⟩, List.mem_of_getElem? (i := 186) (by decide +kernel), List.mem_of_getElem? (i := 722) (by decide +kernel), List.mem_of_getElem? (i := 723) (by decide +kernel)⟩
theorem lw_p24 : lw_okq (⟨"GoalDesk$Pairs", "clear", "()V"⟩, 8) := ⟨⟨by decide +kernel, by decide +kernel⟩, List.mem_of_getElem? (i := 230) (by decide +kernel), List.mem_of_getElem? (i := 727) (by decide +kernel), List.mem_of_getElem? (i := 728) (by decide +kernel)⟩
theorem lw_p25 : lw_okq (⟨"GoalDesk$Search", "doFirst", "(LGoalDesk$ToDo;)Z"⟩, 16) := ⟨⟨by decide +kernel, by decide +kernel⟩, List.mem_of_getElem? (i := 186) (by decide +kernel), List.mem_of_getElem? (i := 731) (by decide +kernel), List.mem_of_getElem? (i := 732) (by decide +kernel)⟩
theorem lw_p26 : lw_okq (⟨"GoalDesk$Steps", "takeOne", "()V"⟩, 1) := ⟨⟨by decide +kernel, by decide +kernel⟩, List.mem_of_getElem? (i := 218) (by decide +kernel), List.mem_of_getElem? (i := 735) (by decide +kernel), List.mem_of_getElem? (i := 736) (by decide +kernel)⟩
theorem lw_p27 : lw_okq (⟨"GoalDesk$Search", "beginCall", "(I)Z"⟩, 16) := ⟨⟨by decide +kernel, by decide +kernel⟩, List.mem_of_getElem? (i := 186) (by decide +kernel), List.mem_of_getElem? (i := 742) (by decide +kernel), List.mem_of_getElem? (i := 743) (by decide +kernel)⟩
theorem lw_p28 : lw_okq (⟨"GoalDesk$Search", "findClause", "(II)I"⟩, 16) := ⟨⟨by decide +kernel, by decide +kernel⟩, List.mem_of_getElem? (i := 186) (by decide +kernel), List.mem_of_getElem? (i := 746) (by decide +kernel), List.mem_of_getElem? (i := 747) (by decide +kernel)⟩
theorem lw_p29 : lw_okq (⟨"GoalDesk$Terms", "letterOf", "(I)C"⟩, 4) := ⟨⟨by decide +kernel, by decide +kernel⟩, List.mem_of_getElem? (i := 41) (by decide +kernel), List.mem_of_getElem? (i := 750) (by decide +kernel), List.mem_of_getElem? (i := 751) (by decide +kernel)⟩
theorem lw_p30 : lw_okq (⟨"GoalDesk$Terms", "arityOf", "(I)I"⟩, 4) := ⟨⟨by decide +kernel, by decide +kernel⟩, List.mem_of_getElem? (i := 41) (by decide +kernel), List.mem_of_getElem? (i := 754) (by decide +kernel), List.mem_of_getElem? (i := 755) (by decide +kernel)⟩
theorem lw_p31 : lw_okq (⟨"GoalDesk$Search", "leaveChoice", "(II)V"⟩, 16) := ⟨⟨by decide +kernel, by decide +kernel⟩, List.mem_of_getElem? (i := 186) (by decide +kernel), List.mem_of_getElem? (i := 758) (by decide +kernel), List.mem_of_getElem? (i := 759) (by decide +kernel)⟩
def lw_privs_2 : List (MethodName × Nat) := [(⟨"GoalDesk$Variables", "make", "(I)I"⟩, 14), (⟨"GoalDesk$Search", "putBodyInFront", "(LGoalDesk$Clause;II)V"⟩, 16), (⟨"GoalDesk$Terms", "termOf", "(II)I"⟩, 4), (⟨"GoalDesk$Search", "putGoalInFront", "(CIII)V"⟩, 16), (⟨"java/util/ArrayList", "add", "(Ljava/lang/Object;[Ljava/lang/Object;I)V"⟩, 3), (⟨"java/util/ArrayList", "grow", "()[Ljava/lang/Object;"⟩, 3), (⟨"java/util/ArrayList", "grow", "(I)[Ljava/lang/Object;"⟩, 3), (⟨"GoalDesk$Search", "seek", "(Z)Z"⟩, 16), (⟨"GoalDesk$Pairs", "clear", "()V"⟩, 8), (⟨"GoalDesk$Search", "doFirst", "(LGoalDesk$ToDo;)Z"⟩, 16), (⟨"GoalDesk$Steps", "takeOne", "()V"⟩, 1), (⟨"GoalDesk$Search", "beginCall", "(I)Z"⟩, 16), (⟨"GoalDesk$Search", "findClause", "(II)I"⟩, 16), (⟨"GoalDesk$Terms", "letterOf", "(I)C"⟩, 4), (⟨"GoalDesk$Terms", "arityOf", "(I)I"⟩, 4), (⟨"GoalDesk$Search", "leaveChoice", "(II)V"⟩, 16)]
theorem lw_r2 : ∀ q ∈ lw_privs_2, lw_okq q := List.forall_mem_cons.mpr ⟨lw_p16, List.forall_mem_cons.mpr ⟨lw_p17, List.forall_mem_cons.mpr ⟨lw_p18, List.forall_mem_cons.mpr ⟨lw_p19, List.forall_mem_cons.mpr ⟨lw_p20, List.forall_mem_cons.mpr ⟨lw_p21, List.forall_mem_cons.mpr ⟨lw_p22, List.forall_mem_cons.mpr ⟨lw_p23, List.forall_mem_cons.mpr ⟨lw_p24, List.forall_mem_cons.mpr ⟨lw_p25, List.forall_mem_cons.mpr ⟨lw_p26, List.forall_mem_cons.mpr ⟨lw_p27, List.forall_mem_cons.mpr ⟨lw_p28, List.forall_mem_cons.mpr ⟨lw_p29, List.forall_mem_cons.mpr ⟨lw_p30, List.forall_mem_cons.mpr ⟨lw_p31, fun _ h => absurd h List.not_mem_nil⟩⟩⟩⟩⟩⟩⟩⟩⟩⟩⟩⟩⟩⟩⟩⟩
theorem lw_p32 : lw_okq (⟨"GoalDesk$Search", "takeClause", "(III)V"⟩, 16) := ⟨⟨by decide +kernel, by decide +kernel⟩, List.mem_of_getElem? (i := 186) (by decide +kernel), List.mem_of_getElem? (i := 799) (by decide +kernel), List.mem_of_getElem? (i := 800) (by decide +kernel)⟩
theorem lw_p33 : lw_okq (⟨"GoalDesk$Pairs", "putArguments", "(II)V"⟩, 8) := ⟨⟨by decide +kernel, by decide +kernel⟩, List.mem_of_getElem? (i := 230) (by decide +kernel), List.mem_of_getElem? (i := 803) (by decide +kernel), List.mem_of_getElem? (i := 804) (by decide +kernel)⟩
theorem lw_p34 : lw_okq (⟨"GoalDesk$Terms", "argumentOf", "(II)I"⟩, 4) := ⟨⟨by decide +kernel, by decide +kernel⟩, List.mem_of_getElem? (i := 41) (by decide +kernel), List.mem_of_getElem? (i := 808) (by decide +kernel), List.mem_of_getElem? (i := 809) (by decide +kernel)⟩
theorem lw_p35 : lw_okq (⟨"GoalDesk$Pairs", "put", "(II)V"⟩, 8) := ⟨⟨by decide +kernel, by decide +kernel⟩, List.mem_of_getElem? (i := 230) (by decide +kernel), List.mem_of_getElem? (i := 812) (by decide +kernel), List.mem_of_getElem? (i := 813) (by decide +kernel)⟩
theorem lw_p36 : lw_okq (⟨"GoalDesk$Aparts", "putNewest", "(II)V"⟩, 8) := ⟨⟨by decide +kernel, by decide +kernel⟩, List.mem_of_getElem? (i := 264) (by decide +kernel), List.mem_of_getElem? (i := 817) (by decide +kernel), List.mem_of_getElem? (i := 818) (by decide +kernel)⟩
theorem lw_p37 : lw_okq (⟨"GoalDesk$Variables", "valueOf", "(I)I"⟩, 14) := ⟨⟨by decide +kernel, by decide +kernel⟩, List.mem_of_getElem? (i := 66) (by decide +kernel), List.mem_of_getElem? (i := 821) (by decide +kernel), List.mem_of_getElem? (i := 822) (by decide +kernel)⟩
theorem lw_p38 : lw_okq (⟨"GoalDesk$Terms", "variableOf", "(I)I"⟩, 4) := ⟨⟨by decide +kernel, by decide +kernel⟩, List.mem_of_getElem? (i := 41) (by decide +kernel), List.mem_of_getElem? (i := 827) (by decide +kernel), List.mem_of_getElem? (i := 828) (by decide +kernel)⟩
theorem lw_p39 : lw_okq (⟨"GoalDesk$Search", "isLess", "(II)Z"⟩, 16) := ⟨⟨by decide +kernel, by decide +kernel⟩, List.mem_of_getElem? (i := 186) (by decide +kernel), List.mem_of_getElem? (i := 831) (by decide +kernel), List.mem_of_getElem? (i := 832) (by decide +kernel)⟩
theorem lw_p40 : lw_okq (⟨"GoalDesk$Search", "sleepOn", "(II)V"⟩, 16) := ⟨⟨by decide +kernel, by decide +kernel⟩, List.mem_of_getElem? (i := 186) (by decide +kernel), List.mem_of_getElem? (i := 851) (by decide +kernel), List.mem_of_getElem? (i := 852) (by decide +kernel)⟩
theorem lw_p41 : lw_okq (⟨"GoalDesk$Variables", "putToSleep", "(II)V"⟩, 14) := ⟨⟨by decide +kernel, by decide +kernel⟩, List.mem_of_getElem? (i := 66) (by decide +kernel), List.mem_of_getElem? (i := 855) (by decide +kernel), List.mem_of_getElem? (i := 856) (by decide +kernel)⟩
theorem lw_p42 : lw_okq (⟨"GoalDesk$Variables", "linkBehind", "(III)V"⟩, 14) := ⟨⟨by decide +kernel, by decide +kernel⟩, List.mem_of_getElem? (i := 66) (by decide +kernel), List.mem_of_getElem? (i := 859) (by decide +kernel), List.mem_of_getElem? (i := 860) (by decide +kernel)⟩
theorem lw_p43 : lw_okq (⟨"GoalDesk$Search", "goBack", "(LGoalDesk$Choice;)V"⟩, 16) := ⟨⟨by decide +kernel, by decide +kernel⟩, List.mem_of_getElem? (i := 186) (by decide +kernel), List.mem_of_getElem? (i := 863) (by decide +kernel), List.mem_of_getElem? (i := 864) (by decide +kernel)⟩
theorem lw_p44 : lw_okq (⟨"GoalDesk$Variables", "free", "(I)V"⟩, 14) := ⟨⟨by decide +kernel, by decide +kernel⟩, List.mem_of_getElem? (i := 66) (by decide +kernel), List.mem_of_getElem? (i := 867) (by decide +kernel), List.mem_of_getElem? (i := 868) (by decide +kernel)⟩
theorem lw_p45 : lw_okq (⟨"GoalDesk$Variables", "unlink", "(II)V"⟩, 14) := ⟨⟨by decide +kernel, by decide +kernel⟩, List.mem_of_getElem? (i := 66) (by decide +kernel), List.mem_of_getElem? (i := 871) (by decide +kernel), List.mem_of_getElem? (i := 872) (by decide +kernel)⟩
theorem lw_p46 : lw_okq (⟨"GoalDesk$Aparts", "goBack", "(II)V"⟩, 8) := ⟨⟨by decide +kernel, by decide +kernel⟩, List.mem_of_getElem? (i := 264) (by decide +kernel), List.mem_of_getElem? (i := 875) (by decide +kernel), List.mem_of_getElem? (i := 876) (by decide +kernel)⟩
theorem lw_p47 : lw_okq (⟨"GoalDesk$Pairs", "makeSame", "(Z)Z"⟩, 8) := ⟨⟨by decide +kernel, by decide +kernel⟩, List.mem_of_getElem? (i := 230) (by decide +kernel), List.mem_of_getElem? (i := 879) (by decide +kernel), List.mem_of_getElem? (i := 880) (by decide +kernel)⟩
def lw_privs_3 : List (MethodName × Nat) := [(⟨"GoalDesk$Search", "takeClause", "(III)V"⟩, 16), (⟨"GoalDesk$Pairs", "putArguments", "(II)V"⟩, 8), (⟨"GoalDesk$Terms", "argumentOf", "(II)I"⟩, 4), (⟨"GoalDesk$Pairs", "put", "(II)V"⟩, 8), (⟨"GoalDesk$Aparts", "putNewest", "(II)V"⟩, 8), (⟨"GoalDesk$Variables", "valueOf", "(I)I"⟩, 14), (⟨"GoalDesk$Terms", "variableOf", "(I)I"⟩, 4), (⟨"GoalDesk$Search", "isLess", "(II)Z"⟩, 16), (⟨"GoalDesk$Search", "sleepOn", "(II)V"⟩, 16), (⟨"GoalDesk$Variables", "putToSleep", "(II)V"⟩, 14), (⟨"GoalDesk$Variables", "linkBehind", "(III)V"⟩, 14), (⟨"GoalDesk$Search", "goBack", "(LGoalDesk$Choice;)V"⟩, 16), (⟨"GoalDesk$Variables", "free", "(I)V"⟩, 14), (⟨"GoalDesk$Variables", "unlink", "(II)V"⟩, 14), (⟨"GoalDesk$Aparts", "goBack", "(II)V"⟩, 8), (⟨"GoalDesk$Pairs", "makeSame", "(Z)Z"⟩, 8)]
theorem lw_r3 : ∀ q ∈ lw_privs_3, lw_okq q := List.forall_mem_cons.mpr ⟨lw_p32, List.forall_mem_cons.mpr ⟨lw_p33, List.forall_mem_cons.mpr ⟨lw_p34, List.forall_mem_cons.mpr ⟨lw_p35, List.forall_mem_cons.mpr ⟨lw_p36, List.forall_mem_cons.mpr ⟨lw_p37, List.forall_mem_cons.mpr ⟨lw_p38, List.forall_mem_cons.mpr ⟨lw_p39, List.forall_mem_cons.mpr ⟨lw_p40, List.forall_mem_cons.mpr ⟨lw_p41, List.forall_mem_cons.mpr ⟨lw_p42, List.forall_mem_cons.mpr ⟨lw_p43, List.forall_mem_cons.mpr ⟨lw_p44, List.forall_mem_cons.mpr ⟨lw_p45, List.forall_mem_cons.mpr ⟨lw_p46, List.forall_mem_cons.mpr ⟨lw_p47, fun _ h => absurd h List.not_mem_nil⟩⟩⟩⟩⟩⟩⟩⟩⟩⟩⟩⟩⟩⟩⟩⟩
theorem lw_p48 : lw_okq (⟨"GoalDesk$Pairs", "makePairSame", "(IIZ)Z"⟩, 8) := ⟨⟨by decide +kernel, by decide +kernel⟩, List.mem_of_getElem? (i := 230) (by decide +kernel), List.mem_of_getElem? (i := 885) (by decide +kernel), List.mem_of_getElem? (i := 886) (by decide +kernel)⟩
theorem lw_p49 : lw_okq (⟨"GoalDesk$Variables", "bind", "(II)V"⟩, 14) := ⟨⟨by decide +kernel, by decide +kernel⟩, List.mem_of_getElem? (i := 66) (by decide +kernel), List.mem_of_getElem? (i := 893) (by decide +kernel), List.mem_of_getElem? (i := 894) (by decide +kernel)⟩
theorem lw_p50 : lw_okq (⟨"GoalDesk$Pairs", "wake", "(I)V"⟩, 8) := ⟨⟨by decide +kernel, by decide +kernel⟩, List.mem_of_getElem? (i := 230) (by decide +kernel), List.mem_of_getElem? (i := 898) (by decide +kernel), List.mem_of_getElem? (i := 899) (by decide +kernel)⟩
theorem lw_p51 : lw_okq (⟨"GoalDesk$Aparts", "hold", "(I)Z"⟩, 8) := ⟨⟨by decide +kernel, by decide +kernel⟩, List.mem_of_getElem? (i := 264) (by decide +kernel), List.mem_of_getElem? (i := 902) (by decide +kernel), List.mem_of_getElem? (i := 903) (by decide +kernel)⟩
theorem lw_p52 : lw_okq (⟨"GoalDesk$Aparts", "settle", "(I)V"⟩, 8) := ⟨⟨by decide +kernel, by decide +kernel⟩, List.mem_of_getElem? (i := 264) (by decide +kernel), List.mem_of_getElem? (i := 909) (by decide +kernel), List.mem_of_getElem? (i := 910) (by decide +kernel)⟩
theorem lw_p53 : lw_okq (⟨"GoalDesk$Search", "putInFront", "()V"⟩, 16) := ⟨⟨by decide +kernel, by decide +kernel⟩, List.mem_of_getElem? (i := 186) (by decide +kernel), List.mem_of_getElem? (i := 913) (by decide +kernel), List.mem_of_getElem? (i := 914) (by decide +kernel)⟩
theorem lw_p54 : lw_okq (⟨"GoalDesk$Writer", "write", "(I)I"⟩, 4) := ⟨⟨by decide +kernel, by decide +kernel⟩, List.mem_of_getElem? (i := 352) (by decide +kernel), List.mem_of_getElem? (i := 946) (by decide +kernel), List.mem_of_getElem? (i := 947) (by decide +kernel)⟩
theorem lw_p55 : lw_okq (⟨"GoalDesk$Writer", "writeTerm", "(II)V"⟩, 4) := ⟨⟨by decide +kernel, by decide +kernel⟩, List.mem_of_getElem? (i := 352) (by decide +kernel), List.mem_of_getElem? (i := 950) (by decide +kernel), List.mem_of_getElem? (i := 951) (by decide +kernel)⟩
theorem lw_p56 : lw_okq (⟨"GoalDesk$Writer", "put", "(C)V"⟩, 4) := ⟨⟨by decide +kernel, by decide +kernel⟩, List.mem_of_getElem? (i := 352) (by decide +kernel), List.mem_of_getElem? (i := 955) (by decide +kernel), List.mem_of_getElem? (i := 956) (by decide +kernel)⟩
theorem lw_p57 : lw_okq (⟨"GoalDesk$Variables", "asleepOn", "(I)I"⟩, 14) := ⟨⟨by decide +kernel, by decide +kernel⟩, List.mem_of_getElem? (i := 66) (by decide +kernel), List.mem_of_getElem? (i := 969) (by decide +kernel), List.mem_of_getElem? (i := 970) (by decide +kernel)⟩
theorem lw_p58 : lw_okq (⟨"GoalDeskModel", "bad", "(Z)Z"⟩, 64) := ⟨⟨by decide +kernel, by decide +kernel⟩, List.mem_of_getElem? (i := 974) (by decide +kernel), List.mem_of_getElem? (i := 1185) (by decide +kernel), List.mem_of_getElem? (i := 1186) (by decide +kernel)⟩
theorem lw_p59 : lw_okq (⟨"GoalDeskModel", "fail", "(I)I"⟩, 64) := ⟨⟨by decide +kernel, by decide +kernel⟩, List.mem_of_getElem? (i := 974) (by decide +kernel), List.mem_of_getElem? (i := 1189) (by decide +kernel), List.mem_of_getElem? (i := 1190) (by decide +kernel)⟩
theorem lw_p60 : lw_okq (⟨"GoalDeskModel", "readClause", "()Z"⟩, 64) := ⟨⟨by decide +kernel, by decide +kernel⟩, List.mem_of_getElem? (i := 974) (by decide +kernel), List.mem_of_getElem? (i := 1197) (by decide +kernel), List.mem_of_getElem? (i := 1198) (by decide +kernel)⟩
theorem lw_p61 : lw_okq (⟨"GoalDeskModel", "readTerm", "(Z)Z"⟩, 64) := ⟨⟨by decide +kernel, by decide +kernel⟩, List.mem_of_getElem? (i := 974) (by decide +kernel), List.mem_of_getElem? (i := 1201) (by decide +kernel), List.mem_of_getElem? (i := 1202) (by decide +kernel)⟩
theorem lw_p62 : lw_okq (⟨"GoalDeskModel", "look", "()I"⟩, 64) := ⟨⟨by decide +kernel, by decide +kernel⟩, List.mem_of_getElem? (i := 974) (by decide +kernel), List.mem_of_getElem? (i := 1205) (by decide +kernel), List.mem_of_getElem? (i := 1206) (by decide +kernel)⟩
theorem lw_p63 : lw_okq (⟨"GoalDeskModel", "passes", "(I)Z"⟩, 64) := ⟨⟨by decide +kernel, by decide +kernel⟩, List.mem_of_getElem? (i := 974) (by decide +kernel), List.mem_of_getElem? (i := 1209) (by decide +kernel), List.mem_of_getElem? (i := 1210) (by decide +kernel)⟩
def lw_privs_4 : List (MethodName × Nat) := [(⟨"GoalDesk$Pairs", "makePairSame", "(IIZ)Z"⟩, 8), (⟨"GoalDesk$Variables", "bind", "(II)V"⟩, 14), (⟨"GoalDesk$Pairs", "wake", "(I)V"⟩, 8), (⟨"GoalDesk$Aparts", "hold", "(I)Z"⟩, 8), (⟨"GoalDesk$Aparts", "settle", "(I)V"⟩, 8), (⟨"GoalDesk$Search", "putInFront", "()V"⟩, 16), (⟨"GoalDesk$Writer", "write", "(I)I"⟩, 4), (⟨"GoalDesk$Writer", "writeTerm", "(II)V"⟩, 4), (⟨"GoalDesk$Writer", "put", "(C)V"⟩, 4), (⟨"GoalDesk$Variables", "asleepOn", "(I)I"⟩, 14), (⟨"GoalDeskModel", "bad", "(Z)Z"⟩, 64), (⟨"GoalDeskModel", "fail", "(I)I"⟩, 64), (⟨"GoalDeskModel", "readClause", "()Z"⟩, 64), (⟨"GoalDeskModel", "readTerm", "(Z)Z"⟩, 64), (⟨"GoalDeskModel", "look", "()I"⟩, 64), (⟨"GoalDeskModel", "passes", "(I)Z"⟩, 64)]
theorem lw_r4 : ∀ q ∈ lw_privs_4, lw_okq q := List.forall_mem_cons.mpr ⟨lw_p48, List.forall_mem_cons.mpr ⟨lw_p49, List.forall_mem_cons.mpr ⟨lw_p50, List.forall_mem_cons.mpr ⟨lw_p51, List.forall_mem_cons.mpr ⟨lw_p52, List.forall_mem_cons.mpr ⟨lw_p53, List.forall_mem_cons.mpr ⟨lw_p54, List.forall_mem_cons.mpr ⟨lw_p55, List.forall_mem_cons.mpr ⟨lw_p56, List.forall_mem_cons.mpr ⟨lw_p57, List.forall_mem_cons.mpr ⟨lw_p58, List.forall_mem_cons.mpr ⟨lw_p59, List.forall_mem_cons.mpr ⟨lw_p60, List.forall_mem_cons.mpr ⟨lw_p61, List.forall_mem_cons.mpr ⟨lw_p62, List.forall_mem_cons.mpr ⟨lw_p63, fun _ h => absurd h List.not_mem_nil⟩⟩⟩⟩⟩⟩⟩⟩⟩⟩⟩⟩⟩⟩⟩⟩
theorem lw_p64 : lw_okq (⟨"GoalDeskModel", "readGoals", "()Z"⟩, 64) := ⟨⟨by decide +kernel, by decide +kernel⟩, List.mem_of_getElem? (i := 974) (by decide +kernel), List.mem_of_getElem? (i := 1213) (by decide +kernel), List.mem_of_getElem? (i := 1214) (by decide +kernel)⟩
theorem lw_p65 : lw_okq (⟨"GoalDeskModel", "number", "()V"⟩, 64) := ⟨⟨by decide +kernel, by decide +kernel⟩, List.mem_of_getElem? (i := 974) (by decide +kernel), List.mem_of_getElem? (i := 1225) (by decide +kernel), List.mem_of_getElem? (i := 1226) (by decide +kernel)⟩
theorem lw_p66 : lw_okq (⟨"GoalDeskModel", "born", "()I"⟩, 64) := ⟨⟨by decide +kernel, by decide +kernel⟩, List.mem_of_getElem? (i := 974) (by decide +kernel), List.mem_of_getElem? (i := 1229) (by decide +kernel), List.mem_of_getElem? (i := 1230) (by decide +kernel)⟩
theorem lw_p67 : lw_okq (⟨"GoalDeskModel", "buildGoals", "(II)I"⟩, 64) := ⟨⟨by decide +kernel, by decide +kernel⟩, List.mem_of_getElem? (i := 974) (by decide +kernel), List.mem_of_getElem? (i := 1234) (by decide +kernel), List.mem_of_getElem? (i := 1235) (by decide +kernel)⟩
theorem lw_p68 : lw_okq (⟨"GoalDeskModel", "at", "(I)I"⟩, 64) := ⟨⟨by decide +kernel, by decide +kernel⟩, List.mem_of_getElem? (i := 974) (by decide +kernel), List.mem_of_getElem? (i := 1238) (by decide +kernel), List.mem_of_getElem? (i := 1239) (by decide +kernel)⟩
theorem lw_p69 : lw_okq (⟨"GoalDeskModel", "goal", "(IIIII)I"⟩, 64) := ⟨⟨by decide +kernel, by decide +kernel⟩, List.mem_of_getElem? (i := 974) (by decide +kernel), List.mem_of_getElem? (i := 1242) (by decide +kernel), List.mem_of_getElem? (i := 1243) (by decide +kernel)⟩
theorem lw_p70 : lw_okq (⟨"GoalDeskModel", "build", "()I"⟩, 64) := ⟨⟨by decide +kernel, by decide +kernel⟩, List.mem_of_getElem? (i := 974) (by decide +kernel), List.mem_of_getElem? (i := 1246) (by decide +kernel), List.mem_of_getElem? (i := 1247) (by decide +kernel)⟩
theorem lw_p71 : lw_okq (⟨"GoalDeskModel", "cell", "(I)I"⟩, 64) := ⟨⟨by decide +kernel, by decide +kernel⟩, List.mem_of_getElem? (i := 974) (by decide +kernel), List.mem_of_getElem? (i := 1250) (by decide +kernel), List.mem_of_getElem? (i := 1251) (by decide +kernel)⟩
theorem lw_p72 : lw_okq (⟨"GoalDeskModel", "hang", "(II)V"⟩, 64) := ⟨⟨by decide +kernel, by decide +kernel⟩, List.mem_of_getElem? (i := 974) (by decide +kernel), List.mem_of_getElem? (i := 1254) (by decide +kernel), List.mem_of_getElem? (i := 1255) (by decide +kernel)⟩
theorem lw_p73 : lw_okq (⟨"GoalDeskModel", "seek", "(Z)I"⟩, 64) := ⟨⟨by decide +kernel, by decide +kernel⟩, List.mem_of_getElem? (i := 974) (by decide +kernel), List.mem_of_getElem? (i := 1258) (by decide +kernel), List.mem_of_getElem? (i := 1259) (by decide +kernel)⟩
theorem lw_p74 : lw_okq (⟨"GoalDeskModel", "back", "()Z"⟩, 64) := ⟨⟨by decide +kernel, by decide +kernel⟩, List.mem_of_getElem? (i := 974) (by decide +kernel), List.mem_of_getElem? (i := 1262) (by decide +kernel), List.mem_of_getElem? (i := 1263) (by decide +kernel)⟩
theorem lw_p75 : lw_okq (⟨"GoalDeskModel", "nextFit", "(II)I"⟩, 64) := ⟨⟨by decide +kernel, by decide +kernel⟩, List.mem_of_getElem? (i := 974) (by decide +kernel), List.mem_of_getElem? (i := 1266) (by decide +kernel), List.mem_of_getElem? (i := 1267) (by decide +kernel)⟩
theorem lw_p76 : lw_okq (⟨"GoalDeskModel", "fits", "(II)Z"⟩, 64) := ⟨⟨by decide +kernel, by decide +kernel⟩, List.mem_of_getElem? (i := 974) (by decide +kernel), List.mem_of_getElem? (i := 1270) (by decide +kernel), List.mem_of_getElem? (i := 1271) (by decide +kernel)⟩
theorem lw_p77 : lw_okq (⟨"GoalDeskModel", "undo", "(I)V"⟩, 64) := ⟨⟨by decide +kernel, by decide +kernel⟩, List.mem_of_getElem? (i := 974) (by decide +kernel), List.mem_of_getElem? (i := 1274) (by decide +kernel), List.mem_of_getElem? (i := 1275) (by decide +kernel)⟩
theorem lw_p78 : lw_okq (⟨"GoalDeskModel", "take", "(IIII)Z"⟩, 64) := ⟨⟨by decide +kernel, by decide +kernel⟩, List.mem_of_getElem? (i := 974) (by decide +kernel), List.mem_of_getElem? (i := 1278) (by decide +kernel), List.mem_of_getElem? (i := 1279) (by decide +kernel)⟩
theorem lw_p79 : lw_okq (⟨"GoalDeskModel", "pair", "(II)V"⟩, 64) := ⟨⟨by decide +kernel, by decide +kernel⟩, List.mem_of_getElem? (i := 974) (by decide +kernel), List.mem_of_getElem? (i := 1282) (by decide +kernel), List.mem_of_getElem? (i := 1283) (by decide +kernel)⟩
def lw_privs_5 : List (MethodName × Nat) := [(⟨"GoalDeskModel", "readGoals", "()Z"⟩, 64), (⟨"GoalDeskModel", "number", "()V"⟩, 64), (⟨"GoalDeskModel", "born", "()I"⟩, 64), (⟨"GoalDeskModel", "buildGoals", "(II)I"⟩, 64), (⟨"GoalDeskModel", "at", "(I)I"⟩, 64), (⟨"GoalDeskModel", "goal", "(IIIII)I"⟩, 64), (⟨"GoalDeskModel", "build", "()I"⟩, 64), (⟨"GoalDeskModel", "cell", "(I)I"⟩, 64), (⟨"GoalDeskModel", "hang", "(II)V"⟩, 64), (⟨"GoalDeskModel", "seek", "(Z)I"⟩, 64), (⟨"GoalDeskModel", "back", "()Z"⟩, 64), (⟨"GoalDeskModel", "nextFit", "(II)I"⟩, 64), (⟨"GoalDeskModel", "fits", "(II)Z"⟩, 64), (⟨"GoalDeskModel", "undo", "(I)V"⟩, 64), (⟨"GoalDeskModel", "take", "(IIII)Z"⟩, 64), (⟨"GoalDeskModel", "pair", "(II)V"⟩, 64)]
theorem lw_r5 : ∀ q ∈ lw_privs_5, lw_okq q := List.forall_mem_cons.mpr ⟨lw_p64, List.forall_mem_cons.mpr ⟨lw_p65, List.forall_mem_cons.mpr ⟨lw_p66, List.forall_mem_cons.mpr ⟨lw_p67, List.forall_mem_cons.mpr ⟨lw_p68, List.forall_mem_cons.mpr ⟨lw_p69, List.forall_mem_cons.mpr ⟨lw_p70, List.forall_mem_cons.mpr ⟨lw_p71, List.forall_mem_cons.mpr ⟨lw_p72, List.forall_mem_cons.mpr ⟨lw_p73, List.forall_mem_cons.mpr ⟨lw_p74, List.forall_mem_cons.mpr ⟨lw_p75, List.forall_mem_cons.mpr ⟨lw_p76, List.forall_mem_cons.mpr ⟨lw_p77, List.forall_mem_cons.mpr ⟨lw_p78, List.forall_mem_cons.mpr ⟨lw_p79, fun _ h => absurd h List.not_mem_nil⟩⟩⟩⟩⟩⟩⟩⟩⟩⟩⟩⟩⟩⟩⟩⟩
theorem lw_p80 : lw_okq (⟨"GoalDeskModel", "unify", "(I)Z"⟩, 64) := ⟨⟨by decide +kernel, by decide +kernel⟩, List.mem_of_getElem? (i := 974) (by decide +kernel), List.mem_of_getElem? (i := 1286) (by decide +kernel), List.mem_of_getElem? (i := 1287) (by decide +kernel)⟩
theorem lw_p81 : lw_okq (⟨"GoalDeskModel", "same", "()Z"⟩, 64) := ⟨⟨by decide +kernel, by decide +kernel⟩, List.mem_of_getElem? (i := 974) (by decide +kernel), List.mem_of_getElem? (i := 1290) (by decide +kernel), List.mem_of_getElem? (i := 1291) (by decide +kernel)⟩
theorem lw_p82 : lw_okq (⟨"GoalDeskModel", "step", "()Z"⟩, 64) := ⟨⟨by decide +kernel, by decide +kernel⟩, List.mem_of_getElem? (i := 974) (by decide +kernel), List.mem_of_getElem? (i := 1294) (by decide +kernel), List.mem_of_getElem? (i := 1295) (by decide +kernel)⟩
theorem lw_p83 : lw_okq (⟨"GoalDeskModel", "value", "(I)I"⟩, 64) := ⟨⟨by decide +kernel, by decide +kernel⟩, List.mem_of_getElem? (i := 974) (by decide +kernel), List.mem_of_getElem? (i := 1298) (by decide +kernel), List.mem_of_getElem? (i := 1299) (by decide +kernel)⟩
theorem lw_p84 : lw_okq (⟨"GoalDeskModel", "tie", "(II)V"⟩, 64) := ⟨⟨by decide +kernel, by decide +kernel⟩, List.mem_of_getElem? (i := 974) (by decide +kernel), List.mem_of_getElem? (i := 1302) (by decide +kernel), List.mem_of_getElem? (i := 1303) (by decide +kernel)⟩
theorem lw_p85 : lw_okq (⟨"GoalDeskModel", "change", "(II)V"⟩, 64) := ⟨⟨by decide +kernel, by decide +kernel⟩, List.mem_of_getElem? (i := 974) (by decide +kernel), List.mem_of_getElem? (i := 1306) (by decide +kernel), List.mem_of_getElem? (i := 1307) (by decide +kernel)⟩
theorem lw_p86 : lw_okq (⟨"GoalDeskModel", "follow", "(III)V"⟩, 64) := ⟨⟨by decide +kernel, by decide +kernel⟩, List.mem_of_getElem? (i := 974) (by decide +kernel), List.mem_of_getElem? (i := 1310) (by decide +kernel), List.mem_of_getElem? (i := 1311) (by decide +kernel)⟩
theorem lw_p87 : lw_okq (⟨"GoalDeskModel", "test", "(II)I"⟩, 64) := ⟨⟨by decide +kernel, by decide +kernel⟩, List.mem_of_getElem? (i := 974) (by decide +kernel), List.mem_of_getElem? (i := 1314) (by decide +kernel), List.mem_of_getElem? (i := 1315) (by decide +kernel)⟩
theorem lw_p88 : lw_okq (⟨"GoalDeskModel", "perform", "(I)Z"⟩, 64) := ⟨⟨by decide +kernel, by decide +kernel⟩, List.mem_of_getElem? (i := 974) (by decide +kernel), List.mem_of_getElem? (i := 1318) (by decide +kernel), List.mem_of_getElem? (i := 1319) (by decide +kernel)⟩
theorem lw_p89 : lw_okq (⟨"GoalDeskModel", "call", "(II)Z"⟩, 64) := ⟨⟨by decide +kernel, by decide +kernel⟩, List.mem_of_getElem? (i := 974) (by decide +kernel), List.mem_of_getElem? (i := 1322) (by decide +kernel), List.mem_of_getElem? (i := 1323) (by decide +kernel)⟩
theorem lw_p90 : lw_okq (⟨"GoalDeskModel", "apart", "(III)Z"⟩, 64) := ⟨⟨by decide +kernel, by decide +kernel⟩, List.mem_of_getElem? (i := 974) (by decide +kernel), List.mem_of_getElem? (i := 1326) (by decide +kernel), List.mem_of_getElem? (i := 1327) (by decide +kernel)⟩
theorem lw_p91 : lw_okq (⟨"GoalDeskModel", "less", "(III)Z"⟩, 64) := ⟨⟨by decide +kernel, by decide +kernel⟩, List.mem_of_getElem? (i := 974) (by decide +kernel), List.mem_of_getElem? (i := 1330) (by decide +kernel), List.mem_of_getElem? (i := 1331) (by decide +kernel)⟩
theorem lw_p92 : lw_okq (⟨"GoalDeskModel", "sleep", "(III)Z"⟩, 64) := ⟨⟨by decide +kernel, by decide +kernel⟩, List.mem_of_getElem? (i := 974) (by decide +kernel), List.mem_of_getElem? (i := 1334) (by decide +kernel), List.mem_of_getElem? (i := 1335) (by decide +kernel)⟩
theorem lw_p93 : lw_okq (⟨"GoalDeskModel", "write", "(I)V"⟩, 64) := ⟨⟨by decide +kernel, by decide +kernel⟩, List.mem_of_getElem? (i := 974) (by decide +kernel), List.mem_of_getElem? (i := 1346) (by decide +kernel), List.mem_of_getElem? (i := 1347) (by decide +kernel)⟩
theorem lw_p94 : lw_okq (⟨"GoalDeskModel", "put", "(I)V"⟩, 64) := ⟨⟨by decide +kernel, by decide +kernel⟩, List.mem_of_getElem? (i := 974) (by decide +kernel), List.mem_of_getElem? (i := 1351) (by decide +kernel), List.mem_of_getElem? (i := 1352) (by decide +kernel)⟩
def lw_privs_6 : List (MethodName × Nat) := [(⟨"GoalDeskModel", "unify", "(I)Z"⟩, 64), (⟨"GoalDeskModel", "same", "()Z"⟩, 64), (⟨"GoalDeskModel", "step", "()Z"⟩, 64), (⟨"GoalDeskModel", "value", "(I)I"⟩, 64), (⟨"GoalDeskModel", "tie", "(II)V"⟩, 64), (⟨"GoalDeskModel", "change", "(II)V"⟩, 64), (⟨"GoalDeskModel", "follow", "(III)V"⟩, 64), (⟨"GoalDeskModel", "test", "(II)I"⟩, 64), (⟨"GoalDeskModel", "perform", "(I)Z"⟩, 64), (⟨"GoalDeskModel", "call", "(II)Z"⟩, 64), (⟨"GoalDeskModel", "apart", "(III)Z"⟩, 64), (⟨"GoalDeskModel", "less", "(III)Z"⟩, 64), (⟨"GoalDeskModel", "sleep", "(III)Z"⟩, 64), (⟨"GoalDeskModel", "write", "(I)V"⟩, 64), (⟨"GoalDeskModel", "put", "(I)V"⟩, 64)]
theorem lw_r6 : ∀ q ∈ lw_privs_6, lw_okq q := List.forall_mem_cons.mpr ⟨lw_p80, List.forall_mem_cons.mpr ⟨lw_p81, List.forall_mem_cons.mpr ⟨lw_p82, List.forall_mem_cons.mpr ⟨lw_p83, List.forall_mem_cons.mpr ⟨lw_p84, List.forall_mem_cons.mpr ⟨lw_p85, List.forall_mem_cons.mpr ⟨lw_p86, List.forall_mem_cons.mpr ⟨lw_p87, List.forall_mem_cons.mpr ⟨lw_p88, List.forall_mem_cons.mpr ⟨lw_p89, List.forall_mem_cons.mpr ⟨lw_p90, List.forall_mem_cons.mpr ⟨lw_p91, List.forall_mem_cons.mpr ⟨lw_p92, List.forall_mem_cons.mpr ⟨lw_p93, List.forall_mem_cons.mpr ⟨lw_p94, fun _ h => absurd h List.not_mem_nil⟩⟩⟩⟩⟩⟩⟩⟩⟩⟩⟩⟩⟩⟩⟩
def lw_privs : List (MethodName × Nat) := lw_privs_1 ++ (lw_privs_2 ++ (lw_privs_3 ++ (lw_privs_4 ++ (lw_privs_5 ++ (lw_privs_6)))))
def lw_tbl : List Cond := k2_sels lw_privs ++ tables_1
theorem lw_privs_ok : ∀ q ∈ lw_privs, lw_okq q := by
  show ∀ q ∈ lw_privs_1 ++ (lw_privs_2 ++ (lw_privs_3 ++ (lw_privs_4 ++ (lw_privs_5 ++ (lw_privs_6))))), lw_okq q
  exact List.forall_mem_append.mpr ⟨lw_r1, List.forall_mem_append.mpr ⟨lw_r2, List.forall_mem_append.mpr ⟨lw_r3, List.forall_mem_append.mpr ⟨lw_r4, List.forall_mem_append.mpr ⟨lw_r5, lw_r6⟩⟩⟩⟩⟩
end
section
/-! THE ABSTRACT MACHINE. Its addresses are pairs (where it was made, the how-manieth there); its values ints, longs, references or null; its cells objects (class number, fields), arrays (type number, length, contents), and things that it knows nothing of (a number). A heap: its cells, how many were made where, how many cells and slots in all. -/
abbrev ai_A : Type := Nat × Nat
abbrev ai_V : Type := Int32 ⊕ (Int64 ⊕ Option ai_A)
abbrev ai_D : Type := (Nat → Int32) ⊕ ((Nat → Int64) ⊕ (Nat → Option ai_A))
abbrev ai_C : Type := (Nat × List ai_V) ⊕ ((Nat × Nat × ai_D) ⊕ Nat)
abbrev ai_H : Type := (ai_A → Option ai_C) × (Nat → Nat) × Nat × Nat
abbrev ai_L : Type := List (Option ai_V)
/-- what comes of a method: an answer, or the number of a thrown class -/
abbrev ai_O : Type := Option ai_V ⊕ Nat
/-- a row of code: which kind of step, the instruction, what its links lead to -/
abbrev ai_I : Type := Nat × Instr × List Nat
def ai_upd (f : ai_A → Option ai_C) (a : ai_A) (x : ai_C) : ai_A → Option ai_C := fun b => if b = a then some x else f b
def ai_put (h : ai_H) (a : ai_A) (x : ai_C) : ai_H := (ai_upd h.1 a x, h.2)
def ai_new (h : ai_H) (s : Nat) (x : ai_C) (n : Nat) : ai_H :=
  (ai_upd h.1 (s, h.2.1 s) x, (fun j => if j = s then h.2.1 s + 1 else h.2.1 j), h.2.2.1 + 1, h.2.2.2 + n)
def ai_two : ai_V → Bool
  | .inr (.inl _) => true
  | _ => false
/-- a long stands just ahead of this place -/
def ai_pl (ls : ai_L) : Nat → Bool
  | 0 => false
  | j + 1 => match ls[j]? with
    | some (some v) => ai_two v
    | _ => false
def ai_st1 (ls : ai_L) (i : Nat) (v : ai_V) : Option ai_L := if i < ls.length ∧ ai_pl ls i = false then some (ls.set i (some v)) else none
def ai_st2 (ls : ai_L) (i : Nat) (v : ai_V) : Option ai_L := if i + 1 < ls.length ∧ ai_pl ls i = false then some ((ls.set i (some v)).set (i + 1) none) else none
def ai_ii (f : Int32 → Int32 → Int32) : List ai_V → Option (List ai_V)
  | .inl y :: .inl x :: r => some (.inl (f x y) :: r)
  | _ => none
def ai_ll (f : Int64 → Int64 → Int64) : List ai_V → Option (List ai_V)
  | .inr (.inl y) :: .inr (.inl x) :: r => some (.inr (.inl (f x y)) :: r)
  | _ => none
def ai_li (f : Int64 → Int32 → Int64) : List ai_V → Option (List ai_V)
  | .inl y :: .inr (.inl x) :: r => some (.inr (.inl (f x y)) :: r)
  | _ => none
/-- how long an instruction is (switches aside) -/
def ai_len : Instr → Nat
  | .bipush _ => 2
  | .sipush _ => 3
  | .ldc _ => 2
  | .ldc2_w _ => 3
  | .ldc_w _ => 3
  | .iload _ => 2
  | .lload _ => 2
  | .aload _ => 2
  | .istore _ => 2
  | .lstore _ => 2
  | .astore _ => 2
  | .iinc _ _ => 3
  | .getfield _ => 3
  | .putfield _ => 3
  | .getstatic _ => 3
  | .newarray _ => 2
  | .anewarray _ => 3
  | .new _ => 3
  | .checkcast _ => 3
  | .goto _ => 3
  | .ifCond _ _ => 3
  | .if_icmp _ _ => 3
  | .if_acmp _ _ => 3
  | .ifnull _ => 3
  | .ifnonnull _ => 3
  | .invokevirtual _ => 3
  | .invokespecial _ => 3
  | .invokestatic _ => 3
  | _ => 1
/-- KIND 0: what works on the stack alone -/
def ai_pure (ins : Instr) (st : List ai_V) : Option (List ai_V) := match ins with
  | .iconst n => some (.inl (Int32.ofInt n) :: st)
  | .bipush n => some (.inl (Int8.ofInt n).toInt32 :: st)
  | .sipush n => some (.inl (Int16.ofInt n).toInt32 :: st)
  | .lconst n => some (.inr (.inl (Int64.ofNat (n : Nat))) :: st)
  | .aconst_null => some (.inr (.inr none) :: st)
  | .dup => match st with
    | v :: r => if ai_two v then none else some (v :: v :: r)
    | _ => none
  | .dup_x1 => match st with
    | v :: w :: r => if ai_two v || ai_two w then none else some (v :: w :: v :: r)
    | _ => none
  | .dup_x2 => match st with
    | v :: w :: u :: r => if ai_two v || ai_two w || ai_two u then none else some (v :: w :: u :: v :: r)
    | _ => none
  | .dup2 => match st with
    | v :: w :: r => if ai_two v || ai_two w then none else some (v :: w :: v :: w :: r)
    | _ => none
  | .pop => match st with
    | v :: r => if ai_two v then none else some r
    | _ => none
  | .iadd => ai_ii (fun x y => x + y) st
  | .isub => ai_ii (fun x y => x - y) st
  | .imul => ai_ii (fun x y => x * y) st
  | .iand => ai_ii (fun x y => x &&& y) st
  | .ior => ai_ii (fun x y => x ||| y) st
  | .ixor => ai_ii (fun x y => x ^^^ y) st
  | .ishl => ai_ii (fun x y => x <<< (y &&& 31)) st
  | .ishr => ai_ii (fun x y => x >>> (y &&& 31)) st
  | .iushr => ai_ii (fun x y => (x.toUInt32 >>> (y.toUInt32 &&& Int32.toUInt32 31)).toInt32) st
  | .idiv => match st with
    | .inl y :: .inl x :: r => if y = 0 then none else some (.inl (x / y) :: r)
    | _ => none
  | .irem => match st with
    | .inl y :: .inl x :: r => if y = 0 then none else some (.inl (x - x / y * y) :: r)
    | _ => none
  | .ineg => match st with
    | .inl x :: r => some (.inl (-x) :: r)
    | _ => none
  | .ladd => ai_ll (fun x y => x + y) st
  | .lsub => ai_ll (fun x y => x - y) st
  | .land => ai_ll (fun x y => x &&& y) st
  | .lor => ai_ll (fun x y => x ||| y) st
  | .lxor => ai_ll (fun x y => x ^^^ y) st
  | .lshl => ai_li (fun x y => x <<< (y.toInt64 &&& 63)) st
  | .lushr => ai_li (fun x y => (x.toUInt64 >>> (y.toInt64.toUInt64 &&& Int64.toUInt64 63)).toInt64) st
  | .i2l => match st with
    | .inl x :: r => some (.inr (.inl x.toInt64) :: r)
    | _ => none
  | .l2i => match st with
    | .inr (.inl x) :: r => some (.inl x.toInt32 :: r)
    | _ => none
  | .i2c => match st with
    | .inl x :: r => some (.inl (x.toUInt32 % 65536).toInt32 :: r)
    | _ => none
  | .lcmp => match st with
    | .inr (.inl y) :: .inr (.inl x) :: r => some (.inl (lg_cmp x y) :: r)
    | _ => none
  | _ => none
def ai_cmp (q : ClassFile.Cond) (x y : Int32) : Bool := match q with
  | .eq => decide (x = y)
  | .ne => decide (¬ x = y)
  | .lt => decide (x < y)
  | .ge => decide (y ≤ x)
  | .gt => decide (y < x)
  | .le => decide (x ≤ y)
def ai_lk (x : Int) (d : Nat) : List (Int × Int) → List Nat → Nat
  | (k, _) :: ps, t :: ts => if x = k then t else ai_lk x d ps ts
  | _, _ => d
/-- KIND 1: jumps; their targets stand among the links -/
def ai_jmp (ins : Instr) (pc : Nat) (ks : List Nat) (st : List ai_V) : Option (Nat × List ai_V) := match ins with
  | .goto _ => some (ks.getD 0 0, st)
  | .ifCond q _ => match st with
    | .inl x :: r => some (if ai_cmp q x 0 then ks.getD 0 0 else pc + 3, r)
    | _ => none
  | .if_icmp q _ => match st with
    | .inl y :: .inl x :: r => some (if ai_cmp q x y then ks.getD 0 0 else pc + 3, r)
    | _ => none
  | .ifnull _ => match st with
    | .inr (.inr none) :: r => some (ks.getD 0 0, r)
    | .inr (.inr (some _)) :: r => some (pc + 3, r)
    | _ => none
  | .ifnonnull _ => match st with
    | .inr (.inr none) :: r => some (pc + 3, r)
    | .inr (.inr (some _)) :: r => some (ks.getD 0 0, r)
    | _ => none
  | .tableswitch _ lo hi _ => match st with
    | .inl x :: r => some (if x.toInt < lo ∨ hi < x.toInt then ks.getD 0 0 else ks.getD (1 + (x.toInt - lo).toNat) 0, r)
    | _ => none
  | .lookupswitch _ ps => match st with
    | .inl x :: r => some (ai_lk x.toInt (ks.getD 0 0) ps.toList (ks.drop 1), r)
    | _ => none
  | _ => none
/-- what a jump's row must keep -/
def ai_jok (ins : Instr) (pc : Nat) (ks : List Nat) : Prop := match ins with
  | .goto off => (pc : Int) + off = (ks.getD 0 0 : Nat)
  | .ifCond _ off => (pc : Int) + off = (ks.getD 0 0 : Nat)
  | .if_icmp _ off => (pc : Int) + off = (ks.getD 0 0 : Nat)
  | .ifnull off => (pc : Int) + off = (ks.getD 0 0 : Nat)
  | .ifnonnull off => (pc : Int) + off = (ks.getD 0 0 : Nat)
  | .tableswitch d lo hi offs => (pc : Int) + d = (ks.getD 0 0 : Nat) ∧ ∀ j, j < (hi - lo + 1).toNat → ∃ off, offs[j]? = some off ∧ (pc : Int) + off = (ks.getD (1 + j) 0 : Nat)
  | .lookupswitch d ps => (ps.toList.zip (ps.toList.drop 1)).all (fun (a, next) => a.1 < next.1) = true ∧ (pc : Int) + d = (ks.getD 0 0 : Nat) ∧ ks.length = ps.toList.length + 1 ∧ ∀ j, j < ps.toList.length → (pc : Int) + (ps.toList.getD j (0, 0)).2 = (ks.getD (1 + j) 0 : Nat)
  | _ => True
/-- KIND 2: locals -/
def ai_loc (ins : Instr) (ls : ai_L) (st : List ai_V) : Option (ai_L × List ai_V) := match ins with
  | .iload i => match ls[i]? with
    | some (some (.inl x)) => some (ls, .inl x :: st)
    | _ => none
  | .iload_n k => match ls[(k : Nat)]? with
    | some (some (.inl x)) => some (ls, .inl x :: st)
    | _ => none
  | .lload i => match ls[i]? with
    | some (some (.inr (.inl x))) => some (ls, .inr (.inl x) :: st)
    | _ => none
  | .lload_n k => match ls[(k : Nat)]? with
    | some (some (.inr (.inl x))) => some (ls, .inr (.inl x) :: st)
    | _ => none
  | .aload i => match ls[i]? with
    | some (some (.inr (.inr x))) => some (ls, .inr (.inr x) :: st)
    | _ => none
  | .aload_n k => match ls[(k : Nat)]? with
    | some (some (.inr (.inr x))) => some (ls, .inr (.inr x) :: st)
    | _ => none
  | .istore i => match st with
    | .inl x :: r => (ai_st1 ls i (.inl x)).map (fun q => (q, r))
    | _ => none
  | .istore_n k => match st with
    | .inl x :: r => (ai_st1 ls k (.inl x)).map (fun q => (q, r))
    | _ => none
  | .lstore i => match st with
    | .inr (.inl x) :: r => (ai_st2 ls i (.inr (.inl x))).map (fun q => (q, r))
    | _ => none
  | .lstore_n k => match st with
    | .inr (.inl x) :: r => (ai_st2 ls k (.inr (.inl x))).map (fun q => (q, r))
    | _ => none
  | .astore i => match st with
    | .inr (.inr x) :: r => (ai_st1 ls i (.inr (.inr x))).map (fun q => (q, r))
    | _ => none
  | .astore_n k => match st with
    | .inr (.inr x) :: r => (ai_st1 ls k (.inr (.inr x))).map (fun q => (q, r))
    | _ => none
  | .iinc i n => match ls[i]? with
    | some (some (.inl x)) => (ai_st1 ls i (.inl (x + Int32.ofInt n))).map (fun q => (q, st))
    | _ => none
  | _ => none
/-- a value that a field or an answer of this type takes as it is -/
def ai_fit (ty : FieldType) (v : ai_V) : Bool := match ty, v with
  | .int, .inl _ => true
  | .boolean, .inl x => decide (x = 0 ∨ x = 1)
  | .char, .inl x => decide (0 ≤ x ∧ x ≤ 65535)
  | .long, .inr (.inl _) => true
  | .object _, .inr (.inr _) => true
  | .array _, .inr (.inr _) => true
  | _, _ => false
def ai_obj : FieldType → Bool
  | .object _ => true
  | _ => false
/-- KIND 3: the heap. dfl: a class's fields at first; tyA: the arrays' types; tyF: the fields' types; asg: which objects an array of references takes; L, xs: the law's script, a thing of number 0. -/
def ai_heap (dfl : Nat → List ai_V) (tyA : Nat → FieldType) (tyF : Nat → Nat → FieldType) (asg : Nat → Nat → Bool) (L : Nat) (xs : Nat → Int32) (ins : Instr) (ks : List Nat) (st : List ai_V) (h : ai_H) : Option (List ai_V × ai_H) := match ins with
  | .ldc _ => some (.inl (Int32.ofNat (ks.getD 0 0)) :: st, h)
  | .ldc_w _ => some (.inl (Int32.ofNat (ks.getD 0 0)) :: st, h)
  | .ldc2_w _ => some (.inr (.inl (Int64.ofNat (ks.getD 0 0))) :: st, h)
  | .getfield _ => match st with
    | .inr (.inr (some a)) :: r => match h.1 a with
      | some (.inl (cj, fs)) => if cj = ks.getD 0 0 then (fs[ks.getD 1 0]?).map (fun v => (v :: r, h)) else none
      | _ => none
    | _ => none
  | .putfield _ => match st with
    | v :: .inr (.inr (some a)) :: r => match h.1 a with
      | some (.inl (cj, fs)) => if cj = ks.getD 0 0 ∧ ks.getD 1 0 < fs.length ∧ ai_fit (tyF cj (ks.getD 1 0)) v = true then some (r, ai_put h a (.inl (cj, fs.set (ks.getD 1 0) v))) else none
      | _ => none
    | _ => none
  | .iaload => match st with
    | .inl i :: .inr (.inr (some a)) :: r => match h.1 a with
      | some (.inr (.inl (t, n, .inl f))) => if tyA t = .int ∧ ¬ (i < 0 ∨ n ≤ i.toNatClampNeg) then some (.inl (f i.toNatClampNeg) :: r, h) else none
      | some (.inr (.inr 0)) => if ¬ (i < 0 ∨ L ≤ i.toNatClampNeg) then some (.inl (xs i.toNatClampNeg) :: r, h) else none
      | _ => none
    | _ => none
  | .caload => match st with
    | .inl i :: .inr (.inr (some a)) :: r => match h.1 a with
      | some (.inr (.inl (t, n, .inl f))) => if tyA t = .char ∧ ¬ (i < 0 ∨ n ≤ i.toNatClampNeg) then some (.inl (f i.toNatClampNeg) :: r, h) else none
      | _ => none
    | _ => none
  | .baload => match st with
    | .inl i :: .inr (.inr (some a)) :: r => match h.1 a with
      | some (.inr (.inl (t, n, .inl f))) => if tyA t = .boolean ∧ ¬ (i < 0 ∨ n ≤ i.toNatClampNeg) then some (.inl (f i.toNatClampNeg) :: r, h) else none
      | _ => none
    | _ => none
  | .laload => match st with
    | .inl i :: .inr (.inr (some a)) :: r => match h.1 a with
      | some (.inr (.inl (t, n, .inr (.inl f)))) => if tyA t = .long ∧ ¬ (i < 0 ∨ n ≤ i.toNatClampNeg) then some (.inr (.inl (f i.toNatClampNeg)) :: r, h) else none
      | _ => none
    | _ => none
  | .aaload => match st with
    | .inl i :: .inr (.inr (some a)) :: r => match h.1 a with
      | some (.inr (.inl (t, n, .inr (.inr f)))) => if ai_obj (tyA t) = true ∧ ¬ (i < 0 ∨ n ≤ i.toNatClampNeg) then some (.inr (.inr (f i.toNatClampNeg)) :: r, h) else none
      | _ => none
    | _ => none
  | .iastore => match st with
    | .inl x :: .inl i :: .inr (.inr (some a)) :: r => match h.1 a with
      | some (.inr (.inl (t, n, .inl f))) => if tyA t = .int ∧ ¬ (i < 0 ∨ n ≤ i.toNatClampNeg) then some (r, ai_put h a (.inr (.inl (t, n, .inl (upd f i.toNatClampNeg x))))) else none
      | _ => none
    | _ => none
  | .castore => match st with
    | .inl x :: .inl i :: .inr (.inr (some a)) :: r => match h.1 a with
      | some (.inr (.inl (t, n, .inl f))) => if tyA t = .char ∧ ¬ (i < 0 ∨ n ≤ i.toNatClampNeg) then some (r, ai_put h a (.inr (.inl (t, n, .inl (upd f i.toNatClampNeg (vp_nar .char x)))))) else none
      | _ => none
    | _ => none
  | .bastore => match st with
    | .inl x :: .inl i :: .inr (.inr (some a)) :: r => match h.1 a with
      | some (.inr (.inl (t, n, .inl f))) => if tyA t = .boolean ∧ ¬ (i < 0 ∨ n ≤ i.toNatClampNeg) then some (r, ai_put h a (.inr (.inl (t, n, .inl (upd f i.toNatClampNeg (vp_nar .boolean x)))))) else none
      | _ => none
    | _ => none
  | .lastore => match st with
    | .inr (.inl x) :: .inl i :: .inr (.inr (some a)) :: r => match h.1 a with
      | some (.inr (.inl (t, n, .inr (.inl f)))) => if tyA t = .long ∧ ¬ (i < 0 ∨ n ≤ i.toNatClampNeg) then some (r, ai_put h a (.inr (.inl (t, n, .inr (.inl (vp_updL f i.toNatClampNeg x)))))) else none
      | _ => none
    | _ => none
  | .aastore => match st with
    | .inr (.inr none) :: .inl i :: .inr (.inr (some a)) :: r => match h.1 a with
      | some (.inr (.inl (t, n, .inr (.inr f)))) => if ai_obj (tyA t) = true ∧ ¬ (i < 0 ∨ n ≤ i.toNatClampNeg) then some (r, ai_put h a (.inr (.inl (t, n, .inr (.inr (va_up f i.toNatClampNeg none)))))) else none
      | _ => none
    | .inr (.inr (some b)) :: .inl i :: .inr (.inr (some a)) :: r => match h.1 a, h.1 b with
      | some (.inr (.inl (t, n, .inr (.inr f)))), some (.inl (cj, _)) => if asg t cj = true ∧ ¬ (i < 0 ∨ n ≤ i.toNatClampNeg) then some (r, ai_put h a (.inr (.inl (t, n, .inr (.inr (va_up f i.toNatClampNeg (some b))))))) else none
      | _, _ => none
    | _ => none
  | .arraylength => match st with
    | .inr (.inr (some a)) :: r => match h.1 a with
      | some (.inr (.inl (t, n, _))) => if tyA t = .float then none else some (.inl (Int32.ofNat n) :: r, h)
      | some (.inr (.inr 0)) => some (.inl (Int32.ofNat L) :: r, h)
      | some (.inr (.inr 2)) => some (.inl 0 :: r, h)
      | _ => none
    | _ => none
  | .new _ => if (h.1 (ks.getD 1 0, h.2.1 (ks.getD 1 0))).isNone then some (.inr (.inr (some (ks.getD 1 0, h.2.1 (ks.getD 1 0)))) :: st, ai_new h (ks.getD 1 0) (.inl (ks.getD 0 0, dfl (ks.getD 0 0))) (dfl (ks.getD 0 0)).length) else none
  | .newarray _ => match st with
    | .inl n :: r => if (h.1 (ks.getD 1 0, h.2.1 (ks.getD 1 0))).isNone ∧ ¬ n < 0 ∧ n.toNatClampNeg * 8 ≤ 536870912 then some (.inr (.inr (some (ks.getD 1 0, h.2.1 (ks.getD 1 0)))) :: r, ai_new h (ks.getD 1 0) (.inr (.inl (ks.getD 0 0, n.toNatClampNeg, if tyA (ks.getD 0 0) = .long then .inr (.inl fun _ => 0) else .inl fun _ => 0))) n.toNatClampNeg) else none
    | _ => none
  | .anewarray _ => match st with
    | .inl n :: r => if (h.1 (ks.getD 1 0, h.2.1 (ks.getD 1 0))).isNone ∧ ¬ n < 0 ∧ n.toNatClampNeg * 8 ≤ 536870912 then some (.inr (.inr (some (ks.getD 1 0, h.2.1 (ks.getD 1 0)))) :: r, ai_new h (ks.getD 1 0) (.inr (.inl (ks.getD 0 0, n.toNatClampNeg, .inr (.inr fun _ => none)))) n.toNatClampNeg) else none
    | _ => none
  | .checkcast _ => match st with
    | .inr (.inr none) :: r => some (.inr (.inr none) :: r, h)
    | .inr (.inr (some a)) :: r => match h.1 a with
      | some (.inl (cj, _)) => if cj = ks.getD 0 0 then some (.inr (.inr (some a)) :: r, h) else none
      | _ => none
    | _ => none
  | _ => none
def ai_solid : ai_C → Bool
  | .inr (.inr _) => false
  | _ => true
def ai_is2 : ai_C → Bool
  | .inr (.inr 2) => true
  | _ => false
/-- are two references one? none: that isn't known -/
def ai_same (h : ai_H) (x y : Option ai_A) : Option Bool := match x, y with
  | none, none => some true
  | none, some _ => some false
  | some _, none => some false
  | some a, some b => if a = b then some true else match h.1 a, h.1 b with
    | some z, some w => if (ai_solid z = true ∧ ai_solid w = true) ∨ (ai_solid z = true ∧ ai_is2 w = true) ∨ (ai_is2 z = true ∧ ai_solid w = true) then some false else none
    | _, _ => none
def ai_wt : List ai_V → Nat
  | [] => 0
  | v :: vs => (if ai_two v = true then 2 else 1) + ai_wt vs
/-- the objects in these places are all of one kind that the array takes -/
def ai_cq (asg : Nat → Nat → Bool) (h : ai_H) (t : Nat) (f : Nat → Option ai_A) (sp n : Nat) : Prop := ∃ cj, asg t cj = true ∧ ∀ i, i < n → ∀ b, f (sp + i) = some b → ∃ fs, h.1 b = some (.inl (cj, fs))
/-- KIND 10: the library's own: 0 the empty array that lists begin with (a thing of number 2, at (0, 1)); 1, 2 the class of arrays of objects (a thing of number 3, at (0, 2)), as a constant, of an array; 3, 4 references compared; 5, 6 arraycopy -/
noncomputable def ai_ext (tyA : Nat → FieldType) (asg : Nat → Nat → Bool) (pc : Nat) (ks : List Nat) (st : List ai_V) (h : ai_H) : Option (Nat × List ai_V × ai_H) := match ks.getD 0 0 with
  | 0 => match h.1 (0, 1) with
    | some (.inr (.inr 2)) => some (pc + 3, .inr (.inr (some (0, 1))) :: st, h)
    | _ => none
  | 1 => match h.1 (0, 2) with
    | some (.inr (.inr 3)) => some (pc + 2, .inr (.inr (some (0, 2))) :: st, h)
    | _ => none
  | 2 => match st with
    | .inr (.inr (some a)) :: r => match h.1 a, h.1 (0, 2) with
      | some (.inr (.inl (t, _, .inr (.inr _)))), some (.inr (.inr 3)) => if tyA t = .object "java/lang/Object" ∧ ai_wt r ≤ 8 then some (pc + 3, .inr (.inr (some (0, 2))) :: r, h) else none
      | _, _ => none
    | _ => none
  | 3 => match st with
    | .inr (.inr y) :: .inr (.inr x) :: r => match ai_same h x y with
      | some q => some (if q = true then ks.getD 1 0 else pc + 3, r, h)
      | none => none
    | _ => none
  | 4 => match st with
    | .inr (.inr y) :: .inr (.inr x) :: r => match ai_same h x y with
      | some q => some (if q = true then pc + 3 else ks.getD 1 0, r, h)
      | none => none
    | _ => none
  | 5 => match st with
    | .inl n :: .inl dp :: .inr (.inr (some b)) :: .inl sp :: .inr (.inr (some a)) :: r => match h.1 a, h.1 b with
      | some (.inr (.inl (t0, n0, .inl f))), some (.inr (.inl (t1, n1, .inl g))) => if tyA t0 = .int ∧ tyA t1 = .int ∧ ¬ sp < 0 ∧ ¬ dp < 0 ∧ ¬ n < 0 ∧ sp.toNatClampNeg + n.toNatClampNeg ≤ n0 ∧ dp.toNatClampNeg + n.toNatClampNeg ≤ n1 ∧ ai_wt r ≤ 8 then some (pc + 3, r, ai_put h b (.inr (.inl (t1, n1, .inl (va_cpy f g sp.toNatClampNeg dp.toNatClampNeg n.toNatClampNeg))))) else none
      | _, _ => none
    | _ => none
  | 6 => match st with
    | .inl n :: .inl dp :: .inr (.inr (some b)) :: .inl sp :: .inr (.inr (some a)) :: r => match h.1 a, h.1 b with
      | some (.inr (.inl (t0, n0, .inr (.inr f)))), some (.inr (.inl (t1, n1, .inr (.inr g)))) => @ite _ (ai_obj (tyA t0) = true ∧ ¬ sp < 0 ∧ ¬ dp < 0 ∧ ¬ n < 0 ∧ sp.toNatClampNeg + n.toNatClampNeg ≤ n0 ∧ dp.toNatClampNeg + n.toNatClampNeg ≤ n1 ∧ ai_wt r ≤ 8 ∧ ai_cq asg h t1 f sp.toNatClampNeg n.toNatClampNeg) (Classical.propDecidable _) (some (pc + 3, r, ai_put h b (.inr (.inl (t1, n1, .inr (.inr (va_cpy f g sp.toNatClampNeg dp.toNatClampNeg n.toNatClampNeg))))))) none
      | _, _ => none
    | _ => none
  | _ => none
end
section
/-! What the abstract heap says of the real one: ρ gives the addresses, dA the classes of the arrays. -/
def ai_v (ρ : ai_A → Nat) : ai_V → Value
  | .inl x => .int x
  | .inr (.inl x) => .long x
  | .inr (.inr none) => .null
  | .inr (.inr (some a)) => .ref (ρ a)
def ai_e (dA : Nat → ClassId) (ρ : ai_A → Nat) : ai_C → va_E
  | .inl o => .inr (o.1, o.2.map (ai_v ρ))
  | .inr (.inl (t, n, .inl f)) => .inl (dA t, n, .inl f)
  | .inr (.inl (t, n, .inr (.inl f))) => .inl (dA t, n, .inr (.inl f))
  | .inr (.inl (t, n, .inr (.inr f))) => .inl (dA t, n, .inr (.inr (.inr (.inr fun j => (f j).map ρ))))
  | .inr (.inr _) => .inl (0, 0, .inl fun _ => 0)
/-- a value leads to what is there -/
def ai_ok (h : ai_H) (v : ai_V) : Prop := ∀ a, v = .inr (.inr (some a)) → (h.1 a).isSome = true
def ai_cok (h : ai_H) : ai_C → Prop
  | .inl o => ∀ v ∈ o.2, ai_ok h v
  | .inr (.inl (_, _, .inr (.inr f))) => ∀ j a, f j = some a → (h.1 a).isSome = true
  | _ => True
def ai_ws (dA : Nat → ClassId) (ρ : ai_A → Nat) (h : ai_H) (dom : List ai_A) : va_W := dom.map fun a => (ρ a, ai_e dA ρ ((h.1 a).getD (.inr (.inr 0))))
def ai_R (D : va_G) (cl : List vw_C) (dA : Nat → ClassId) (B : Nat → Prop) (ρ : ai_A → Nat) (h : ai_H) (H : Heap) : Prop :=
  ∃ dom : List ai_A, (∀ a, a ∈ dom ↔ ∃ x, h.1 a = some x ∧ ai_solid x = true) ∧ va_P D cl (ai_ws dA ρ h dom) H ∧ va_D B (ai_ws dA ρ h dom) ∧ ∀ a x, h.1 a = some x → ai_cok h x
/-- the locals -/
def ai_lr (ρ : ai_A → Nat) (ls : ai_L) (A : Array Slot) : Prop := ∃ lv, lv_has A ls.length lv ∧ ∀ k v, ls[k]? = some (some v) → (k, ai_v ρ v) ∈ lv
/-- the same addresses for all that is there -/
def ai_le (h : ai_H) (ρ ρ' : ai_A → Nat) : Prop := ∀ a, (h.1 a).isSome = true → ρ' a = ρ a
theorem ai_v_ext {h : ai_H} {ρ ρ' : ai_A → Nat} {v : ai_V} (hv : ai_ok h v) (e : ai_le h ρ ρ') : ai_v ρ' v = ai_v ρ v := by
  rcases v with x | x | _ | a
  · rfl
  · rfl
  · rfl
  · show Value.ref (ρ' a) = Value.ref (ρ a)
    rw [e a (hv a rfl)]
theorem ai_vs_ext {h : ai_H} {ρ ρ' : ai_A → Nat} (e : ai_le h ρ ρ') : ∀ {st : List ai_V}, (∀ v ∈ st, ai_ok h v) → st.map (ai_v ρ') = st.map (ai_v ρ) := by
  intro st hst
  exact List.map_congr_left fun v hv => ai_v_ext (hst v hv) e
theorem ai_e_ext {h : ai_H} {dA : Nat → ClassId} {ρ ρ' : ai_A → Nat} {x : ai_C} (hx : ai_cok h x) (e : ai_le h ρ ρ') : ai_e dA ρ' x = ai_e dA ρ x := by
  rcases x with o | ⟨t, n, f | f | f⟩ | k
  · show Sum.inr (o.1, o.2.map (ai_v ρ')) = Sum.inr (o.1, o.2.map (ai_v ρ))
    rw [ai_vs_ext e hx]
  · rfl
  · rfl
  · have hf : (fun j => (f j).map ρ') = fun j => (f j).map ρ := by
      funext j
      cases hj : f j with
      | none => rfl
      | some a =>
        show some (ρ' a) = some (ρ a)
        rw [e a (hx j a hj)]
    show Sum.inl (dA t, n, Sum.inr (Sum.inr (Sum.inr (Sum.inr fun j => (f j).map ρ')))) = Sum.inl (dA t, n, Sum.inr (Sum.inr (Sum.inr (Sum.inr fun j => (f j).map ρ))))
    rw [hf]
  · rfl
theorem ai_cat1 {ρ : ai_A → Nat} {v : ai_V} (h : ai_two v = false) : (ai_v ρ v).category = 1 := by
  rcases v with x | x | _ | a
  · rfl
  · cases h
  · rfl
  · rfl
theorem ai_ws_at {dA : Nat → ClassId} {ρ : ai_A → Nat} {h : ai_H} {dom : List ai_A} {k : Nat} {a : ai_A} {x : ai_C} (hk : dom[k]? = some a) (ha : h.1 a = some x) : (ai_ws dA ρ h dom)[k]? = some (ρ a, ai_e dA ρ x) := by
  simp [ai_ws, hk, ha]
/-- a cell's place among the real ones -/
theorem ai_R.idx {D : va_G} {cl : List vw_C} {dA : Nat → ClassId} {ρ : ai_A → Nat} {h : ai_H} {dom : List ai_A} {a : ai_A} {x : ai_C}
    (hd : ∀ a, a ∈ dom ↔ ∃ x, h.1 a = some x ∧ ai_solid x = true) (ha : h.1 a = some x) (hs : ai_solid x = true) : ∃ k : Nat, dom[k]? = some a ∧ (ai_ws dA ρ h dom)[k]? = some (ρ a, ai_e dA ρ x) := by
  obtain ⟨k, hk⟩ := List.getElem?_of_mem ((hd a).mpr ⟨x, ha, hs⟩)
  exact ⟨k, hk, ai_ws_at hk ha⟩
theorem ai_ws_set {dA : Nat → ClassId} {B : Nat → Prop} {ρ : ai_A → Nat} {h : ai_H} {dom : List ai_A} {k : Nat} {a : ai_A} {x : ai_C} (hD : va_D B (ai_ws dA ρ h dom)) (hk : dom[k]? = some a) :
    (ai_ws dA ρ h dom).set k (ρ a, ai_e dA ρ x) = ai_ws dA ρ (ai_put h a x) dom := by
  have hl : k < dom.length := (List.getElem?_eq_some_iff.mp hk).1
  apply List.ext_getElem?
  intro j
  by_cases hj : k = j
  · subst hj
    rw [List.getElem?_set_self (by simpa [ai_ws] using hl)]
    simp [ai_ws, hk, ai_put, ai_upd]
  · rw [List.getElem?_set_ne hj]
    cases hd : dom[j]? with
    | none => simp [ai_ws, hd]
    | some b =>
      have hb : ¬ b = a := by
        intro e
        subst e
        exact hj (hD.1 k j _ _ (show (ai_ws dA ρ h dom)[k]? = some (ρ b, ai_e dA ρ ((h.1 b).getD (.inr (.inr 0)))) by simp [ai_ws, hk]) (show (ai_ws dA ρ h dom)[j]? = some (ρ b, ai_e dA ρ ((h.1 b).getD (.inr (.inr 0)))) by simp [ai_ws, hd]) rfl)
      simp [ai_ws, hd, ai_put, ai_upd, hb]
theorem ai_put_some {h : ai_H} {a b : ai_A} {x : ai_C} (hb : (h.1 b).isSome = true) : ((ai_put h a x).1 b).isSome = true := by
  by_cases e : b = a
  · simp [ai_put, ai_upd, e]
  · simpa [ai_put, ai_upd, e] using hb
theorem ai_put_ok {h : ai_H} {a : ai_A} {x : ai_C} {v : ai_V} (hv : ai_ok h v) : ai_ok (ai_put h a x) v := fun b hb => ai_put_some (hv b hb)
theorem ai_cok_mono {h h' : ai_H} (hm : ∀ b, (h.1 b).isSome = true → (h'.1 b).isSome = true) {x : ai_C} (hx : ai_cok h x) : ai_cok h' x := by
  rcases x with o | ⟨t, n, f | f | f⟩ | k
  · exact fun v hv a ha => hm a (hx v hv a ha)
  · trivial
  · trivial
  · exact fun j a ha => hm a (hx j a ha)
  · trivial
/-- behind a store -/
theorem ai_R.put {D : va_G} {cl : List vw_C} {dA : Nat → ClassId} {B : Nat → Prop} {ρ : ai_A → Nat} {h : ai_H} {H1 : Heap} {dom : List ai_A} {k : Nat} {a : ai_A} {x x' : ai_C}
    (hd : ∀ a, a ∈ dom ↔ ∃ x, h.1 a = some x ∧ ai_solid x = true) (hc : ∀ a x, h.1 a = some x → ai_cok h x) (hD : va_D B (ai_ws dA ρ h dom)) (hk : dom[k]? = some a) (ha : h.1 a = some x) (hs : ai_solid x = true) (hs' : ai_solid x' = true) (hx' : ai_cok h x')
    (hP1 : va_P D cl ((ai_ws dA ρ h dom).set k (ρ a, ai_e dA ρ x')) H1) (hD1 : va_D B ((ai_ws dA ρ h dom).set k (ρ a, ai_e dA ρ x'))) : ai_R D cl dA B ρ (ai_put h a x') H1 := by
  rw [ai_ws_set hD hk] at hP1 hD1
  have hm : ∀ b, (h.1 b).isSome = true → ((ai_put h a x').1 b).isSome = true := fun b hb => ai_put_some hb
  refine ⟨dom, fun b => ?_, hP1, hD1, fun b y hb => ?_⟩
  · rw [hd b]
    by_cases e : b = a
    · subst e
      refine ⟨fun _ => ⟨x', by simp [ai_put, ai_upd], hs'⟩, fun _ => ⟨x, ha, hs⟩⟩
    · have : (ai_put h a x').1 b = h.1 b := by simp [ai_put, ai_upd, e]
      rw [this]
  · by_cases e : b = a
    · subst e
      have : x' = y := by simpa [ai_put, ai_upd] using hb
      rw [← this]
      exact ai_cok_mono hm hx'
    · have : h.1 b = some y := by simpa [ai_put, ai_upd, e] using hb
      exact ai_cok_mono hm (hc b y this)
/-- an address map with one more -/
def ai_at (ρ : ai_A → Nat) (a : ai_A) (q : Nat) : ai_A → Nat := fun b => if b = a then q else ρ b
theorem ai_at_le {h : ai_H} {ρ : ai_A → Nat} {a : ai_A} {q : Nat} (ha : h.1 a = none) : ai_le h ρ (ai_at ρ a q) := by
  intro b hb
  by_cases e : b = a
  · subst e
    rw [ha] at hb
    cases hb
  · simp [ai_at, e]
theorem ai_new_some {h : ai_H} {s n : Nat} {x : ai_C} {b : ai_A} (hb : (h.1 b).isSome = true) : ((ai_new h s x n).1 b).isSome = true := by
  by_cases e : b = (s, h.2.1 s)
  · simp [ai_new, ai_upd, e]
  · simpa [ai_new, ai_upd, e] using hb
/-- behind the making of a cell at q -/
theorem ai_R.new {D : va_G} {cl : List vw_C} {dA : Nat → ClassId} {B : Nat → Prop} {ρ : ai_A → Nat} {h : ai_H} {H1 : Heap} {dom : List ai_A} {s n q : Nat} {x : ai_C}
    (hd : ∀ a, a ∈ dom ↔ ∃ x, h.1 a = some x ∧ ai_solid x = true) (hc : ∀ a x, h.1 a = some x → ai_cok h x) (ha : h.1 (s, h.2.1 s) = none) (hs : ai_solid x = true) (hx : ai_cok h x)
    (hP1 : va_P D cl (ai_ws dA ρ h dom ++ [(q, ai_e dA ρ x)]) H1) (hD1 : va_D B (ai_ws dA ρ h dom ++ [(q, ai_e dA ρ x)])) : ai_R D cl dA B (ai_at ρ (s, h.2.1 s) q) (ai_new h s x n) H1 := by
  have hle := ai_at_le (ρ := ρ) (q := q) ha
  have hm : ∀ b, (h.1 b).isSome = true → ((ai_new h s x n).1 b).isSome = true := fun b hb => ai_new_some hb
  have hw : ai_ws dA (ai_at ρ (s, h.2.1 s) q) (ai_new h s x n) (dom ++ [(s, h.2.1 s)]) = ai_ws dA ρ h dom ++ [(q, ai_e dA ρ x)] := by
    unfold ai_ws
    rw [List.map_append]
    congr 1
    · refine List.map_congr_left fun b hb => ?_
      obtain ⟨y, hy, hys⟩ := (hd b).mp hb
      have hne : ¬ b = (s, h.2.1 s) := fun e => by
        subst e
        rw [ha] at hy
        cases hy
      have e1 : (ai_new h s x n).1 b = some y := by simp [ai_new, ai_upd, hne, hy]
      rw [e1, hy]
      show (ai_at ρ (s, h.2.1 s) q b, ai_e dA (ai_at ρ (s, h.2.1 s) q) y) = (ρ b, ai_e dA ρ y)
      rw [hle b (by rw [hy]; rfl), ai_e_ext (hc b y hy) hle]
    · have e1 : (ai_new h s x n).1 (s, h.2.1 s) = some x := by simp [ai_new, ai_upd]
      show [(ai_at ρ (s, h.2.1 s) q (s, h.2.1 s), ai_e dA (ai_at ρ (s, h.2.1 s) q) (((ai_new h s x n).1 (s, h.2.1 s)).getD (.inr (.inr 0))))] = [(q, ai_e dA ρ x)]
      rw [e1]
      show [(ai_at ρ (s, h.2.1 s) q (s, h.2.1 s), ai_e dA (ai_at ρ (s, h.2.1 s) q) x)] = [(q, ai_e dA ρ x)]
      rw [ai_e_ext hx hle]
      simp [ai_at]
  refine ⟨dom ++ [(s, h.2.1 s)], fun b => ?_, by rw [hw]; exact hP1, by rw [hw]; exact hD1, fun b y hb => ?_⟩
  · by_cases e : b = (s, h.2.1 s)
    · subst e
      exact ⟨fun _ => ⟨x, by simp [ai_new, ai_upd], hs⟩, fun _ => by simp⟩
    · have e1 : (ai_new h s x n).1 b = h.1 b := by simp [ai_new, ai_upd, e]
      rw [e1, ← hd b]
      simp [e]
  · by_cases e : b = (s, h.2.1 s)
    · subst e
      have : x = y := by simpa [ai_new, ai_upd] using hb
      rw [← this]
      exact ai_cok_mono hm hx
    · have : h.1 b = some y := by simpa [ai_new, ai_upd, e] using hb
      exact ai_cok_mono hm (hc b y this)
/-- a store to a local -/
theorem ai_lr.set1 {ρ : ai_A → Nat} {ls ls' : ai_L} {lv : List (Nat × Value)} {A' : Array Slot} {i : Nat} {v : ai_V} (hs : ai_st1 ls i v = some ls') (hl : ∀ k v, ls[k]? = some (some v) → (k, ai_v ρ v) ∈ lv)
    (hA : lv_has A' ls.length ((i, ai_v ρ v) :: lv.filter (fun q => !(q.1 == i) && !(q.1 + 1 == i && q.2.category == 2)))) : ai_lr ρ ls' A' := by
  unfold ai_st1 at hs
  split at hs
  · rename_i hc
    obtain ⟨h1, h2⟩ := hc
    cases hs
    refine ⟨_, by rw [List.length_set]; exact hA, fun k w hk => ?_⟩
    by_cases e : i = k
    · subst e
      rw [List.getElem?_set_self h1] at hk
      cases hk
      exact List.mem_cons_self
    · rw [List.getElem?_set_ne e] at hk
      refine List.mem_cons_of_mem _ (List.mem_filter.mpr ⟨hl k w hk, ?_⟩)
      have e1 : (k == i) = false := by simpa using fun q => e q.symm
      cases i with
      | zero => simp [e1]
      | succ j =>
        by_cases e2 : k = j
        · subst e2
          have h3 : ai_two w = false := by
            simpa [ai_pl, hk] using h2
          simp [ai_cat1 h3]
        · simp [e1, e2]
          try omega
  · cases hs
theorem ai_lr.set2 {ρ : ai_A → Nat} {ls ls' : ai_L} {lv : List (Nat × Value)} {A' : Array Slot} {i : Nat} {v : ai_V} (hs : ai_st2 ls i v = some ls') (hl : ∀ k v, ls[k]? = some (some v) → (k, ai_v ρ v) ∈ lv)
    (hA : lv_has A' ls.length ((i, ai_v ρ v) :: lv.filter (fun q => !(q.1 == i) && (!(q.1 == i + 1) && !(q.1 + 1 == i && q.2.category == 2))))) : ai_lr ρ ls' A' := by
  unfold ai_st2 at hs
  split at hs
  · rename_i hc
    obtain ⟨h1, h2⟩ := hc
    cases hs
    refine ⟨_, by rw [List.length_set, List.length_set]; exact hA, fun k w hk => ?_⟩
    by_cases e9 : i + 1 = k
    · subst e9
      rw [List.getElem?_set_self (by rw [List.length_set]; exact h1)] at hk
      cases hk
    · rw [List.getElem?_set_ne e9] at hk
      by_cases e : i = k
      · subst e
        rw [List.getElem?_set_self (by omega)] at hk
        cases hk
        exact List.mem_cons_self
      · rw [List.getElem?_set_ne e] at hk
        refine List.mem_cons_of_mem _ (List.mem_filter.mpr ⟨hl k w hk, ?_⟩)
        have e1 : (k == i) = false := by simpa using fun q => e q.symm
        have e3 : (k == i + 1) = false := by simpa using fun q => e9 q.symm
        cases i with
        | zero => simp [e1, e3]
        | succ j =>
          by_cases e2 : k = j
          · subst e2
            have h3 : ai_two w = false := by
              simpa [ai_pl, hk] using h2
            simp [ai_cat1 h3]
            try omega
          · simp [e1, e2, e3]
            try omega
  · cases hs
end
section
/-! Steps on stack, locals and counter alone. -/
theorem ai_ii_spec {f : Int32 → Int32 → Int32} {st st' : List ai_V} (h : ai_ii f st = some st') : ∃ x y r, st = .inl y :: .inl x :: r ∧ st' = .inl (f x y) :: r := by
  unfold ai_ii at h
  split at h
  · cases h
    exact ⟨_, _, _, rfl, rfl⟩
  · cases h
theorem ai_ll_spec {f : Int64 → Int64 → Int64} {st st' : List ai_V} (h : ai_ll f st = some st') : ∃ x y r, st = .inr (.inl y) :: .inr (.inl x) :: r ∧ st' = .inr (.inl (f x y)) :: r := by
  unfold ai_ll at h
  split at h
  · cases h
    exact ⟨_, _, _, rfl, rfl⟩
  · cases h
theorem ai_li_spec {f : Int64 → Int32 → Int64} {st st' : List ai_V} (h : ai_li f st = some st') : ∃ x y r, st = .inl y :: .inr (.inl x) :: r ∧ st' = .inr (.inl (f x y)) :: r := by
  unfold ai_li at h
  split at h
  · cases h
    exact ⟨_, _, _, rfl, rfl⟩
  · cases h
section AI1
variable {p : Program} {l : Launch} {e : Env} {R : Room} {s : State} {m : MethodId} {args : Array Value} {below : List Frame} {meth : Method} {c : Code} {H : Heap} {locs : List Loc} {cells slots : Nat} {Q : State → Prop}
variable {cc : ByteArray} {pc : Nat} {lsA : Array Slot} {ρ : ai_A → Nat}
set_option maxHeartbeats 4000000 in
theorem ai_pure_W (hx : p.tables.exec = Jvm.exec) (hb : c.code = cc) {ins : Instr} {st st' : List ai_V} (hp : ai_pure ins st = some st') (hd : decode cc pc = .ok (ins, ai_len ins))
    (k : W p l e R s m args below meth c H locs cells slots Q (F0 m (pc + ai_len ins) lsA (st'.map (ai_v ρ)))) : W p l e R s m args below meth c H locs cells slots Q (F0 m pc lsA (st.map (ai_v ρ))) := by
  cases ins
  case iconst n =>
    cases hp
    exact lv_iconst hx hb hd rfl k
  case bipush n =>
    cases hp
    exact lv_bipush hx hb hd rfl k
  case sipush n =>
    cases hp
    exact lv_sipush hx hb hd rfl k
  case lconst n =>
    cases hp
    exact lv_lconst hx hb hd rfl k
  case aconst_null =>
    cases hp
    exact lv_null hx hb hd k
  case dup =>
    simp only [ai_pure] at hp
    split at hp
    · split at hp
      · cases hp
      · rename_i h2
        cases hp
        exact lv_dup hx hb hd (ai_cat1 (by simpa using h2)) k
    · cases hp
  case dup_x1 =>
    simp only [ai_pure] at hp
    split at hp
    · split at hp
      · cases hp
      · rename_i h2
        cases hp
        simp only [Bool.or_eq_true, not_or, Bool.not_eq_true] at h2
        exact lv_dup_x1 hx hb hd (ai_cat1 h2.1) (ai_cat1 h2.2) k
    · cases hp
  case dup_x2 =>
    simp only [ai_pure] at hp
    split at hp
    · split at hp
      · cases hp
      · rename_i h2
        cases hp
        simp only [Bool.or_eq_true, not_or, Bool.not_eq_true] at h2
        exact lv_dup_x2 hx hb hd (ai_cat1 h2.1.1) (ai_cat1 h2.1.2) (ai_cat1 h2.2) k
    · cases hp
  case dup2 =>
    simp only [ai_pure] at hp
    split at hp
    · split at hp
      · cases hp
      · rename_i h2
        cases hp
        simp only [Bool.or_eq_true, not_or, Bool.not_eq_true] at h2
        exact lv_dup2_11 hx hb hd (ai_cat1 h2.1) (ai_cat1 h2.2) k
    · cases hp
  case pop =>
    simp only [ai_pure] at hp
    split at hp
    · split at hp
      · cases hp
      · rename_i h2
        cases hp
        exact lv_pop hx hb hd (ai_cat1 (by simpa using h2)) k
    · cases hp
  case iadd =>
    obtain ⟨x, y, r, rfl, rfl⟩ := ai_ii_spec hp
    exact lv_iadd hx hb hd k
  case isub =>
    obtain ⟨x, y, r, rfl, rfl⟩ := ai_ii_spec hp
    exact lv_isub hx hb hd k
  case imul =>
    obtain ⟨x, y, r, rfl, rfl⟩ := ai_ii_spec hp
    exact lv_imul hx hb hd k
  case iand =>
    obtain ⟨x, y, r, rfl, rfl⟩ := ai_ii_spec hp
    exact lv_iand hx hb hd k
  case ior =>
    obtain ⟨x, y, r, rfl, rfl⟩ := ai_ii_spec hp
    exact lv_ior hx hb hd k
  case ixor =>
    obtain ⟨x, y, r, rfl, rfl⟩ := ai_ii_spec hp
    exact lv_ixor hx hb hd k
  case ishl =>
    obtain ⟨x, y, r, rfl, rfl⟩ := ai_ii_spec hp
    exact lv_ishl hx hb hd k
  case ishr =>
    obtain ⟨x, y, r, rfl, rfl⟩ := ai_ii_spec hp
    exact lv_ishr hx hb hd k
  case iushr =>
    obtain ⟨x, y, r, rfl, rfl⟩ := ai_ii_spec hp
    exact lv_iushr hx hb hd rfl k
  case idiv =>
    simp only [ai_pure] at hp
    split at hp
    · split at hp
      · cases hp
      · rename_i h2
        cases hp
        exact lv_idiv hx hb hd h2 k
    · cases hp
  case irem =>
    simp only [ai_pure] at hp
    split at hp
    · split at hp
      · cases hp
      · rename_i h2
        cases hp
        exact lv_irem hx hb hd h2 k
    · cases hp
  case ineg =>
    simp only [ai_pure] at hp
    split at hp
    · cases hp
      exact lv_ineg hx hb hd k
    · cases hp
  case ladd =>
    obtain ⟨x, y, r, rfl, rfl⟩ := ai_ll_spec hp
    exact lv_ladd hx hb hd k
  case lsub =>
    obtain ⟨x, y, r, rfl, rfl⟩ := ai_ll_spec hp
    exact lv_lsub hx hb hd k
  case land =>
    obtain ⟨x, y, r, rfl, rfl⟩ := ai_ll_spec hp
    exact lv_land hx hb hd k
  case lor =>
    obtain ⟨x, y, r, rfl, rfl⟩ := ai_ll_spec hp
    exact lv_lor hx hb hd k
  case lxor =>
    obtain ⟨x, y, r, rfl, rfl⟩ := ai_ll_spec hp
    exact lv_lxor hx hb hd k
  case lshl =>
    obtain ⟨x, y, r, rfl, rfl⟩ := ai_li_spec hp
    exact lv_lshl hx hb hd rfl k
  case lushr =>
    obtain ⟨x, y, r, rfl, rfl⟩ := ai_li_spec hp
    exact lv_lushr hx hb hd rfl k
  case i2l =>
    simp only [ai_pure] at hp
    split at hp
    · cases hp
      exact lv_i2l hx hb hd rfl k
    · cases hp
  case l2i =>
    simp only [ai_pure] at hp
    split at hp
    · cases hp
      exact lv_l2i hx hb hd rfl k
    · cases hp
  case i2c =>
    simp only [ai_pure] at hp
    split at hp
    · cases hp
      exact lv_i2c hx hb hd rfl k
    · cases hp
  case lcmp =>
    simp only [ai_pure] at hp
    split at hp
    · cases hp
      exact W.lcmp hx hb hd k
    · cases hp
  all_goals (simp [ai_pure] at hp)
/-- the length of a row's instruction: any for switches -/
def ai_lok (ins : Instr) (len : Nat) : Bool := match ins with
  | .tableswitch _ _ _ _ => true
  | .lookupswitch _ _ => true
  | _ => len == ai_len ins
theorem ai_lk_spec {pc : Nat} {x : Int} {d : Int} {dt : Nat} (hd : (pc : Int) + d = (dt : Nat)) : ∀ (ps : List (Int × Int)) (ts : List Nat), ts.length = ps.length → (∀ j, j < ps.length → (pc : Int) + (ps.getD j (0, 0)).2 = (ts.getD j 0 : Nat)) → (pc : Int) + Op.lookupswitch.offset ps d x = (ai_lk x dt ps ts : Nat) := by
  intro ps
  induction ps with
  | nil =>
    intro ts _ _
    cases ts <;> simpa [ai_lk, Op.lookupswitch.offset] using hd
  | cons q ps ih =>
    intro ts hl ht
    obtain ⟨k, o⟩ := q
    cases ts with
    | nil => simp at hl
    | cons t ts =>
      rw [Op.lookupswitch.offset_cons]
      have h0 := ht 0 (by simp)
      by_cases hk : x = k
      · rw [if_pos hk.symm]
        simpa [ai_lk, hk] using h0
      · rw [if_neg (fun q => hk q.symm)]
        have := ih ts (by simpa using hl) (fun j hj => by simpa using ht (j + 1) (by simpa using hj))
        simpa [ai_lk, hk] using this
set_option maxHeartbeats 4000000 in
theorem ai_jmp_W (hx : p.tables.exec = Jvm.exec) (hb : c.code = cc) {ins : Instr} {len pc' : Nat} {ks : List Nat} {st st' : List ai_V} (hp : ai_jmp ins pc ks st = some (pc', st')) (hok : ai_jok ins pc ks) (hd : decode cc pc = .ok (ins, len)) (hlen : ai_lok ins len = true)
    (k : W p l e R s m args below meth c H locs cells slots Q (F0 m pc' lsA (st'.map (ai_v ρ)))) : W p l e R s m args below meth c H locs cells slots Q (F0 m pc lsA (st.map (ai_v ρ))) := by
  cases ins
  case goto off =>
    have hl : len = 3 := by simpa [ai_lok, ai_len] using hlen
    subst hl
    cases hp
    exact lv_goto hx hb hd hok k
  case ifCond q off =>
    have hl : len = 3 := by simpa [ai_lok, ai_len] using hlen
    subst hl
    simp only [ai_jmp] at hp
    split at hp
    · cases hp
      cases q
      · refine lv_if_eq hx hb hd hok (fun z => ?_) (fun z => ?_)
        · rw [if_pos (by simp [ai_cmp, z])] at k; exact k
        · rw [if_neg (by simp [ai_cmp, z])] at k; exact k
      · refine lv_if_ne hx hb hd hok (fun z => ?_) (fun z => ?_)
        · rw [if_pos (by simp [ai_cmp, z])] at k; exact k
        · rw [if_neg (by simp [ai_cmp, z])] at k; exact k
      · refine lv_if_lt hx hb hd hok (fun z => ?_) (fun z => ?_)
        · rw [if_pos (by simpa [ai_cmp] using z)] at k; exact k
        · rw [if_neg (by simpa [ai_cmp] using z)] at k; exact k
      · refine lv_if_ge hx hb hd hok (fun z => ?_) (fun z => ?_)
        · rw [if_pos (by simpa [ai_cmp] using z)] at k; exact k
        · rw [if_neg (by simpa [ai_cmp] using z)] at k; exact k
      · refine lv_if_gt hx hb hd hok (fun z => ?_) (fun z => ?_)
        · rw [if_pos (by simpa [ai_cmp] using z)] at k; exact k
        · rw [if_neg (by simpa [ai_cmp] using z)] at k; exact k
      · refine lv_if_le hx hb hd hok (fun z => ?_) (fun z => ?_)
        · rw [if_pos (by simpa [ai_cmp] using z)] at k; exact k
        · rw [if_neg (by simpa [ai_cmp] using z)] at k; exact k
    · cases hp
  case if_icmp q off =>
    have hl : len = 3 := by simpa [ai_lok, ai_len] using hlen
    subst hl
    simp only [ai_jmp] at hp
    split at hp
    · cases hp
      cases q
      · refine lv_icmp_eq hx hb hd hok (fun z => ?_) (fun z => ?_)
        · rw [if_pos (by simp [ai_cmp, z])] at k; exact k
        · rw [if_neg (by simp [ai_cmp, z])] at k; exact k
      · refine lv_icmp_ne hx hb hd hok (fun z => ?_) (fun z => ?_)
        · rw [if_pos (by simp [ai_cmp, z])] at k; exact k
        · rw [if_neg (by simp [ai_cmp, z])] at k; exact k
      · refine lv_icmp_lt hx hb hd hok (fun z => ?_) (fun z => ?_)
        · rw [if_pos (by simpa [ai_cmp] using z)] at k; exact k
        · rw [if_neg (by simpa [ai_cmp] using z)] at k; exact k
      · refine lv_icmp_ge hx hb hd hok (fun z => ?_) (fun z => ?_)
        · rw [if_pos (by simpa [ai_cmp] using z)] at k; exact k
        · rw [if_neg (by simpa [ai_cmp] using z)] at k; exact k
      · refine lv_icmp_gt hx hb hd hok (fun z => ?_) (fun z => ?_)
        · rw [if_pos (by simpa [ai_cmp] using z)] at k; exact k
        · rw [if_neg (by simpa [ai_cmp] using z)] at k; exact k
      · refine lv_icmp_le hx hb hd hok (fun z => ?_) (fun z => ?_)
        · rw [if_pos (by simpa [ai_cmp] using z)] at k; exact k
        · rw [if_neg (by simpa [ai_cmp] using z)] at k; exact k
    · cases hp
  case ifnull off =>
    have hl : len = 3 := by simpa [ai_lok, ai_len] using hlen
    subst hl
    simp only [ai_jmp] at hp
    split at hp
    · cases hp
      exact lv_ifnullN hx hb hd hok k
    · cases hp
      exact lv_ifnull hx hb hd k
    · cases hp
  case ifnonnull off =>
    have hl : len = 3 := by simpa [ai_lok, ai_len] using hlen
    subst hl
    simp only [ai_jmp] at hp
    split at hp
    · cases hp
      exact lv_ifnonnullN hx hb hd k
    · cases hp
      exact lv_ifnonnull hx hb hd hok k
    · cases hp
  case tableswitch d lo hi offs =>
    simp only [ai_jmp] at hp
    split at hp
    · rename_i x r
      cases hp
      obtain ⟨h1, h2⟩ := hok
      by_cases hc : x.toInt < lo ∨ hi < x.toInt
      · rw [if_pos hc] at k
        exact lv_tableOut hx hb hd hc h1 k
      · rw [if_neg hc] at k
        obtain ⟨off, ho, ht⟩ := h2 (x.toInt - lo).toNat (by omega)
        exact lv_tableIn hx hb hd (fun z => hc (Or.inl z)) (fun z => hc (Or.inr z)) ho ht k
    · cases hp
  case lookupswitch d ps =>
    simp only [ai_jmp] at hp
    split at hp
    · rename_i x r
      cases hp
      obtain ⟨h0, h1, h2, h3⟩ := hok
      refine lv_lookup hx hb hd h0 rfl (ai_lk_spec h1 _ _ (by rw [List.length_drop, h2]; omega) (fun j hj => ?_)) k
      have := h3 j hj
      rw [this]
      congr 1
      simp [List.getD_eq_getElem?_getD, List.getElem?_drop, Nat.add_comm]
    · cases hp
  all_goals (simp [ai_jmp] at hp)
theorem ai_lr.get {ls : ai_L} {i : Nat} {v : ai_V} (h : ai_lr ρ ls lsA) (hi : ls[i]? = some (some v)) : lsA[i]? = some (.val (ai_v ρ v)) := by
  obtain ⟨lv, h1, h2⟩ := h
  exact h1.2.2 _ (h2 i v hi)
set_option maxHeartbeats 4000000 in
theorem ai_loc_W (hx : p.tables.exec = Jvm.exec) (hb : c.code = cc) {ins : Instr} {ls ls' : ai_L} {st st' : List ai_V} (hp : ai_loc ins ls st = some (ls', st')) (hd : decode cc pc = .ok (ins, ai_len ins)) (hl : ai_lr ρ ls lsA)
    (k : ∀ lsB : Array Slot, ai_lr ρ ls' lsB → W p l e R s m args below meth c H locs cells slots Q (F0 m (pc + ai_len ins) lsB (st'.map (ai_v ρ)))) : W p l e R s m args below meth c H locs cells slots Q (F0 m pc lsA (st.map (ai_v ρ))) := by
  cases ins
  case iload i =>
    simp only [ai_loc] at hp
    split at hp
    · rename_i x hi
      cases hp
      exact lv_iload hx hb hd (hl.get hi) (k _ hl)
    · cases hp
  case iload_n n =>
    simp only [ai_loc] at hp
    split at hp
    · rename_i x hi
      cases hp
      exact lv_iload_n hx hb hd rfl (hl.get hi) (k _ hl)
    · cases hp
  case lload i =>
    simp only [ai_loc] at hp
    split at hp
    · rename_i x hi
      cases hp
      exact lv_lload hx hb hd (hl.get hi) (k _ hl)
    · cases hp
  case lload_n n =>
    simp only [ai_loc] at hp
    split at hp
    · rename_i x hi
      cases hp
      exact lv_lload_n hx hb hd rfl (hl.get hi) (k _ hl)
    · cases hp
  case aload i =>
    simp only [ai_loc] at hp
    split at hp
    · rename_i x hi
      cases hp
      cases x with
      | none => exact lv_aloadN hx hb hd (hl.get hi) (k _ hl)
      | some a => exact lv_aload hx hb hd (hl.get hi) (k _ hl)
    · cases hp
  case aload_n n =>
    simp only [ai_loc] at hp
    split at hp
    · rename_i x hi
      cases hp
      cases x with
      | none => exact lv_aload_nN hx hb hd rfl (hl.get hi) (k _ hl)
      | some a => exact lv_aload_n hx hb hd rfl (hl.get hi) (k _ hl)
    · cases hp
  case istore i =>
    simp only [ai_loc] at hp
    split at hp
    · rename_i x r
      obtain ⟨q, hq, hz⟩ := Option.map_eq_some_iff.mp hp
      cases hz
      obtain ⟨lv, h1, h2⟩ := hl
      have hi : i < ls.length := by
        unfold ai_st1 at hq
        split at hq
        · rename_i z; exact z.1
        · cases hq
      exact lv_istore hx hb hd h1 hi rfl (fun lsB hB => k lsB (ai_lr.set1 hq h2 hB))
    · cases hp
  case istore_n n =>
    simp only [ai_loc] at hp
    split at hp
    · rename_i x r
      obtain ⟨q, hq, hz⟩ := Option.map_eq_some_iff.mp hp
      cases hz
      obtain ⟨lv, h1, h2⟩ := hl
      have hi : (n : Nat) < ls.length := by
        unfold ai_st1 at hq
        split at hq
        · rename_i z; exact z.1
        · cases hq
      exact lv_istore_n hx hb hd rfl h1 hi rfl (fun lsB hB => k lsB (ai_lr.set1 hq h2 hB))
    · cases hp
  case lstore i =>
    simp only [ai_loc] at hp
    split at hp
    · rename_i x r
      obtain ⟨q, hq, hz⟩ := Option.map_eq_some_iff.mp hp
      cases hz
      obtain ⟨lv, h1, h2⟩ := hl
      have hi : i + 1 < ls.length := by
        unfold ai_st2 at hq
        split at hq
        · rename_i z; exact z.1
        · cases hq
      exact lv_lstore hx hb hd h1 hi rfl (fun lsB hB => k lsB (ai_lr.set2 hq h2 hB))
    · cases hp
  case lstore_n n =>
    simp only [ai_loc] at hp
    split at hp
    · rename_i x r
      obtain ⟨q, hq, hz⟩ := Option.map_eq_some_iff.mp hp
      cases hz
      obtain ⟨lv, h1, h2⟩ := hl
      have hi : (n : Nat) + 1 < ls.length := by
        unfold ai_st2 at hq
        split at hq
        · rename_i z; exact z.1
        · cases hq
      exact lv_lstore_n hx hb hd rfl h1 hi rfl (fun lsB hB => k lsB (ai_lr.set2 hq h2 hB))
    · cases hp
  case astore i =>
    simp only [ai_loc] at hp
    split at hp
    · rename_i x r
      obtain ⟨q, hq, hz⟩ := Option.map_eq_some_iff.mp hp
      cases hz
      obtain ⟨lv, h1, h2⟩ := hl
      have hi : i < ls.length := by
        unfold ai_st1 at hq
        split at hq
        · rename_i z; exact z.1
        · cases hq
      cases x with
      | none => exact lv_astoreN hx hb hd h1 hi rfl (fun lsB hB => k lsB (ai_lr.set1 hq h2 hB))
      | some a => exact lv_astore hx hb hd h1 hi rfl (fun lsB hB => k lsB (ai_lr.set1 hq h2 hB))
    · cases hp
  case astore_n n =>
    simp only [ai_loc] at hp
    split at hp
    · rename_i x r
      obtain ⟨q, hq, hz⟩ := Option.map_eq_some_iff.mp hp
      cases hz
      obtain ⟨lv, h1, h2⟩ := hl
      have hi : (n : Nat) < ls.length := by
        unfold ai_st1 at hq
        split at hq
        · rename_i z; exact z.1
        · cases hq
      cases x with
      | none => exact lv_astore_nN hx hb hd rfl h1 hi rfl (fun lsB hB => k lsB (ai_lr.set1 hq h2 hB))
      | some a => exact lv_astore_n hx hb hd rfl h1 hi rfl (fun lsB hB => k lsB (ai_lr.set1 hq h2 hB))
    · cases hp
  case iinc i n =>
    simp only [ai_loc] at hp
    split at hp
    · rename_i x hi
      obtain ⟨q, hq, hz⟩ := Option.map_eq_some_iff.mp hp
      cases hz
      obtain ⟨lv, h1, h2⟩ := hl
      have hn : i < ls.length := (List.getElem?_eq_some_iff.mp hi).1
      obtain ⟨j, hj⟩ := List.getElem?_of_mem (h2 i _ hi)
      exact lv_iinc hx hb hd h1 (k := j) hj rfl hn rfl (fun lsB hB => k lsB (ai_lr.set1 hq h2 hB))
    · cases hp
  all_goals (simp [ai_loc] at hp)
end AI1
end
section
/-! Steps on the heap. -/
def ai_tys (dA : Nat → ClassId) (tyL : List FieldType) : List (ClassId × FieldType) := (List.range tyL.length).map fun t => (dA t, tyL.getD t .float)
theorem ai_tys_at {dA : Nat → ClassId} {tyL : List FieldType} {t : Nat} {ty : FieldType} (h : tyL.getD t .float = ty) (hn : ty ≠ .float) : (ai_tys dA tyL)[t]? = some (dA t, ty) := by
  have hl : t < tyL.length := by
    rcases Nat.lt_or_ge t tyL.length with q | q
    · exact q
    · exfalso
      rw [List.getD_eq_getElem?_getD, List.getElem?_eq_none q] at h
      exact hn h.symm
  simp only [ai_tys, List.getElem?_map, List.getElem?_range hl, Option.map_some, h]
/-- the classes: their words, their fields' types, their fields' names -/
def ai_clok (Ts : List Cond) (cl : List vw_C) (tyF : Nat → Nat → FieldType) : Prop := ∀ (ci : Nat) (C : String) (T : u_T) (N : Nat), cl[ci]? = some (C, T, N) →
  (∀ w ∈ u_ws C T N, w ∈ Ts) ∧ (∀ k, k < N → parseFieldDescriptor (T k).2.2.1 = some (tyF ci k)) ∧ ∀ a, a < N → ∀ b, b < N → a ≠ b → (T a).2.1 ≠ (T b).2.1
/-- a field's link -/
def ai_fok (Ts : List Cond) (cl : List vw_C) (own : String) (idx ci k : Nat) : Prop := ∃ (C : String) (T : u_T) (N : Nat) (ref : String), cl[ci]? = some (C, T, N) ∧ k < N ∧
  (Cond.fieldLink own idx ref (T k).2.1 (T k).2.2.1 ∈ Ts ∨ ∃ host, Cond.fieldLinkNest own idx ref (T k).2.1 (T k).2.2.1 host ∈ Ts) ∧ (ref = (T k).1 ∨ Cond.sameField ref (T k).1 (T k).2.1 (T k).2.2.1 ∈ Ts)
/-- .. one that may be written: not final, or in a constructor of its own class -/
def ai_pok (Ts : List Cond) (cl : List vw_C) (own mn : String) (idx ci k : Nat) : Prop := ∃ (C : String) (T : u_T) (N : Nat) (ref : String), cl[ci]? = some (C, T, N) ∧ k < N ∧ (ref = (T k).1 ∨ Cond.sameField ref (T k).1 (T k).2.1 (T k).2.2.1 ∈ Ts) ∧
  (((T k).2.2.2 = false ∧ (Cond.fieldLink own idx ref (T k).2.1 (T k).2.2.1 ∈ Ts ∨ ∃ host, Cond.fieldLinkNest own idx ref (T k).2.1 (T k).2.2.1 host ∈ Ts)) ∨
   ((T k).2.2.2 = true ∧ mn = "<init>" ∧ (T k).1 = own ∧ Cond.fieldLink own idx ref (T k).2.1 (T k).2.2.1 ∈ Ts))
/-- what a row that works on the heap must keep -/
def ai_hok (Ts : List Cond) (cl : List vw_C) (tyL : List FieldType) (tyF : Nat → Nat → FieldType) (dfl : Nat → List ai_V) (own mn : String) (ins : Instr) (ks : List Nat) : Prop := match ins with
  | .ldc idx => Cond.constant own idx (Int32.ofNat (ks.getD 0 0)) ∈ Ts
  | .ldc_w idx => Cond.constant own idx (Int32.ofNat (ks.getD 0 0)) ∈ Ts
  | .ldc2_w idx => Cond.constantLong own idx (Int64.ofNat (ks.getD 0 0)) ∈ Ts
  | .getfield idx => ai_fok Ts cl own idx (ks.getD 0 0) (ks.getD 1 0)
  | .putfield idx => ai_pok Ts cl own mn idx (ks.getD 0 0) (ks.getD 1 0)
  | .new idx => ∃ (C : String) (T : u_T) (N : Nat), cl[ks.getD 0 0]? = some (C, T, N) ∧ Cond.classLink own idx C ∈ Ts ∧ Cond.instantiable C N ∈ Ts ∧ Cond.initialized C ∈ Ts ∧ (dfl (ks.getD 0 0)).length = N ∧ ∀ j, j < N → ai_v (fun _ => 0) ((dfl (ks.getD 0 0)).getD j (.inr (.inr none))) = defaultValue (tyF (ks.getD 0 0) j) ∧ ∀ a, (dfl (ks.getD 0 0)).getD j (.inr (.inr none)) ≠ .inr (.inr (some a))
  | .newarray at_ => tyL.getD (ks.getD 0 0) .float = newarray.typeOf at_ ∧ newarray.typeOf at_ ≠ .float ∧ newarray.typeOf at_ ≠ .double ∧ Cond.arrayClass (newarray.typeOf at_) ∈ Ts
  | .anewarray idx => ∃ C, tyL.getD (ks.getD 0 0) .float = .object C ∧ Cond.classLink own idx C ∈ Ts ∧ Cond.arrayOver (.object C) ∈ Ts
  | .checkcast idx => ∃ (C : String) (T : u_T) (N : Nat), cl[ks.getD 0 0]? = some (C, T, N) ∧ Cond.classLink own idx C ∈ Ts
  | _ => True
/-- which objects an array of references takes -/
def ai_aok (Ts : List Cond) (cl : List vw_C) (tyL : List FieldType) (asg : Nat → Nat → Bool) : Prop := ∀ t cj, asg t cj = true → ∃ (E : String) (r : vw_C), tyL.getD t .float = .object E ∧ cl[cj]? = some r ∧ (r.1 = E ∨ Cond.castable r.1 E ∈ Ts)
theorem ai_fit_char {x : Int32} (h1 : 0 ≤ x) (h2 : x ≤ 65535) : x.toUInt32.toUInt16.toUInt32.toInt32 = x := by
  have e1 := Int32.le_iff_toInt_le.mp h1
  have e2 := Int32.le_iff_toInt_le.mp h2
  have z1 : (0 : Int32).toInt = 0 := by decide
  have z2 : (65535 : Int32).toInt = 65535 := by decide
  exact lg_i2c_small (by omega) (by omega)
theorem ai_fit_ok {ρ : ai_A → Nat} {ty : FieldType} {v : ai_V} (h : ai_fit ty v = true) : narrow ty (ai_v ρ v) = ai_v ρ v ∧ fits ty (ai_v ρ v) = true := by
  cases ty
  case boolean =>
    rcases v with x | x | _ | a
    · have h : x = 0 ∨ x = 1 := by simpa [ai_fit] using h
      rcases h with rfl | rfl
      · exact ⟨rfl, rfl⟩
      · exact ⟨rfl, rfl⟩
    all_goals (simp [ai_fit] at h)
  case char =>
    rcases v with x | x | _ | a
    · have h : 0 ≤ x ∧ x ≤ 65535 := by simpa [ai_fit] using h
      refine ⟨?_, ?_⟩
      · show Value.int _ = Value.int x
        rw [ai_fit_char h.1 h.2]
      · show (decide (0 ≤ x) && decide (x ≤ 65535)) = true
        simp [h.1, h.2]
    all_goals (simp [ai_fit] at h)
  all_goals (rcases v with x | x | _ | a <;> first | exact ⟨rfl, rfl⟩ | (simp [ai_fit] at h; done))
section AI2
variable {p : Program} {l : Launch} {e : Env} {R : Room} {s : State} {m : MethodId} {args : Array Value} {below : List Frame} {meth : Method} {c : Code} {H : Heap} {locs : List Loc} {cells slots : Nat} {Q : State → Prop}
variable {cc : ByteArray} {pc : Nat} {lsA : Array Slot} {ρ : ai_A → Nat} {D : va_G} {cl : List vw_C} {dA : Nat → ClassId} {B : Nat → Prop} {h h' : ai_H} {Ts : List Cond} {tyL : List FieldType} {tyF : Nat → Nat → FieldType} {dfl : Nat → List ai_V} {own : String} {ks : List Nat}
theorem ai_link (hts : ∀ w ∈ Ts, w.before args s = true) {ref o n d : String} (hr : ref = o ∨ Cond.sameField ref o n d ∈ Ts) : ∀ x, s.fieldFound? o n d = some x → s.fieldFound? ref n d = some x := by
  rcases hr with rfl | hr
  · exact fun _ z => z
  · exact fun x z => u_same (hts _ hr) x z
/-- a read leaves all as it was -/
theorem ai_get_W (hx : p.tables.exec = Jvm.exec) (hb : c.code = cc) (hts : ∀ w ∈ Ts, w.before args s = true) (hown : s.vm.findClass own = some m.cls) (hcl : ai_clok Ts cl tyF) {tys : List (ClassId × FieldType)} (hK : va_K D cl tys s) (hR : ai_R D cl dA B ρ h H)
    {idx ci k : Nat} {fs : List ai_V} {a : ai_A} {v : ai_V} {rest : List Value} (ha : h.1 a = some (.inl (ci, fs))) (hv : fs[k]? = some v) (hok : ai_fok Ts cl own idx ci k) (hd : decode cc pc = .ok (.getfield idx, 3))
    (kk : W p l e R s m args below meth c H locs cells slots Q (F0 m (pc + 3) lsA (ai_v ρ v :: rest))) : W p l e R s m args below meth c H locs cells slots Q (F0 m pc lsA (.ref (ρ a) :: rest)) := by
  obtain ⟨dom, h1, hP, hD, hc⟩ := hR
  obtain ⟨j, -, hj⟩ := ai_R.idx (D := D) (cl := cl) (dA := dA) (ρ := ρ) h1 ha rfl
  obtain ⟨C, T, N, ref, g1, g2, g3, g4⟩ := hok
  obtain ⟨w1, -, -⟩ := hcl _ _ _ _ g1
  have hv' : (fs.map (ai_v ρ))[k]? = some (ai_v ρ v) := by simp [hv]
  rcases g3 with g3 | ⟨host, g3⟩
  · exact va_get hx hb hts w1 hown hK hP j hj g1 k g2 (hts _ g3) (ai_link hts g4) hv' hd kk
  · exact va_getN hx hb hts w1 hown hK hP j hj g1 k g2 (hts _ g3) (ai_link hts g4) hv' hd kk
theorem ai_put_W (hx : p.tables.exec = Jvm.exec) (hb : c.code = cc) (hts : ∀ w ∈ Ts, w.before args s = true) (hown : s.vm.findClass own = some m.cls) (hcl : ai_clok Ts cl tyF) {tys : List (ClassId × FieldType)} (hK : va_K D cl tys s) (hR : ai_R D cl dA B ρ h H) (hS : va_S B s.heap H locs)
    {idx ci k : Nat} {fs : List ai_V} {a : ai_A} {v : ai_V} {rest : List Value} (ha : h.1 a = some (.inl (ci, fs))) (hl : k < fs.length) (hf : ai_fit (tyF ci k) v = true) (hv : ai_ok h v) (hok : ai_pok Ts cl own meth.name idx ci k) (hd : decode cc pc = .ok (.putfield idx, 3))
    (kk : ∀ (H1 : Heap) (locs1 : List Loc), ai_R D cl dA B ρ (ai_put h a (.inl (ci, fs.set k v))) H1 → va_S B s.heap H1 locs1 → W p l e R s m args below meth c H1 locs1 cells slots Q (F0 m (pc + 3) lsA rest)) :
    W p l e R s m args below meth c H locs cells slots Q (F0 m pc lsA (ai_v ρ v :: .ref (ρ a) :: rest)) := by
  obtain ⟨dom, h1, hP, hD, hc⟩ := hR
  obtain ⟨j, hj0, hj⟩ := ai_R.idx (D := D) (cl := cl) (dA := dA) (ρ := ρ) h1 ha rfl
  obtain ⟨C, T, N, ref, g1, g2, g4, g3⟩ := hok
  obtain ⟨w1, w2, w3⟩ := hcl _ _ _ _ g1
  obtain ⟨f1, f2⟩ := ai_fit_ok (ρ := ρ) hf
  have hx' : ai_cok h (.inl (ci, fs.set k v)) := fun w hw => by
    rcases List.mem_or_eq_of_mem_set hw with z | z
    · exact hc _ _ ha w z
    · rw [z]; exact hv
  have he : ai_e dA ρ (.inl (ci, fs.set k v)) = .inr (ci, (fs.map (ai_v ρ)).set k (ai_v ρ v)) := by
    show Sum.inr (ci, (fs.set k v).map (ai_v ρ)) = _
    rw [List.map_set]
  have fin : ∀ (H1 : Heap) (locs1 : List Loc), va_P D cl ((ai_ws dA ρ h dom).set j (ρ a, .inr (ci, (fs.map (ai_v ρ)).set k (ai_v ρ v)))) H1 → va_D B ((ai_ws dA ρ h dom).set j (ρ a, .inr (ci, (fs.map (ai_v ρ)).set k (ai_v ρ v)))) → va_S B s.heap H1 locs1 → W p l e R s m args below meth c H1 locs1 cells slots Q (F0 m (pc + 3) lsA rest) := by
    intro H1 locs1 q1 q2 q3
    rw [← he] at q1 q2
    exact kk H1 locs1 (ai_R.put h1 hc hD hj0 ha rfl rfl hx' q1 q2) q3
  rcases g3 with ⟨g5, g3 | ⟨host, g3⟩⟩ | ⟨g5, g6, g7, g3⟩
  · exact va_put hx hb hts w1 (tyF ci) w2 w3 hown hK hP hD hS j hj g1 k g2 (hts _ g3) (ai_link hts g4) g5 (w2 k g2) f1 f2 (by simpa using hl) hd fin
  · exact va_putN hx hb hts w1 (tyF ci) w2 w3 hown hK hP hD hS j hj g1 k g2 (hts _ g3) (ai_link hts g4) g5 (w2 k g2) f1 f2 (by simpa using hl) hd fin
  · exact va_putF hx hb hts w1 (tyF ci) w2 w3 hown hK hP hD hS j hj g1 k g2 (hts _ g3) (ai_link hts g4) g5 g6 g7 (w2 k g2) f1 f2 (by simpa using hl) hd fin
/-- a store to an array -/
theorem ai_st_fin {dom : List ai_A} {j t n t' n' : Nat} {a : ai_A} {d d' : ai_D} {q0 : Nat} {rest : List Value}
    (h1 : ∀ a, a ∈ dom ↔ ∃ x, h.1 a = some x ∧ ai_solid x = true) (hc : ∀ a x, h.1 a = some x → ai_cok h x) (hD : va_D B (ai_ws dA ρ h dom)) (hj0 : dom[j]? = some a) (ha : h.1 a = some (.inr (.inl (t, n, d)))) (hx' : ai_cok h (.inr (.inl (t', n', d'))))
    (kk : ∀ (H1 : Heap) (locs1 : List Loc), ai_R D cl dA B ρ (ai_put h a (.inr (.inl (t', n', d')))) H1 → va_S B s.heap H1 locs1 → W p l e R s m args below meth c H1 locs1 cells slots Q (F0 m q0 lsA rest))
    {E : va_E} (hE : E = ai_e dA ρ (.inr (.inl (t', n', d')))) (H1 : Heap) (locs1 : List Loc) (q1 : va_P D cl ((ai_ws dA ρ h dom).set j (ρ a, E)) H1) (q2 : va_D B ((ai_ws dA ρ h dom).set j (ρ a, E))) (q3 : va_S B s.heap H1 locs1) :
    W p l e R s m args below meth c H1 locs1 cells slots Q (F0 m q0 lsA rest) := by
  subst hE
  exact kk H1 locs1 (ai_R.put h1 hc hD hj0 ha rfl rfl hx' q1 q2) q3
end AI2
end
section
theorem ai_RA_inj {U : State} {c1 c2 : ClassId} {ty : FieldType} (h1 : va_RA U c1 ty) (h2 : va_RA U c2 ty) : c1 = c2 := by
  cases ty with
  | object C =>
    obtain ⟨_, _, -, -, -, g1⟩ := h1
    obtain ⟨_, _, -, -, -, g2⟩ := h2
    exact Option.some.inj (g1.symm.trans g2)
  | _ => exact Option.some.inj (h1.symm.trans h2)
theorem ai_ok_int {h : ai_H} {x : Int32} : ai_ok h (.inl x) := fun _ z => by cases z
theorem ai_ok_long {h : ai_H} {x : Int64} : ai_ok h (.inr (.inl x)) := fun _ z => by cases z
theorem ai_ok_null {h : ai_H} : ai_ok h (.inr (.inr none)) := fun _ z => by cases z
theorem ai_ok_ref {h : ai_H} {a : ai_A} (q : (h.1 a).isSome = true) : ai_ok h (.inr (.inr (some a))) := fun _ z => by cases z; exact q
theorem ai_oks {h : ai_H} {v : ai_V} {st : List ai_V} (hv : ai_ok h v) (hs : ∀ w ∈ st, ai_ok h w) : ∀ w ∈ v :: st, ai_ok h w := fun w hw => by
  rcases List.mem_cons.mp hw with rfl | hw
  · exact hv
  · exact hs w hw
theorem ai_okt {h : ai_H} {v : ai_V} {st : List ai_V} (hs : ∀ w ∈ v :: st, ai_ok h w) : ∀ w ∈ st, ai_ok h w := fun w hw => hs w (List.mem_cons_of_mem _ hw)
theorem ai_oksP {h : ai_H} {a : ai_A} {x : ai_C} {st : List ai_V} (hs : ∀ w ∈ st, ai_ok h w) : ∀ w ∈ st, ai_ok (ai_put h a x) w := fun w hw => ai_put_ok (hs w hw)
theorem ai_oksN {h : ai_H} {s n : Nat} {x : ai_C} {st : List ai_V} (hs : ∀ w ∈ st, ai_ok h w) : ∀ w ∈ st, ai_ok (ai_new h s x n) w := fun w hw a ha => ai_new_some (hs w hw a ha)
theorem ai_le_refl {h : ai_H} {ρ : ai_A → Nat} : ai_le h ρ ρ := fun _ _ => rfl
theorem ai_rf {ρ : ai_A → Nat} (r : Option ai_A) : va_rf (r.map ρ) = ai_v ρ (.inr (.inr r)) := by cases r <;> rfl
theorem ai_up_map {ρ : ai_A → Nat} (f : Nat → Option ai_A) (i : Nat) (r : Option ai_A) : va_up (fun j => (f j).map ρ) i (r.map ρ) = fun j => (va_up f i r j).map ρ := by
  funext j
  by_cases hj : j = i
  · subst hj
    simp [va_up]
  · simp [va_up, hj]
theorem ai_up_cok {h : ai_H} {t n : Nat} {f : Nat → Option ai_A} {i : Nat} {r : Option ai_A} (hf : ai_cok h (.inr (.inl (t, n, .inr (.inr f))))) (hr : ∀ a, r = some a → (h.1 a).isSome = true) : ai_cok h (.inr (.inl (t, n, .inr (.inr (va_up f i r))))) := by
  intro j a ha
  by_cases hj : j = i
  · subst hj
    have : r = some a := by simpa [va_up] using ha
    exact hr a this
  · have : f j = some a := by simpa [va_up, hj] using ha
    exact hf j a this
theorem ai_vpV {ρ : ai_A → Nat} (l : List ai_V) (j : Nat) : vp_V (l.map (ai_v ρ)) j = ai_v ρ (l.getD j (.inr (.inr none))) := by
  simp only [vp_V, List.getD_eq_getElem?_getD, List.getElem?_map]
  cases l[j]? <;> rfl
section AI3
variable {p : Program} {l : Launch} {e : Env} {R : Room} {s : State} {m : MethodId} {args : Array Value} {below : List Frame} {meth : Method} {c : Code} {H : Heap} {locs : List Loc} {cells slots : Nat} {Q : State → Prop}
variable {cc : ByteArray} {pc : Nat} {lsA : Array Slot} {ρ : ai_A → Nat} {D : va_G} {cl : List vw_C} {dA : Nat → ClassId} {B : Nat → Prop} {h h' : ai_H} {Ts : List Cond} {tyL : List FieldType} {tyF : Nat → Nat → FieldType} {dfl : Nat → List ai_V} {asg : Nat → Nat → Bool} {own : String} {ks : List Nat}
set_option maxHeartbeats 8000000 in
theorem ai_heap_W (hx : p.tables.exec = Jvm.exec) (hb : c.code = cc) (hts : ∀ w ∈ Ts, w.before args s = true) (hown : s.vm.findClass own = some m.cls) (hcl : ai_clok Ts cl tyF) (hasg : ai_aok Ts cl tyL asg) (hK : va_K D cl (ai_tys dA tyL) s) (hR : ai_R D cl dA B ρ h H) (hS : va_S B s.heap H locs) (hB : ∀ q, s.heap.size ≤ q → B q)
    {L : Nat} {xs : Nat → Int32} (hsc : ∀ a, h.1 a = some (.inr (.inr 0)) → va_X (ρ a) L xs s s.heap ∧ ρ a < s.heap.size ∧ ¬ B (ρ a)) (hsd : ∀ a, h.1 a = some (.inr (.inr 2)) → va_T (.object "java/lang/Object") (ρ a) 0 (fun _ => .null) B s s.heap)
    {ins : Instr} {st st' : List ai_V} (hst : ∀ v ∈ st, ai_ok h v) (hp : ai_heap dfl (fun t => tyL.getD t .float) tyF asg L xs ins ks st h = some (st', h')) (hok : ai_hok Ts cl tyL tyF dfl own meth.name ins ks) (hd : decode cc pc = .ok (ins, ai_len ins))
    (hrc : cells + h'.2.2.1 ≤ R.cells + h.2.2.1) (hrs : slots + h'.2.2.2 ≤ R.slots + h.2.2.2)
    (k : ∀ (ρ' : ai_A → Nat) (H' : Heap) (locs' : List Loc) (cells' slots' : Nat), ai_le h ρ ρ' → ai_R D cl dA B ρ' h' H' → va_S B s.heap H' locs' → (∀ v ∈ st', ai_ok h' v) → (∀ b, (h.1 b).isSome = true → (h'.1 b).isSome = true) → (∀ b k, h'.1 b = some (.inr (.inr k)) → h.1 b = some (.inr (.inr k))) → cells' + h.2.2.1 = cells + h'.2.2.1 → slots' + h.2.2.2 = slots + h'.2.2.2 →
      W p l e R s m args below meth c H' locs' cells' slots' Q (F0 m (pc + ai_len ins) lsA (st'.map (ai_v ρ')))) : W p l e R s m args below meth c H locs cells slots Q (F0 m pc lsA (st.map (ai_v ρ))) := by
  have hR0 := hR
  obtain ⟨dom, h1, hP, hD, hc⟩ := hR
  have op : ∀ {a : ai_A} {x y : ai_C}, h.1 a = some y → ai_solid x = true → ∀ b k, (ai_put h a x).1 b = some (.inr (.inr k)) → h.1 b = some (.inr (.inr k)) := by
    intro a x y _ hxs b k hb
    by_cases z : b = a
    · subst z
      have : x = .inr (.inr k) := by simpa [ai_put, ai_upd] using hb
      rw [this] at hxs
      cases hxs
    · simpa [ai_put, ai_upd, z] using hb
  have on : ∀ {s' n : Nat} {x : ai_C}, ai_solid x = true → ∀ b k, (ai_new h s' x n).1 b = some (.inr (.inr k)) → h.1 b = some (.inr (.inr k)) := by
    intro s' n x hxs b k hb
    by_cases z : b = (s', h.2.1 s')
    · subst z
      have : x = .inr (.inr k) := by simpa [ai_new, ai_upd] using hb
      rw [this] at hxs
      cases hxs
    · simpa [ai_new, ai_upd, z] using hb
  cases ins
  case ldc idx =>
    cases hp
    exact lv_ldc hx hb hown (hts _ hok) hd (k ρ H locs cells slots ai_le_refl hR0 hS (ai_oks ai_ok_int hst) (fun _ z => z) (fun _ _ z => z) rfl rfl)
  case ldc_w idx =>
    cases hp
    exact lv_ldcw hx hb hown (hts _ hok) hd (k ρ H locs cells slots ai_le_refl hR0 hS (ai_oks ai_ok_int hst) (fun _ z => z) (fun _ _ z => z) rfl rfl)
  case ldc2_w idx =>
    cases hp
    exact lv_ldc2 hx hb hown (hts _ hok) hd (k ρ H locs cells slots ai_le_refl hR0 hS (ai_oks ai_ok_long hst) (fun _ z => z) (fun _ _ z => z) rfl rfl)
  case getfield idx =>
    simp only [ai_heap] at hp
    split at hp
    · split at hp
      · rename_i a r _ cj fs ha
        split at hp
        · rename_i hcj
          obtain ⟨v, hv, hz⟩ := Option.map_eq_some_iff.mp hp
          cases hz
          subst hcj
          exact ai_get_W hx hb hts hown hcl hK hR0 ha hv hok hd (k ρ H locs cells slots ai_le_refl hR0 hS (ai_oks (hc _ _ ha v (List.mem_of_getElem? hv)) (ai_okt hst)) (fun _ z => z) (fun _ _ z => z) rfl rfl)
        · cases hp
      · cases hp
    · cases hp
  case putfield idx =>
    simp only [ai_heap] at hp
    split at hp
    · split at hp
      · rename_i v a r _ cj fs ha
        split at hp
        · rename_i hcj
          obtain ⟨q1, q2, q3⟩ := hcj
          cases hp
          subst q1
          exact ai_put_W hx hb hts hown hcl hK hR0 hS ha q2 q3 (hst v List.mem_cons_self) hok hd (fun H1 locs1 g1 g2 => k ρ H1 locs1 cells slots ai_le_refl g1 g2 (ai_oksP (ai_okt (ai_okt hst))) (fun b z => ai_put_some z) (op ha rfl) rfl rfl)
        · cases hp
      · cases hp
    · cases hp
  case iaload =>
    simp only [ai_heap] at hp
    split at hp
    · split at hp
      · rename_i i a r _ t n f ha
        split at hp
        · rename_i hc2
          cases hp
          obtain ⟨j, -, hj⟩ := ai_R.idx (D := D) (cl := cl) (dA := dA) (ρ := ρ) h1 ha rfl
          exact va_iald hx hb hK hP j t hj (ai_tys_at hc2.1 (by decide)) hc2.2 hd (k ρ H locs cells slots ai_le_refl hR0 hS (ai_oks ai_ok_int (ai_okt (ai_okt hst))) (fun _ z => z) (fun _ _ z => z) rfl rfl)
        · cases hp
      · rename_i i a r _ ha
        split at hp
        · rename_i hc2
          cases hp
          obtain ⟨s1, s2, s3⟩ := hsc a ha
          exact va_sld hx hb s1 s2 s3 hS hc2 hd (k ρ H locs cells slots ai_le_refl hR0 hS (ai_oks ai_ok_int (ai_okt (ai_okt hst))) (fun _ z => z) (fun _ _ z => z) rfl rfl)
        · cases hp
      · cases hp
    · cases hp
  case caload =>
    simp only [ai_heap] at hp
    split at hp
    · split at hp
      · rename_i i a r _ t n f ha
        split at hp
        · rename_i hc2
          cases hp
          obtain ⟨j, -, hj⟩ := ai_R.idx (D := D) (cl := cl) (dA := dA) (ρ := ρ) h1 ha rfl
          exact va_cald hx hb hK hP j t hj (ai_tys_at hc2.1 (by decide)) hc2.2 hd (k ρ H locs cells slots ai_le_refl hR0 hS (ai_oks ai_ok_int (ai_okt (ai_okt hst))) (fun _ z => z) (fun _ _ z => z) rfl rfl)
        · cases hp
      · cases hp
    · cases hp
  case baload =>
    simp only [ai_heap] at hp
    split at hp
    · split at hp
      · rename_i i a r _ t n f ha
        split at hp
        · rename_i hc2
          cases hp
          obtain ⟨j, -, hj⟩ := ai_R.idx (D := D) (cl := cl) (dA := dA) (ρ := ρ) h1 ha rfl
          exact va_zald hx hb hK hP j t hj (ai_tys_at hc2.1 (by decide)) hc2.2 hd (k ρ H locs cells slots ai_le_refl hR0 hS (ai_oks ai_ok_int (ai_okt (ai_okt hst))) (fun _ z => z) (fun _ _ z => z) rfl rfl)
        · cases hp
      · cases hp
    · cases hp
  case laload =>
    simp only [ai_heap] at hp
    split at hp
    · split at hp
      · rename_i i a r _ t n f ha
        split at hp
        · rename_i hc2
          cases hp
          obtain ⟨j, -, hj⟩ := ai_R.idx (D := D) (cl := cl) (dA := dA) (ρ := ρ) h1 ha rfl
          exact va_lald hx hb hK hP j t hj (ai_tys_at hc2.1 (by decide)) hc2.2 hd (k ρ H locs cells slots ai_le_refl hR0 hS (ai_oks ai_ok_long (ai_okt (ai_okt hst))) (fun _ z => z) (fun _ _ z => z) rfl rfl)
        · cases hp
      · cases hp
    · cases hp
  case aaload =>
    simp only [ai_heap] at hp
    split at hp
    · split at hp
      · rename_i i a r _ t n f ha
        split at hp
        · rename_i hc2
          cases hp
          obtain ⟨j, -, hj⟩ := ai_R.idx (D := D) (cl := cl) (dA := dA) (ρ := ρ) h1 ha rfl
          obtain ⟨E, hE⟩ : ∃ E, tyL.getD t .float = .object E := by
            have := hc2.1
            cases hq : tyL.getD t .float <;> rw [hq] at this <;> first | (cases this; done) | exact ⟨_, rfl⟩
          refine va_aldq hx hb hK hP j t hj (ai_tys_at hE (by simp)) hc2.2 hd ?_
          rw [ai_rf]
          refine k ρ H locs cells slots ai_le_refl hR0 hS (ai_oks ?_ (ai_okt (ai_okt hst))) (fun _ z => z) (fun _ _ z => z) rfl rfl
          intro b hb2
          exact hc _ _ ha i.toNatClampNeg b (by simpa using hb2)
        · cases hp
      · cases hp
    · cases hp
  case iastore =>
    simp only [ai_heap] at hp
    split at hp
    · split at hp
      · rename_i x i a r _ t n f ha
        split at hp
        · rename_i hc2
          cases hp
          obtain ⟨j, hj0, hj⟩ := ai_R.idx (D := D) (cl := cl) (dA := dA) (ρ := ρ) h1 ha rfl
          refine va_iast hx hb hK hP hD hS j t hj (ai_tys_at hc2.1 (by decide)) hc2.2 hd (ai_st_fin (t' := t) (n' := n) (d' := .inl (upd f i.toNatClampNeg x)) h1 hc hD hj0 ha trivial (fun H1 locs1 g1 g2 => ?_) rfl)
          exact k ρ H1 locs1 cells slots ai_le_refl g1 g2 (ai_oksP (ai_okt (ai_okt (ai_okt hst)))) (fun b z => ai_put_some z) (op ha rfl) rfl rfl
        · cases hp
      · cases hp
    · cases hp
  case castore =>
    simp only [ai_heap] at hp
    split at hp
    · split at hp
      · rename_i x i a r _ t n f ha
        split at hp
        · rename_i hc2
          cases hp
          obtain ⟨j, hj0, hj⟩ := ai_R.idx (D := D) (cl := cl) (dA := dA) (ρ := ρ) h1 ha rfl
          refine va_cast hx hb hK hP hD hS j t hj (ai_tys_at hc2.1 (by decide)) hc2.2 hd (ai_st_fin (t' := t) (n' := n) (d' := .inl (upd f i.toNatClampNeg (vp_nar .char x))) h1 hc hD hj0 ha trivial (fun H1 locs1 g1 g2 => ?_) rfl)
          exact k ρ H1 locs1 cells slots ai_le_refl g1 g2 (ai_oksP (ai_okt (ai_okt (ai_okt hst)))) (fun b z => ai_put_some z) (op ha rfl) rfl rfl
        · cases hp
      · cases hp
    · cases hp
  case bastore =>
    simp only [ai_heap] at hp
    split at hp
    · split at hp
      · rename_i x i a r _ t n f ha
        split at hp
        · rename_i hc2
          cases hp
          obtain ⟨j, hj0, hj⟩ := ai_R.idx (D := D) (cl := cl) (dA := dA) (ρ := ρ) h1 ha rfl
          refine va_zast hx hb hK hP hD hS j t hj (ai_tys_at hc2.1 (by decide)) hc2.2 hd (ai_st_fin (t' := t) (n' := n) (d' := .inl (upd f i.toNatClampNeg (vp_nar .boolean x))) h1 hc hD hj0 ha trivial (fun H1 locs1 g1 g2 => ?_) rfl)
          exact k ρ H1 locs1 cells slots ai_le_refl g1 g2 (ai_oksP (ai_okt (ai_okt (ai_okt hst)))) (fun b z => ai_put_some z) (op ha rfl) rfl rfl
        · cases hp
      · cases hp
    · cases hp
  case lastore =>
    simp only [ai_heap] at hp
    split at hp
    · split at hp
      · rename_i x i a r _ t n f ha
        split at hp
        · rename_i hc2
          cases hp
          obtain ⟨j, hj0, hj⟩ := ai_R.idx (D := D) (cl := cl) (dA := dA) (ρ := ρ) h1 ha rfl
          refine va_last hx hb hK hP hD hS j t hj (ai_tys_at hc2.1 (by decide)) hc2.2 hd (ai_st_fin (t' := t) (n' := n) (d' := .inr (.inl (vp_updL f i.toNatClampNeg x))) h1 hc hD hj0 ha trivial (fun H1 locs1 g1 g2 => ?_) rfl)
          exact k ρ H1 locs1 cells slots ai_le_refl g1 g2 (ai_oksP (ai_okt (ai_okt (ai_okt hst)))) (fun b z => ai_put_some z) (op ha rfl) rfl rfl
        · cases hp
      · cases hp
    · cases hp
  case aastore =>
    simp only [ai_heap] at hp
    split at hp
    · split at hp
      · rename_i i a r _ t n f ha
        split at hp
        · rename_i hc2
          cases hp
          obtain ⟨j, hj0, hj⟩ := ai_R.idx (D := D) (cl := cl) (dA := dA) (ρ := ρ) h1 ha rfl
          obtain ⟨E, hE⟩ : ∃ E, tyL.getD t .float = .object E := by
            have := hc2.1
            cases hq : tyL.getD t .float <;> rw [hq] at this <;> first | (cases this; done) | exact ⟨_, rfl⟩
          refine va_astqN hx hb hK hP hD hS j t hj (ai_tys_at hE (by simp)) hc2.2 hd (ai_st_fin (t' := t) (n' := n) (d' := .inr (.inr (va_up f i.toNatClampNeg none))) h1 hc hD hj0 ha (ai_up_cok (hc _ _ ha) (fun _ z => by cases z)) (fun H1 locs1 g1 g2 => ?_) ?_)
          · exact k ρ H1 locs1 cells slots ai_le_refl g1 g2 (ai_oksP (ai_okt (ai_okt (ai_okt hst)))) (fun b z => ai_put_some z) (op ha rfl) rfl rfl
          · exact congrArg (fun g => (Sum.inl (dA t, n, Sum.inr (Sum.inr (Sum.inr (Sum.inr g)))) : va_E)) (ai_up_map f i.toNatClampNeg none)
        · cases hp
      · cases hp
    · split at hp
      · rename_i b i a r _ _ t n f cj fs ha hbb
        split at hp
        · rename_i hc2
          cases hp
          obtain ⟨j, hj0, hj⟩ := ai_R.idx (D := D) (cl := cl) (dA := dA) (ρ := ρ) h1 ha rfl
          obtain ⟨j2, -, hj2⟩ := ai_R.idx (D := D) (cl := cl) (dA := dA) (ρ := ρ) h1 hbb rfl
          obtain ⟨E, r0, hE, hr0, hca⟩ := hasg t cj hc2.1
          have fin : ∀ (H1 : Heap) (locs1 : List Loc), va_P D cl ((ai_ws dA ρ h dom).set j (ρ a, .inl (dA t, n, .inr (.inr (.inr (.inr (va_up (fun j => (f j).map ρ) i.toNatClampNeg (some (ρ b))))))))) H1 → va_D B ((ai_ws dA ρ h dom).set j (ρ a, .inl (dA t, n, .inr (.inr (.inr (.inr (va_up (fun j => (f j).map ρ) i.toNatClampNeg (some (ρ b))))))))) → va_S B s.heap H1 locs1 → W p l e R s m args below meth c H1 locs1 cells slots Q (F0 m (pc + 1) lsA (st'.map (ai_v ρ))) := by
            refine ai_st_fin (t' := t) (n' := n) (d' := .inr (.inr (va_up f i.toNatClampNeg (some b)))) h1 hc hD hj0 ha (ai_up_cok (hc _ _ ha) (fun a' z => by cases z; rw [hbb]; rfl)) (fun H1 locs1 g1 g2 => ?_) ?_
            · exact k ρ H1 locs1 cells slots ai_le_refl g1 g2 (ai_oksP (ai_okt (ai_okt (ai_okt hst)))) (fun b z => ai_put_some z) (op ha rfl) rfl rfl
            · exact congrArg (fun g => (Sum.inl (dA t, n, Sum.inr (Sum.inr (Sum.inr (Sum.inr g)))) : va_E)) (ai_up_map f i.toNatClampNeg (some b))
          rcases hca with hca | hca
          · subst hca
            exact va_astq hx hb hK hP hD hS j t j2 cj hj (ai_tys_at hE (by simp)) hj2 hr0 hc2.2 hd fin
          · exact va_astqO hx hb hK hP hD hS j t j2 cj hj (ai_tys_at hE (by simp)) (va_Nw.of rfl (hts _ hca)) hj2 hr0 hc2.2 hd fin
        · cases hp
      · cases hp
    · cases hp
  case arraylength =>
    simp only [ai_heap] at hp
    split at hp
    · split at hp
      · rename_i a r _ t n d ha
        split at hp
        · cases hp
        · rename_i hc2
          cases hp
          obtain ⟨j, -, hj⟩ := ai_R.idx (D := D) (cl := cl) (dA := dA) (ρ := ρ) h1 ha rfl
          have kk := k ρ H locs cells slots ai_le_refl hR0 hS (ai_oks ai_ok_int (ai_okt hst)) (fun _ z => z) (fun _ _ z => z) rfl rfl
          rcases d with f | f | f
          · exact va_alen hx hb hK hP j t hj (ai_tys_at rfl hc2) rfl hd kk
          · exact va_alen hx hb hK hP j t hj (ai_tys_at rfl hc2) rfl hd kk
          · exact va_alen hx hb hK hP j t hj (ai_tys_at rfl hc2) rfl hd kk
      · rename_i a r _ ha
        cases hp
        obtain ⟨s1, s2, s3⟩ := hsc a ha
        exact va_slen hx hb s1 s2 s3 hS hd (k ρ H locs cells slots ai_le_refl hR0 hS (ai_oks ai_ok_int (ai_okt hst)) (fun _ z => z) (fun _ _ z => z) rfl rfl)
      · rename_i a r _ ha
        cases hp
        exact va_tlen hx hb (hsd a ha) hS (by decide) hd (k ρ H locs cells slots ai_le_refl hR0 hS (ai_oks ai_ok_int (ai_okt hst)) (fun _ z => z) (fun _ _ z => z) rfl rfl)
      · cases hp
    · cases hp
  case new idx =>
    simp only [ai_heap] at hp
    split at hp
    · rename_i hn
      cases hp
      have hn : h.1 (ks.getD 1 0, h.2.1 (ks.getD 1 0)) = none := by simpa using hn
      obtain ⟨C, T, N, g1, g2, g3, g4, g5, g6⟩ := hok
      obtain ⟨w1, w2, w3⟩ := hcl _ _ _ _ g1
      have hcn : ai_cok h (.inl (ks.getD 0 0, dfl (ks.getD 0 0))) := by
        intro v hv a ha
        obtain ⟨j, hj⟩ := List.getElem?_of_mem hv
        have hjl : j < N := by rw [← g5]; exact (List.getElem?_eq_some_iff.mp hj).1
        exact absurd (by rw [List.getD_eq_getElem?_getD, hj]; exact ha) ((g6 j hjl).2 a)
      have hrc' : cells + 1 ≤ R.cells := by
        have : cells + (h.2.2.1 + 1) ≤ R.cells + h.2.2.1 := hrc
        omega
      have hrs' : slots + N ≤ R.slots := by
        have : slots + (h.2.2.2 + (dfl (ks.getD 0 0)).length) ≤ R.slots + h.2.2.2 := hrs
        omega
      refine va_new hx hb hts w1 (tyF (ks.getD 0 0)) w2 hown (hts _ g2) (hts _ g3) (hts _ g4) hK hP hD hS hB g1 (fs := (dfl (ks.getD 0 0)).map (ai_v ρ)) (fun j hj => ?_) hrc' hrs' hd (fun q H1 q1 q2 q3 => ?_)
      · obtain ⟨e1, e2⟩ := g6 j hj
        rw [← e1]
        rw [ai_vpV]
        generalize (dfl (ks.getD 0 0)).getD j (.inr (.inr none)) = v at e2
        rcases v with x | x | _ | a
        · rfl
        · rfl
        · rfl
        · exact absurd rfl (e2 a)
      · have hle : ai_le h ρ (ai_at ρ (ks.getD 1 0, h.2.1 (ks.getD 1 0)) q) := ai_at_le hn
        have hq : ai_v (ai_at ρ (ks.getD 1 0, h.2.1 (ks.getD 1 0)) q) (.inr (.inr (some (ks.getD 1 0, h.2.1 (ks.getD 1 0))))) = .ref q := by simp [ai_v, ai_at]
        have := k (ai_at ρ (ks.getD 1 0, h.2.1 (ks.getD 1 0)) q) H1 locs (cells + 1) (slots + N) hle (ai_R.new h1 hc hn rfl hcn q1 q2) q3 (ai_oks (ai_ok_ref (by simp [ai_new, ai_upd])) (ai_oksN hst)) (fun b z => ai_new_some z) (on rfl) (by show cells + 1 + h.2.2.1 = cells + (h.2.2.1 + 1); omega) (by show slots + N + h.2.2.2 = slots + (h.2.2.2 + (dfl (ks.getD 0 0)).length); omega)
        rw [List.map_cons, hq, ai_vs_ext hle hst] at this
        exact this
    · cases hp
  case newarray at_ =>
    simp only [ai_heap] at hp
    split at hp
    · rename_i n r
      split at hp
      · rename_i hn
        cases hp
        obtain ⟨hn, hn0, hnb⟩ := hn
        have hn : h.1 (ks.getD 1 0, h.2.1 (ks.getD 1 0)) = none := by simpa using hn
        obtain ⟨g1, g2, g5, g3⟩ := hok
        have hrc' : cells + 1 ≤ R.cells := by
          have : cells + (h.2.2.1 + 1) ≤ R.cells + h.2.2.1 := hrc
          omega
        have hrs' : slots + n.toNatClampNeg ≤ R.slots := by
          have : slots + (h.2.2.2 + n.toNatClampNeg) ≤ R.slots + h.2.2.2 := hrs
          omega
        have hby : n.toNatClampNeg * componentBytes (newarray.typeOf at_) ≤ 536870912 := by
          have : componentBytes (newarray.typeOf at_) ≤ 8 := by cases at_ <;> decide
          exact Nat.le_trans (Nat.mul_le_mul_left _ this) hnb
        have hle : ∀ q, ai_le h ρ (ai_at ρ (ks.getD 1 0, h.2.1 (ks.getD 1 0)) q) := fun q => ai_at_le hn
        have hq : ∀ q, ai_v (ai_at ρ (ks.getD 1 0, h.2.1 (ks.getD 1 0)) q) (.inr (.inr (some (ks.getD 1 0, h.2.1 (ks.getD 1 0))))) = .ref q := fun q => by simp [ai_v, ai_at]
        have hcA : ∀ cA, va_K D cl (ai_tys dA tyL ++ [(cA, newarray.typeOf at_)]) s → cA = dA (ks.getD 0 0) := by
          intro cA hKA
          have e1 := (hKA.2 (ai_tys dA tyL).length (cA, newarray.typeOf at_) (by simp)).2
          have e2 := (hK.2 _ _ (ai_tys_at (dA := dA) g1 g2)).2
          exact ai_RA_inj e1 e2
        by_cases hlong : newarray.typeOf at_ = .long
        · rw [if_pos (by rw [← hlong]; exact g1)] at k
          refine va_newa hx hb (hts _ g3) rfl hK hP hD hS hB (a0 := (n.toNatClampNeg, .inr (.inl fun _ => 0))) (fun cA => by rw [hlong]; rfl) hn0 rfl hby hrc' hrs' hd (fun q cA H1 hKA q1 q2 q3 => ?_)
          obtain rfl := hcA cA hKA
          have := k (ai_at ρ (ks.getD 1 0, h.2.1 (ks.getD 1 0)) q) H1 locs (cells + 1) (slots + n.toNatClampNeg) (hle q) (ai_R.new h1 hc hn rfl trivial q1 q2) q3 (ai_oks (ai_ok_ref (by simp [ai_new, ai_upd])) (ai_oksN (ai_okt hst))) (fun b z => ai_new_some z) (on rfl) (by show cells + 1 + h.2.2.1 = cells + (h.2.2.1 + 1); omega) (by show slots + n.toNatClampNeg + h.2.2.2 = slots + (h.2.2.2 + n.toNatClampNeg); omega)
          rw [List.map_cons, hq, ai_vs_ext (hle q) (ai_okt hst)] at this
          exact this
        · rw [if_neg (by rw [g1]; exact hlong)] at k
          refine va_newa hx hb (hts _ g3) rfl hK hP hD hS hB (a0 := (n.toNatClampNeg, .inl fun _ => 0)) (fun cA => by cases at_ <;> first | rfl | exact absurd rfl hlong | exact absurd rfl g2 | exact absurd rfl g5) hn0 rfl hby hrc' hrs' hd (fun q cA H1 hKA q1 q2 q3 => ?_)
          obtain rfl := hcA cA hKA
          have := k (ai_at ρ (ks.getD 1 0, h.2.1 (ks.getD 1 0)) q) H1 locs (cells + 1) (slots + n.toNatClampNeg) (hle q) (ai_R.new h1 hc hn rfl trivial q1 q2) q3 (ai_oks (ai_ok_ref (by simp [ai_new, ai_upd])) (ai_oksN (ai_okt hst))) (fun b z => ai_new_some z) (on rfl) (by show cells + 1 + h.2.2.1 = cells + (h.2.2.1 + 1); omega) (by show slots + n.toNatClampNeg + h.2.2.2 = slots + (h.2.2.2 + n.toNatClampNeg); omega)
          rw [List.map_cons, hq, ai_vs_ext (hle q) (ai_okt hst)] at this
          exact this
      · cases hp
    · cases hp
  case anewarray idx =>
    simp only [ai_heap] at hp
    split at hp
    · rename_i n r
      split at hp
      · rename_i hn
        cases hp
        obtain ⟨hn, hn0, hnb⟩ := hn
        have hn : h.1 (ks.getD 1 0, h.2.1 (ks.getD 1 0)) = none := by simpa using hn
        obtain ⟨C, g1, g2, g3⟩ := hok
        have hrc' : cells + 1 ≤ R.cells := by
          have : cells + (h.2.2.1 + 1) ≤ R.cells + h.2.2.1 := hrc
          omega
        have hrs' : slots + n.toNatClampNeg ≤ R.slots := by
          have : slots + (h.2.2.2 + n.toNatClampNeg) ≤ R.slots + h.2.2.2 := hrs
          omega
        refine va_newq hx hb hown (hts _ g2) (va_AO.of (hts _ g3)) hK hP hD hS hB hn0 rfl (by omega) hrc' hrs' hd (fun q cA H1 hKA q1 q2 q3 => ?_)
        have hcA : cA = dA (ks.getD 0 0) := by
          have e1 := (hKA.2 (ai_tys dA tyL).length (cA, .object C) (by simp)).2
          have e2 := (hK.2 _ _ (ai_tys_at (dA := dA) g1 (by simp))).2
          exact ai_RA_inj e1 e2
        subst hcA
        have hle : ai_le h ρ (ai_at ρ (ks.getD 1 0, h.2.1 (ks.getD 1 0)) q) := ai_at_le hn
        have hq : ai_v (ai_at ρ (ks.getD 1 0, h.2.1 (ks.getD 1 0)) q) (.inr (.inr (some (ks.getD 1 0, h.2.1 (ks.getD 1 0))))) = .ref q := by simp [ai_v, ai_at]
        have := k (ai_at ρ (ks.getD 1 0, h.2.1 (ks.getD 1 0)) q) H1 locs (cells + 1) (slots + n.toNatClampNeg) hle (ai_R.new (x := .inr (.inl (ks.getD 0 0, n.toNatClampNeg, .inr (.inr fun _ => none)))) h1 hc hn rfl (fun _ _ z => by cases z) q1 q2) q3 (ai_oks (ai_ok_ref (by simp [ai_new, ai_upd])) (ai_oksN (ai_okt hst))) (fun b z => ai_new_some z) (on rfl) (by show cells + 1 + h.2.2.1 = cells + (h.2.2.1 + 1); omega) (by show slots + n.toNatClampNeg + h.2.2.2 = slots + (h.2.2.2 + n.toNatClampNeg); omega)
        rw [List.map_cons, hq, ai_vs_ext hle (ai_okt hst)] at this
        exact this
      · cases hp
    · cases hp
  case checkcast idx =>
    simp only [ai_heap] at hp
    split at hp
    · cases hp
      exact lv_castN hx hb hd (k ρ H locs cells slots ai_le_refl hR0 hS hst (fun _ z => z) (fun _ _ z => z) rfl rfl)
    · split at hp
      · rename_i a r _ cj fs ha
        split at hp
        · rename_i hc2
          cases hp
          subst hc2
          obtain ⟨C, T, N, g1, g2⟩ := hok
          obtain ⟨j, -, hj⟩ := ai_R.idx (D := D) (cl := cl) (dA := dA) (ρ := ρ) h1 ha rfl
          exact va_castS hx hb hown (hts _ g2) (hK.1 _ _ g1).2 (va_recv hK hP g1 hj) hd (k ρ H locs cells slots ai_le_refl hR0 hS hst (fun _ z => z) (fun _ _ z => z) rfl rfl)
        · cases hp
      · cases hp
    · cases hp
  all_goals (simp [ai_heap] at hp)
end AI3
end
section
/-! A call: what the callee's promise gives at the caller's frame. A promise speaks of both ends, answer and throw; L, mc, ms: what was written, how much was made. -/
def ai_End (B : Nat → Prop) (mc ms : Nat) (Qr : State → Option Value → State → Prop) (Qt : State → Addr → State → Prop) : Array Value → State → Outcome → State → Prop := fun _ st o t =>
  ∃ L : List Loc, (∀ z ∈ L, B z.base) ∧ st.WarmedH t.vm ∧ st.sameButNew ({ t with vm := st.vm } : State) L mc ms ∧ ((∃ v, o = .returned v ∧ Qr st v t) ∨ ∃ q, o = .threw q ∧ Qt st q t)
def ai_Met (l : Launch) (y : MethodName) (Ts : List Cond) (rm : Room) (Pc : Array Value → State → Prop) (B : Nat → Prop) (Qr : State → Option Value → State → Prop) (Qt : State → Addr → State → Prop) : Prop :=
  MetFree l y (headSpec Ts rm) Pc (fun _ _ _ _ _ => True) (ai_End B rm.cells rm.slots Qr Qt)
/-- where the method's code is found, ready to run -/
def ai_Code (U : State) (mk : MethodId) (maxL : Nat) : Prop := ∃ (methY : Method) (cY : Code) (kY : Class), U.vm.method? mk = some methY ∧ methY.code = some cY ∧ cY.maxLocals = maxL ∧ U.vm.classes[mk.cls]? = some kY ∧ kY.init = .initialized
section AIE
variable {p : Program} {l : Launch} {e : Env} {R : Room} {s : State} {m : MethodId} {args : Array Value} {below : List Frame} {meth : Method} {c : Code} {U : State} {locs : List Loc} {cells slots : Nat}
set_option maxHeartbeats 2000000 in
theorem ai_enter {y : MethodName} {Ts : List Cond} {rm : Room} {Pc : Array Value → State → Prop} {B : Nat → Prop} {Qr : State → Option Value → State → Prop} {Qt : State → Addr → State → Prop} (hM : ai_Met l y Ts rm Pc B Qr Qt)
    (X : Stand p l e R s m args below meth c U locs cells slots) {g : JFrame} (hg : g.method = m) (hsize : g.locals.size = c.maxLocals) {ig : Instr} {len : Nat} (hdg : decode c.code g.pc = .ok (ig, len))
    (hW : 2 * g.monitorRoom + (g.stack.map fun v => v.category).sum ≤ 8) {mk : MethodId} {maxL : Nat} (hn : U.methodNamed? y = some mk) (hY : ai_Code U mk maxL) {a : Array Value} (hpre : ∀ w ∈ Ts, w.before a U = true) (hPc : Pc a (U.calling g mk a))
    (hframes : rm.frames + 1 ≤ R.frames) (hlocals : 8 + (maxL + 11) + rm.locals ≤ R.locals) (hrc : cells + rm.cells ≤ R.cells) (hrs : slots + rm.slots ≤ R.slots) :
    ∃ (T' t st₀ : State) (L : List Loc), st₀.heap = U.heap ∧ st₀.vm = U.vm ∧ T'.heap = t.heap ∧ T'.vm = t.vm ∧ (∀ z ∈ L, B z.base) ∧ Stand p l e R s m args below meth c T' (locs ++ L) (cells + rm.cells) (slots + rm.slots) ∧
      ((∃ v, Qr st₀ v t ∧ Steps p.tables e below (doInvoke e (U.setTop g) [] mk a).1 (T'.setTop { g with pc := g.pc + len, stack := v.toList ++ g.stack })) ∨
       ∃ q, Qt st₀ q t ∧ Steps p.tables e below (doInvoke e (U.setTop g) [] mk a).1 ((T'.setTop g).pushFrame (.throwing q))) := by
  subst hg
  obtain ⟨methY, cY, kY, hmY, hcY, hlY, hkY, hiY⟩ := hY
  have h : At U g.method c below := X.here
  have happ : (headSpec Ts rm).appliesLoose y e.platform (U.calling g mk a) = true :=
    Spec.appliesLoose_calling (g := g) h hdg hn hkY hiY (X.room_calling (g := g) (R' := rm) hsize hmY hcY hframes (by rw [hlY]; omega) hrc hrs) (atoms_intro hpre)
  obtain ⟨mid, hmid⟩ := h.above
  have hfr : (U.setTop g).frames = (.java g :: mid) ++ below := by rw [State.frames_setTop' g h.top, hmid]; rfl
  obtain ⟨o, t, hsteps, -, hend, hq⟩ := Steps.callFree hM p X.admits X.cas X.clock (acts := []) hfr happ hPc trivial
  have hq : ai_End B rm.cells rm.slots Qr Qt a (U.calling g mk a) o t := hq
  rw [State.frames_setTop' g h.top] at hend
  obtain ⟨L, hL, hWt, hsm, hout⟩ := hq
  obtain ⟨e2, q2, q3, q4, q5, q6⟩ := id hsm
  have hWU : U.WarmedH t.vm := hWt
  obtain ⟨g₀, hg0⟩ := Option.isSome_iff_exists.mp h.top
  obtain ⟨r, hr⟩ := State.topJava?_eq_some.mp hg0
  obtain ⟨T', hT'⟩ : ∃ z : State, z = ({ U with heap := t.heap, slotsUsed := t.slotsUsed } : State).setVm t.vm := ⟨_, rfl⟩
  have hr' : T'.frames = .java g₀ :: r := by rw [hT']; exact hr
  have e3 : t = ({ (U.calling g mk a).setFrames t.frames with heap := t.heap, slotsUsed := t.slotsUsed } : State).setVm t.vm := by
    have z : t = ({ t with vm := (U.calling g mk a).vm } : State).setVm t.vm := rfl
    rw [e2] at z
    exact z
  have hsame : U.sameButNew ({ U with heap := t.heap, slotsUsed := t.slotsUsed } : State) L rm.cells rm.slots := by
    refine ⟨?_, q2, q3, q4, q5, q6⟩
    obtain ⟨th, hth, -⟩ := State.frames_cons hr
    show ({ U with heap := t.heap, slotsUsed := t.slotsUsed } : State) = { U.setFrames U.frames with heap := t.heap, slotsUsed := t.slotsUsed }
    rw [State.setFrames_self hth]
  have XT : Stand p l e R s g.method args below meth c T' (locs ++ L) (cells + rm.cells) (slots + rm.slots) := by
    rw [hT']
    exact ⟨X.admits, X.cas, X.clock, X.frames, X.room, X.hears, X.method, X.code, (X.here.setHeapUsed t.heap t.slotsUsed).setVm hWU.alike, X.tail, State.WarmedH.trans X.warmed hWU, X.limits, X.bytes, X.same.trans (hsame.setVm s.vm)⟩
  refine ⟨T', t, U.calling g mk a, L, rfl, rfl, by rw [hT']; rfl, by rw [hT']; rfl, hL, XT, ?_⟩
  rcases hout with ⟨v, rfl, hv⟩ | ⟨q, rfl, hv⟩
  · refine Or.inl ⟨v, hv, ?_⟩
    obtain ⟨c₂, i₂, len₂, hc₂, hd₂, hf₂⟩ := hend
    have hcc : c₂ = c := by
      have z : t.code? g.method = U.code? g.method := by rw [State.code?_eq, State.code?_eq, hWU.alike.method?]
      exact Option.some.inj (hc₂.symm.trans (z.trans h.code))
    subst hcc
    have hlen : len₂ = len := by rw [hdg] at hd₂; cases hd₂; rfl
    subst hlen
    have hs₂ : t = T'.setTop { g with pc := g.pc + len₂, stack := v.toList ++ g.stack } := by
      refine e3.trans ?_
      rw [hf₂, State.calling_eq h.top, State.setFrames_setFrames, State.setTop_of_frames _ hr', hT', hr]
      rfl
    rw [← hs₂]
    exact hsteps
  · refine Or.inr ⟨q, hv, ?_⟩
    have hf₂ : t.frames = .throwing q :: .java g :: U.frames.tail := hend
    have hs₂ : t = (T'.setTop g).pushFrame (.throwing q) := by
      refine e3.trans ?_
      rw [hf₂, State.calling_eq h.top, State.setFrames_setFrames, State.pushFrame, State.frames_setTop _ hr', State.setTop_of_frames _ hr', State.setFrames_setFrames, hT', hr]
      rfl
    rw [← hs₂]
    exact hsteps
end AIE
end
section
/-! Exceptions: made and thrown at once; passed on; caught. -/
/-- a static field of references: where it lies (below b), what it holds -/
def ai_Sw (C n d : String) (b : Nat) (U : State) : Prop := ∃ (c : ClassId) (k : Class) (i : Nat) (f : Field) (a : Nat) (cell : Cell) (v : Value), U.vm.findClass C = some c ∧ U.fieldFound? C n d = some (c, k, i, f) ∧ f.isStatic = true ∧ k.statics = some a ∧ U.heap[a]? = some cell ∧ cell.vm.isStatics = true ∧ cell.cls = c ∧ f.slot < cell.slots.size ∧ k.staticTypes[f.slot]? = some f.type ∧ a < b ∧ cell.slots[f.slot]? = some v ∧ v.isRef = true
theorem ai_Sw.moved {C n d : String} {b : Nat} {u U : State} (hvm : u.vm.Alike U.vm) (hh : ∀ q, q < b → U.heap[q]? = u.heap[q]?) (h : ai_Sw C n d b u) : ai_Sw C n d b U := by
  obtain ⟨c, k, i, f, a, cell, v, h1, h2, h3, h4, h5, h6, h7, h8, h9, h10, h11, h12⟩ := h
  obtain ⟨k', hi', he⟩ := State.fieldFound?_setVm hvm h2
  exact ⟨c, k', i, f, a, cell, v, by rw [hvm.findClass]; exact h1, hi', h3, by rw [he]; exact h4, by rw [hh a h10]; exact h5, h6, h7, h8, by rw [he]; exact h9, h10, h11, h12⟩
theorem ai_Sw.lays {C n d : String} {b : Nat} {s : State} {args : Array Value} (h : ai_Sw C n d b s) : (Cond.laysStatic C n d).before args s = true := by
  obtain ⟨c, k, i, f, a, cell, v, h1, h2, h3, h4, h5, h6, h7, h8, h9, -⟩ := h
  show (Cond.laysStatic C n d).holds args s none s [] = true
  exact Cond.laysStatic_of h1 h2 h3 h4 h5 h6 h7 h8 h9
theorem ai_Sw.ref {C n d : String} {b : Nat} {s : State} {args : Array Value} (h : ai_Sw C n d b s) : (Cond.isRef (.static C n d)).before args s = true := by
  obtain ⟨c, k, i, f, a, cell, v, h1, h2, h3, h4, h5, h6, h7, h8, h9, h10, h11, h12⟩ := h
  have he : (Term.static C n d).eval args s none [] s = some v := by
    simp [Term.eval, State.fieldNamed?, h2, h3, h4, h5, h6, h11]
  simp only [Cond.before, Cond.holds, Cond.value, he]
  cases v <;> simp_all [Value.isRef]
theorem ai_Sw.of {C n d : String} {s : State} {args : Array Value} (hl : (Cond.laysStatic C n d).before args s = true) (hr : (Cond.isRef (.static C n d)).before args s = true) : ai_Sw C n d s.heap.size s := by
  obtain ⟨c, k, i, f, a, cell, h1, h2, h3, h4, h5, h6, h7, h8, h9⟩ := Cond.laysStatic_spec hl
  obtain ⟨v, hv⟩ : ∃ v, cell.slots[f.slot]? = some v := ⟨_, Array.getElem?_eq_getElem h8⟩
  have he : (Term.static C n d).eval args s none [] s = some v := by
    simp [Term.eval, State.fieldNamed?, h2, h3, h4, h5, h6, hv]
  refine ⟨c, k, i, f, a, cell, v, h1, h2, h3, h4, h5, h6, h7, h8, h9, (Array.getElem?_eq_some_iff.mp h5).1, hv, ?_⟩
  simp only [Cond.before, Cond.holds, Cond.value, he] at hr
  cases v <;> simp_all [Value.isRef]
section AIT
variable {p : Program} {l : Launch} {e : Env} {R : Room} {s : State} {m : MethodId} {args : Array Value} {below : List Frame} {meth : Method} {c : Code} {T : State} {H : Heap} {locs : List Loc} {cells slots : Nat} {Q : State → Prop}
/-- the frame as if the method had been called just here -/
theorem ai_anew (X : Stand p l e R s m args below meth c T locs cells slots) {R' : Room} (hf : R'.frames ≤ R.frames) (hl : R'.locals ≤ R.locals) (hc : cells + R'.cells ≤ R.cells) (hs : slots + R'.slots ≤ R.slots) :
    Stand p l e R' ((T.setVm s.vm).setFrames (.invoking m args :: below)) m args below meth c T [] 0 0 := by
  obtain ⟨g₀, hfr⟩ := X.frames_eq
  have hcur : (T.setVm s.vm).cur < (T.setVm s.vm).threads.size := State.cur_lt_of_frames (s := T.setVm s.vm) hfr
  have hF : ((T.setVm s.vm).setFrames (.invoking m args :: below)).frames = .invoking m args :: below := State.frames_setFrames _ hcur
  obtain ⟨th, hth, -⟩ := State.frames_cons (s := T.setVm s.vm) hfr
  have hlim : e.platform.stackLimits (T.setVm s.vm).me = e.platform.stackLimits s.me := X.limits
  have hby : (T.setVm s.vm).me.stackBytes = s.me.stackBytes := X.bytes
  refine { admits := X.admits, cas := X.cas, clock := X.clock, frames := hF, room := ?_, hears := X.hears, method := X.method, code := X.code, here := X.here, tail := X.tail, warmed := X.warmed, limits := ?_, bytes := ?_, same := ?_ }
  · have hu : ((T.setVm s.vm).setFrames (.invoking m args :: below)).localsInUse = s.localsInUse := by
      rw [State.localsInUse_invoking hF (meth := meth) (c := c) X.method X.code, State.localsInUse_invoking X.frames X.method X.code]
    have z := X.room
    simp only [State.hasRoom, Bool.and_eq_true, decide_eq_true_eq] at z ⊢
    obtain ⟨⟨⟨⟨h1, h2, h3, h4, h5, h6⟩, h7⟩, h8⟩, h9⟩ := z
    rw [X.frames, List.length_cons] at h2 h3
    have q1 := X.heapSize
    have q2 := X.used
    simp only [hF, hu, List.length_cons, State.stackLimits_setFrames, State.stackBytes_setFrames, hlim, hby]
    refine ⟨⟨⟨⟨by omega, by omega, by omega, by omega, by omega, h6⟩, ?_⟩, ?_⟩, X.book⟩
    · show T.heap.size + R'.cells ≤ e.platform.maxCells
      omega
    · show T.slotsUsed + R'.slots ≤ e.platform.maxSlots
      omega
  · rw [State.stackLimits_setFrames]; rfl
  · rw [State.stackBytes_setFrames]; rfl
  · have hz := (State.sameButNew.refl (T.setVm s.vm) hth)
    refine ⟨?_, hz.2⟩
    show T.setVm s.vm = { ((T.setVm s.vm).setFrames (.invoking m args :: below)).setFrames (T.setVm s.vm).frames with heap := T.heap, slotsUsed := T.slotsUsed }
    rw [State.setFrames_setFrames, State.setFrames_self hth]
    rfl
theorem ai_kept {U : State} {k n : Nat} (h : s.sameButNew ({ U with vm := s.vm } : State) [] k n) : s.heap.size ≤ U.heap.size ∧ ∀ q : Nat, q < s.heap.size → U.heap[q]? = s.heap[q]? := by
  obtain ⟨-, h2, -, -, -, h6⟩ := h
  refine ⟨h2, fun q hq => ?_⟩
  obtain ⟨x, e1, e2, e3, e4⟩ := h6 q _ (Array.getElem?_eq_getElem hq)
  have hs : x.slots = (s.heap[q]).slots := Array.ext_getElem? fun i => e4 i (fun z => (nomatch z))
  have h9 : x = s.heap[q] := by
    rw [hs] at e2
    exact e2
  have e5 : U.heap[q]? = some x := e1
  rw [e5, h9, Array.getElem?_eq_getElem hq]
/-- the words of a throw that the tables alone decide -/
def ai_xt (w : Cond) : Bool := decide (w ≠ .isRef (.static Bundle.tN "UNASSIGNED_STACK" Bundle.steD)) && decide (w ≠ .isRef (.static Bundle.tN "SUPPRESSED_SENTINEL" Bundle.listD)) && decide (w ≠ .laysStatic Bundle.tN "UNASSIGNED_STACK" Bundle.steD) && decide (w ≠ .laysStatic Bundle.tN "SUPPRESSED_SENTINEL" Bundle.listD)
/-- what the row of a throw must keep: E the class, ns the classes between it and Throwable -/
def ai_tok (Ts : List Cond) (own E : String) (ns : List String) (ik ic : Nat) : Prop := Bundle.fit E = true ∧ (∀ n ∈ ns, Bundle.fit n = true) ∧ ∀ w ∈ Cond.classLink own ik E :: Cond.initialized E :: (Bundle.ownAtoms0 own ic E ns).filter ai_xt, w ∈ Ts ∧ w.onTables = true
set_option maxHeartbeats 2000000 in
theorem ai_throw_W {cc : ByteArray} {pc : Nat} {lsA : Array Slot} {rest : List Value} {Ts : List Cond} {b : Nat} (hx : p.tables.exec = Jvm.exec) (hb : c.code = cc) (hl : l.stackTraces = false) {own E : String} {ns : List String} {ik ic : Nat}
    (hown : s.vm.findClass own = some m.cls) (hts : ∀ w ∈ Ts, w.before args s = true) (hok : ai_tok Ts own E ns ik ic)
    (hU : ai_Sw Bundle.tN "UNASSIGNED_STACK" Bundle.steD b s) (hN : ai_Sw Bundle.tN "SUPPRESSED_SENTINEL" Bundle.listD b s) (hH : ∀ q, q < b → H[q]? = s.heap[q]?) (hsize : lsA.size = c.maxLocals)
    (d0 : decode cc pc = .ok (.new ik, 3)) (d3 : decode cc (pc + 3) = .ok (.dup, 1)) (d4 : decode cc (pc + 4) = .ok (.invokespecial ic, 3)) (d7 : decode cc (pc + 7) = .ok (.athrow, 1))
    (hout : ∀ x ∈ c.exceptionTable.toList, covers x (pc + 7) = false) (hlocks : meth.locks = false)
    (hRf : ns.length + 3 < R.frames) (hRl : (rest.map fun v => v.category).sum + (13 * (ns.length + 1) + 42) ≤ R.locals) (hRc : cells + 1 ≤ R.cells) (hRs : slots + 6 ≤ R.slots)
    (k : ∀ (t : State) (q : Addr) (ce : Cell), t.status = .running → Ended t below (.threw q) → s.WarmedH t.vm → s.sameButNew ({ t with vm := s.vm } : State) locs (cells + 1) (slots + 6) → H.size ≤ t.heap.size → (∀ a, a < H.size → t.heap[a]? = H[a]?) → t.heap[q]? = some ce → ce.vm = .none → s.vm.findClass E = some ce.cls → Q t) :
    W p l e R s m args below meth c H locs cells slots Q (F0 m pc lsA rest) := by
  intro T hT X
  obtain ⟨hfE, hfn, hws⟩ := hok
  have htr : e.platform.stackTraces = false := (show e.platform.stackTraces = l.stackTraces by rw [X.admits.platform]).trans hl
  have Y := ai_anew X (R' := { frames := R.frames, locals := R.locals, cells := 1, slots := 6 }) (Nat.le_refl _) (Nat.le_refl _) hRc hRs
  obtain ⟨s', hs'⟩ : ∃ z, z = (T.setVm s.vm).setFrames (.invoking m args :: below) := ⟨_, rfl⟩
  rw [← hs'] at Y
  have hvm : s.vm = s'.vm := by rw [hs']; rfl
  have hhp : s'.heap = H := by rw [hs']; exact hT
  have hW0 : s.WarmedH s'.vm := by rw [← hvm]; exact State.WarmedH.refl s
  have hw : ∀ w ∈ Cond.classLink own ik E :: Cond.initialized E :: (Bundle.ownAtoms0 own ic E ns).filter ai_xt, w.before args s' = true := fun w hw => va_tabs (hws w hw).2 hvm (hts w (hws w hw).1)
  have hk' : (Cond.classLink own ik E).before args s' = true := hw _ List.mem_cons_self
  have hini' : (Cond.initialized E).before args s' = true := hw _ (List.mem_cons_of_mem _ List.mem_cons_self)
  have hU' : ai_Sw Bundle.tN "UNASSIGNED_STACK" Bundle.steD b s' := hU.moved hW0.alike (fun q hq => by rw [hhp]; exact hH q hq)
  have hN' : ai_Sw Bundle.tN "SUPPRESSED_SENTINEL" Bundle.listD b s' := hN.moved hW0.alike (fun q hq => by rw [hhp]; exact hH q hq)
  have hall : ∀ w ∈ Bundle.ownAtoms0 own ic E ns, w.before args s' = true := by
    intro w hw1
    by_cases g : ai_xt w = true
    · exact hw w (List.mem_cons_of_mem _ (List.mem_cons_of_mem _ (List.mem_filter.mpr ⟨hw1, g⟩)))
    · by_cases e1 : w = .isRef (.static Bundle.tN "UNASSIGNED_STACK" Bundle.steD)
      · rw [e1]; exact hU'.ref
      · by_cases e2 : w = .isRef (.static Bundle.tN "SUPPRESSED_SENTINEL" Bundle.listD)
        · rw [e2]; exact hN'.ref
        · by_cases e3 : w = .laysStatic Bundle.tN "UNASSIGNED_STACK" Bundle.steD
          · rw [e3]; exact hU'.lays
          · by_cases e4 : w = .laysStatic Bundle.tN "SUPPRESSED_SENTINEL" Bundle.listD
            · rw [e4]; exact hN'.lays
            · exact absurd (by unfold ai_xt; rw [decide_eq_true e1, decide_eq_true e2, decide_eq_true e3, decide_eq_true e4]; rfl) g
  have hown' : s'.vm.findClass own = some m.cls := by rw [← hvm]; exact hown
  have hins : (Cond.instantiable E 6).before args s' = true := hall _ (by simp [Bundle.ownAtoms0])
  obtain ⟨vm₁, cX, kX, hfX, hkX, -, -, X₁, st1⟩ := Y.newCold hx (own := own) (C := E) (index := ik) (n := 6) hown' hk' hins hini' (g := F0 m pc lsA rest) rfl (by rw [hb]; exact d0) (Nat.le_refl _) (Nat.le_refl _)
  generalize hT1 : (T.setVm vm₁).pushCell { cls := cX, slots := kX.instanceTypes.map defaultValue, vm := .none } = T1 at X₁ st1
  have hcell : T1.heap[T.heap.size]? = some (freshCell cX kX) := by rw [← hT1]; exact State.heap_pushCell_size _ _
  have d3' : decode c.code (pc + 3) = .ok (.dup, 1) := by rw [hb]; exact d3
  have hcat : (Value.ref T.heap.size).category = 1 := rfl
  obtain ⟨U, hsteps, hrun, hend, hWU, hsame, ce, hce, hO⟩ := X₁.ctorThrow0 hx htr (own := own) (cls := E) (names := ns) (ic := ic) hown' hfE hfn hall (fun x hx => (nomatch hx)) hfX hkX hcell (by rw [hhp, hT]; exact Nat.le_refl _)
    (g := { method := m, pc := pc + 4, locals := lsA, stack := .ref T.heap.size :: .ref T.heap.size :: rest, locked := none }) rfl hsize rfl rfl (rest := rest) rfl
    (by rw [hb]; exact d4) (by rw [hb]; exact d7) hout hRf (by simp only [List.map_cons, List.sum_cons, hcat]; omega) hlocks
  obtain ⟨f1, f2⟩ := ai_kept hsame
  rw [hhp] at f1 f2
  have hfull : s.sameButNew ({ U with vm := s.vm } : State) locs (cells + 1) (slots + 6) := by
    subst hs'
    obtain ⟨e1, e2⟩ := hsame
    rw [State.setFrames_setFrames] at e1
    have h2 : (T.setVm s.vm).sameButNew ({ U with vm := s.vm } : State) [] (0 + 1) (0 + 6) := ⟨e1, e2⟩
    have h3 := X.same.trans h2
    rw [List.append_nil] at h3
    exact h3
  refine ⟨U, st1 _ ?_, k U T.heap.size ce hrun hend (State.WarmedH.trans hW0 hWU) hfull f1 f2 hce hO.vm (by have := hO.cls; rw [← hvm] at this; exact this)⟩
  show Steps p.tables e below (T1.setTop { method := m, pc := pc + 3, locals := lsA, stack := .ref T.heap.size :: rest, locked := none }) _
  jvm_step X₁.here [X₁.here.top, hx, d3', Value.category]
  exact hsteps
/-- rows of a method's table: (from, to, handler, catch type); which takes E at pc: names gives the classes of the catch types -/
def ai_row (own E : String) (args : Array Value) (s : State) (pc : Nat) (x : ExceptionTableEntry) (takes : Bool) : Prop :=
  x.catchType ≠ 0 ∧ ∃ nm : String, (Cond.classLink own x.catchType nm).before args s = true ∧ ∃ cE cN : ClassId, s.vm.findClass E = some cE ∧ s.vm.findClass nm = some cN ∧ s.vm.assignable cE cN = takes
theorem ai_go1 {e : Env} {S : State} {f : JFrame} {a : Addr} {x : ExceptionTableEntry} {t : List ExceptionTableEntry} {cN : ClassId} {cell : Cell} {b : Bool} (hx : covers x f.pc = true) (h0 : x.catchType ≠ 0)
    (hl : S.vm.ClassLinks e.platform f.method.cls x.catchType cN) (hcell : S.heap[a]? = some cell) (hobj : ∀ k, cell.vm ≠ .statics k)
    (hk : ∃ k, S.vm.classes[cell.cls]? = some k) (hc : ∃ k, S.vm.classes[cN]? = some k) (hb : S.vm.assignable cell.cls cN = b) (Q : Handler → Pre) (E : CtlPost) (d : Bool) (acts : List Action) :
    wp (findHandler.go f a (x :: t)) Q E e d acts S ↔ if b = true then Q (.found x.handlerPc) d acts (S.setVm (S.vm.noted f.method.cls x.catchType (.cls cN))) else wp (findHandler.go f a t) Q E e d acts (S.setVm (S.vm.noted f.method.cls x.catchType (.cls cN))) := by
  simp only [covers] at hx
  obtain ⟨ha, ht⟩ := (resolveClass_links e.toSetting hl).op (op := VmOp.resolveClass f.method.cls x.catchType) rfl
  have hal : S.vm.Alike (S.vm.noted f.method.cls x.catchType (.cls cN)) := (Vm.Alike.refl S.vm).noted _ _ _
  obtain ⟨k1, hk1⟩ := hk
  obtain ⟨k2, hk2⟩ := hc
  obtain ⟨k1', hk1', -⟩ := hal.2.2 _ _ hk1
  obtain ⟨k2', hk2', -⟩ := hal.2.2 _ _ hk2
  have hb' : (S.vm.noted f.method.cls x.catchType (.cls cN)).assignable cell.cls cN = b := by rw [hal.assignable]; exact hb
  cases b <;> simp [findHandler.go, hx, h0, ha, ht, hcell, hobj, hk1', hk2', hb', VmOp.dirties, VmOp.acts]
/-- the search, through rows that don't take E, to one that does -/
theorem ai_go {own E : String} (hown : s.vm.findClass own = some m.cls) {f : JFrame} (hf : f.method = m) {a : Addr} {cell : Cell} (hobj : ∀ k, cell.vm ≠ .statics k) (hE : s.vm.findClass E = some cell.cls) (hpl : e.platform.magicAccessors = ({} : Platform).magicAccessors)
    (x : ExceptionTableEntry) (rest : List ExceptionTableEntry) (hx : covers x f.pc = true) (hxr : ai_row own E args s f.pc x true) :
    ∀ (pre : List ExceptionTableEntry) (S : State), s.WarmedH S.vm → S.heap[a]? = some cell → (∀ z ∈ pre, covers z f.pc = false ∨ ai_row own E args s f.pc z false) →
      ∃ vm', s.WarmedH vm' ∧ ∀ (Q : Handler → Pre) (E : CtlPost) (d : Bool) (acts : List Action), wp (findHandler.go f a (pre ++ x :: rest)) Q E e d acts S ↔ Q (.found x.handlerPc) d acts (S.setVm vm') := by
  have one : ∀ (z : ExceptionTableEntry) (bb : Bool) (S : State) (ys : List ExceptionTableEntry), covers z f.pc = true → ai_row own E args s f.pc z bb → s.WarmedH S.vm → S.heap[a]? = some cell →
      ∃ vm1, s.WarmedH vm1 ∧ ∀ (Q : Handler → Pre) (E : CtlPost) (d : Bool) (acts : List Action), wp (findHandler.go f a (z :: ys)) Q E e d acts S ↔ if bb = true then Q (.found z.handlerPc) d acts (S.setVm vm1) else wp (findHandler.go f a ys) Q E e d acts (S.setVm vm1) := by
    intro z bb S ys hz ⟨h0, nm, hlk, cE, cN, h1, h2, h3⟩ hW hc
    cases hE.symm.trans h1
    obtain ⟨c5, hc5, hcl⟩ := Cond.classLink_spec hown hlk e.platform hpl
    cases h2.symm.trans hc5
    obtain ⟨dk, _, _, kt, hd, _, _, _, _, hkt, _, hopen⟩ := hcl.here
    obtain ⟨kt', hkt', -⟩ := hW.alike.2.2 _ _ hkt
    obtain ⟨k0, hk0, -⟩ := Vm.findClass_spec hE
    obtain ⟨k0', hk0', -⟩ := hW.alike.2.2 _ _ hk0
    subst hf
    exact ⟨_, hW.noted hd hopen (State.rightAt_cls hcl), ai_go1 hz h0 (hW.classLinks hcl) hc hobj ⟨k0', hk0'⟩ ⟨kt', hkt'⟩ (by rw [hW.alike.assignable]; exact h3)⟩
  intro pre
  induction pre with
  | nil =>
    intro S hW hc _
    obtain ⟨vm1, hW1, hq⟩ := one x true S rest hx hxr hW hc
    exact ⟨vm1, hW1, fun Q E d acts => by rw [List.nil_append, hq]; simp⟩
  | cons z ys ih =>
    intro S hW hc hp
    by_cases hcov : covers z f.pc = true
    · rcases hp z List.mem_cons_self with hno | hrow
      · rw [hno] at hcov; cases hcov
      · obtain ⟨vm1, hW1, hq⟩ := one z false S (ys ++ x :: rest) hcov hrow hW hc
        obtain ⟨vm2, hW2, hq2⟩ := ih (S.setVm vm1) hW1 hc (fun w hw => hp w (List.mem_cons_of_mem _ hw))
        exact ⟨vm2, hW2, fun Q E d acts => by rw [List.cons_append, hq, if_neg (by decide)]; exact hq2 Q E d acts⟩
    · obtain ⟨vm2, hW2, hq2⟩ := ih S hW hc (fun w hw => hp w (List.mem_cons_of_mem _ hw))
      exact ⟨vm2, hW2, fun Q E d acts => by rw [List.cons_append, W.findHandler_go_skip (by simpa using hcov)]; exact hq2 Q E d acts⟩
/-- caught: the frame goes on at the handler, the exception alone on its stack -/
theorem ai_catch (X : Stand p l e R s m args below meth c T locs cells slots) {own E : String} (hown : s.vm.findClass own = some m.cls) {g : JFrame} (hg : g.method = m) {a : Addr} {cell : Cell} (hcell : T.heap[a]? = some cell) (hv : cell.vm = .none) (hE : s.vm.findClass E = some cell.cls)
    (pre : List ExceptionTableEntry) (x : ExceptionTableEntry) (rest : List ExceptionTableEntry) (hsplit : c.exceptionTable.toList = pre ++ x :: rest) (hpre : ∀ z ∈ pre, covers z g.pc = false ∨ ai_row own E args s g.pc z false) (hx : covers x g.pc = true) (hxr : ai_row own E args s g.pc x true) :
    ∃ vm', Stand p l e R s m args below meth c (T.setVm vm') locs cells slots ∧ ∀ target, Steps p.tables e below ((T.setVm vm').setTop { g with pc := x.handlerPc, stack := [.ref a] }) target → Steps p.tables e below ((T.setTop g).pushFrame (.throwing a)) target := by
  subst hg
  have hpl : e.platform.magicAccessors = ({} : Platform).magicAccessors := by rw [X.admits.platform]
  obtain ⟨vm', hW', hq⟩ := ai_go (e := e) hown (f := g) rfl (a := a) (cell := cell) (fun k z => by rw [hv] at z; cases z) hE hpl x rest hx hxr pre ((T.setTop g).pushFrame (.throwing a)) X.warmed hcell hpre
  refine ⟨vm', X.noted hW', fun target hrest => ?_⟩
  obtain ⟨hgo, hwi⟩ := X.here.throwing a
  refine Steps.head hgo hwi ?_
  have hstep : (stepThrowing e ((T.setTop g).pushFrame (.throwing a)) a (.java g :: T.frames.tail)).1 = (((T.setTop g).pushFrame (.throwing a)).setVm vm').setFrames (.java { g with pc := x.handlerPc, stack := [.ref a] } :: T.frames.tail) := by
    have hm9 : ((T.setTop g).pushFrame (.throwing a)).vm.method? g.method = some meth := X.method'
    have hF : ∀ (Q : Handler → Pre) (E : CtlPost) (d : Bool) (acts : List Action), wp (findHandler g a) Q E e d acts ((T.setTop g).pushFrame (.throwing a)) ↔ Q (.found x.handlerPc) d acts (((T.setTop g).pushFrame (.throwing a)).setVm vm') := fun Q E d acts => by
      rw [W.findHandler_eq hm9 X.code, hsplit]
      exact hq Q E d acts
    simp only [stepThrowing, searchFrame, vmDo]
    generalize hr : Sem.go _ e false [] ((T.setTop g).pushFrame (.throwing a)) = res
    obtain ⟨as, rfl, ha⟩ := Sem.eq_ok_of hr (a := Handler.found x.handlerPc) (s' := ((T.setTop g).pushFrame (.throwing a)).setVm vm') (acts' := []) (by simp [hF _ _ _ _])
    rfl
  rw [stepThread_throwing (frames_entered X.here.top _), hstep]
  obtain ⟨g₀, hfr⟩ := X.frames_eq
  have hr' : (T.setVm vm').frames = .java g₀ :: below := hfr
  rw [State.setTop_of_frames _ hr'] at hrest
  rw [X.tail]
  have e9 : (((T.setTop g).pushFrame (.throwing a)).setVm vm').setFrames (.java { g with pc := x.handlerPc, stack := [.ref a] } :: below) = (T.setVm vm').setFrames (.java { g with pc := x.handlerPc, stack := [.ref a] } :: below) := by
    rw [State.pushFrame, State.setTop_of_frames _ hfr, State.setFrames_setFrames]
    show (((T.setVm vm').setFrames _).setFrames _) = _
    rw [State.setFrames_setFrames]
  rw [e9]
  exact hrest
end AIT
end
section
/-! The run of a method. -/
/-- the program: its rows; the handlers (method, counter, class thrown); a method's locals and answer; the classes' first fields; the arrays' types; the fields' types; what an array of references takes -/
abbrev ai_P : Type := (Nat → Nat → Option ai_I) × (Nat → Nat → Nat → Option (Option Nat)) × (Nat → Nat × Option FieldType) × (Nat → List ai_V) × List FieldType × (Nat → Nat → FieldType) × (Nat → Nat → Bool)
def ai_ent : List ai_V → ai_L
  | [] => []
  | v :: vs => if ai_two v = true then some v :: none :: ai_ent vs else some v :: ai_ent vs
/-- an answer -/
def ai_ret (ins : Instr) (ret : Option FieldType) (st : List ai_V) : Option (Option ai_V) := match ins with
  | .return_ => match ret, st with
    | none, [] => some none
    | _, _ => none
  | .ireturn => match ret, st with
    | some ty, [.inl x] => if ai_fit ty (.inl x) = true then some (some (.inl x)) else none
    | _, _ => none
  | .areturn => match ret, st with
    | some (.object _), [.inr (.inr r)] => some (some (.inr (.inr r)))
    | some (.array _), [.inr (.inr r)] => some (some (.inr (.inr r)))
    | _, _ => none
  | _ => none
/-- a call's arguments and what stays on the stack -/
def ai_args (ins : Instr) (ks : List Nat) (st : List ai_V) (h : ai_H) : Option (List ai_V × List ai_V) :=
  if ks.getD 1 0 ≤ st.length ∧ ai_wt (st.drop (ks.getD 1 0)) ≤ 8 then
    match ins with
    | .invokestatic _ => some ((st.take (ks.getD 1 0)).reverse, st.drop (ks.getD 1 0))
    | .invokespecial _ => match (st.take (ks.getD 1 0)).reverse with
      | .inr (.inr (some a)) :: vs => some (.inr (.inr (some a)) :: vs, st.drop (ks.getD 1 0))
      | _ => none
    | .invokevirtual _ => match (st.take (ks.getD 1 0)).reverse with
      | .inr (.inr (some a)) :: vs => match h.1 a with
        | some (.inl (cj, _)) => if cj = ks.getD 2 0 then some (.inr (.inr (some a)) :: vs, st.drop (ks.getD 1 0)) else none
        | _ => none
      | _ => none
    | _ => none
  else none
/-- an exception that was caught: a thing of number 1 -/
def ai_exc (h : ai_H) : ai_H := (ai_upd h.1 (1, h.2.1 1) (.inr (.inr 1)), (fun j => if j = 1 then h.2.1 1 + 1 else h.2.1 j), h.2.2.1, h.2.2.2)
noncomputable def ai_run (P : ai_P) (L : Nat) (xs : Nat → Int32) (call : Nat → List ai_V → ai_H → Option (ai_O × ai_H)) (mi : Nat) : Nat → Nat → ai_L → List ai_V → ai_H → Option (ai_O × ai_H)
  | 0, _, _, _, _ => none
  | n + 1, pc, ls, st, h => match P.1 mi pc with
    | none => none
    | some (kd, ins, ks) => match kd with
      | 0 => match ai_pure ins st with
        | some st' => ai_run P L xs call mi n (pc + ai_len ins) ls st' h
        | none => none
      | 1 => match ai_jmp ins pc ks st with
        | some (pc', st') => ai_run P L xs call mi n pc' ls st' h
        | none => none
      | 2 => match ai_loc ins ls st with
        | some (ls', st') => ai_run P L xs call mi n (pc + ai_len ins) ls' st' h
        | none => none
      | 3 => match ai_heap P.2.2.2.1 (fun t => P.2.2.2.2.1.getD t .float) P.2.2.2.2.2.1 P.2.2.2.2.2.2 L xs ins ks st h with
        | some (st', h') => ai_run P L xs call mi n (pc + ai_len ins) ls st' h'
        | none => none
      | 4 => match ai_args ins ks st h with
        | some (av, r) => match call (ks.getD 0 0) av h with
          | some (.inl v, h') => ai_run P L xs call mi n (pc + 3) ls (v.toList ++ r) h'
          | some (.inr x, h') => match P.2.1 mi pc x with
            | some (some pc') => if (h'.1 (1, h'.2.1 1)).isNone = true then ai_run P L xs call mi n pc' ls [.inr (.inr (some (1, h'.2.1 1)))] (ai_exc h') else none
            | some none => some (.inr x, h')
            | none => none
          | none => none
        | none => none
      | 5 => match ai_ret ins (P.2.2.1 mi).2 st with
        | some v => some (.inl v, h)
        | none => none
      | 6 => if ai_wt st ≤ 8 then some (.inr (ks.getD 0 0), (h.1, h.2.1, h.2.2.1 + 1, h.2.2.2 + 6)) else none
      | 7 => match st with
        | .inr (.inr (some _)) :: r => if ai_wt r ≤ 8 then ai_run P L xs call mi n (pc + 3) ls r h else none
        | _ => none
      | 8 => match st with
        | .inl y :: .inl x :: r => if ai_wt r ≤ 8 then ai_run P L xs call mi n (pc + 3) ls (.inl (if x < y then y else x) :: r) h else none
        | _ => none
      | 9 => match st with
        | .inl y :: .inl x :: r => if ai_wt r ≤ 8 then ai_run P L xs call mi n (pc + 3) ls (.inl (if y < x then y else x) :: r) h else none
        | _ => none
      | 10 => match ai_ext (fun t => P.2.2.2.2.1.getD t .float) P.2.2.2.2.2.2 pc ks st h with
        | some (pc', st', h') => ai_run P L xs call mi n pc' ls st' h'
        | none => none
      | _ => none
noncomputable def ai_call (P : ai_P) (L : Nat) (xs : Nat → Int32) (N : Nat) : Nat → Nat → List ai_V → ai_H → Option (ai_O × ai_H)
  | 0, _, _, _ => none
  | d + 1, mi, av, h => if (ai_ent av).length ≤ (P.2.2.1 mi).1 then ai_run P L xs (ai_call P L xs N d) mi N 0 (ai_ent av ++ List.replicate ((P.2.2.1 mi).1 - (ai_ent av).length) none) [] h else none
/-- words that stay true: of the tables alone -/
def ai_good : Cond → Bool
  | .arrayClass _ => true
  | .arrayOver (.object _) => true
  | .fieldLinkNest _ _ _ _ _ _ => true
  | .methodLinkNest _ _ _ _ => true
  | .not (.castable _ _) => true
  | w => w.onTables && w.keepsFace
theorem ai_word {args a' : Array Value} {s U : State} {w : Cond} (hW : s.WarmedH U.vm) (hg : ai_good w = true) (h : w.before args s = true) : w.before a' U = true := by
  have gen : w.onTables = true → w.keepsFace = true → w.before a' U = true := fun h1 h2 =>
    va_tabs h1 (rfl : (s.setVm U.vm).vm = U.vm) (Cond.before_shiftedFace (State.Shifted.of_warmed hW) w h2 h)
  unfold ai_good at hg
  split at hg
  · exact word_at hW (Or.inr ⟨_, rfl⟩) h
  · exact va_AO.use (va_AO.moved hW.alike (va_AO.of h))
  · exact va_Nw.use rfl (va_Nw.warmF hW (va_Nw.of rfl h))
  · exact va_Nw.use rfl (va_Nw.warmM hW (va_Nw.of rfl h))
  · rename_i a b
    have h1 : (Cond.not (.castable a b)).before args (s.setVm U.vm) = true := Cond.castAtom_setVm hW.alike _ rfl h
    exact h1
  · simp only [Bool.and_eq_true] at hg
    exact gen hg.1 hg.2
theorem ai_heap_mono {dfl : Nat → List ai_V} {tyA : Nat → FieldType} {tyF : Nat → Nat → FieldType} {asg : Nat → Nat → Bool} {L : Nat} {xs : Nat → Int32} {ins : Instr} {ks : List Nat} {st st' : List ai_V} {h h' : ai_H} (hp : ai_heap dfl tyA tyF asg L xs ins ks st h = some (st', h')) : h.2.2.1 ≤ h'.2.2.1 ∧ h.2.2.2 ≤ h'.2.2.2 := by
  have same : h' = h → h.2.2.1 ≤ h'.2.2.1 ∧ h.2.2.2 ≤ h'.2.2.2 := fun z => by rw [z]; exact ⟨Nat.le_refl _, Nat.le_refl _⟩
  have put : ∀ a x, h' = ai_put h a x → h.2.2.1 ≤ h'.2.2.1 ∧ h.2.2.2 ≤ h'.2.2.2 := fun a x z => by rw [z]; exact ⟨Nat.le_refl _, Nat.le_refl _⟩
  have new : ∀ s x n, h' = ai_new h s x n → h.2.2.1 ≤ h'.2.2.1 ∧ h.2.2.2 ≤ h'.2.2.2 := fun s x n z => by rw [z]; exact ⟨Nat.le_succ _, Nat.le_add_right _ _⟩
  unfold ai_heap at hp
  repeat' split at hp
  all_goals first
    | (cases hp; done)
    | (cases hp; exact same rfl)
    | (cases hp; exact put _ _ rfl)
    | (cases hp; exact new _ _ _ rfl)
    | (obtain ⟨v, hv, hz⟩ := Option.map_eq_some_iff.mp hp; cases hz; exact same rfl)
theorem ai_ext_mono {tyA : Nat → FieldType} {asg : Nat → Nat → Bool} {pc pc' : Nat} {ks : List Nat} {st st' : List ai_V} {h h' : ai_H} (hp : ai_ext tyA asg pc ks st h = some (pc', st', h')) : h.2.2.1 ≤ h'.2.2.1 ∧ h.2.2.2 ≤ h'.2.2.2 := by
  have same : h' = h → h.2.2.1 ≤ h'.2.2.1 ∧ h.2.2.2 ≤ h'.2.2.2 := fun z => by rw [z]; exact ⟨Nat.le_refl _, Nat.le_refl _⟩
  have put : ∀ a x, h' = ai_put h a x → h.2.2.1 ≤ h'.2.2.1 ∧ h.2.2.2 ≤ h'.2.2.2 := fun a x z => by rw [z]; exact ⟨Nat.le_refl _, Nat.le_refl _⟩
  unfold ai_ext at hp
  repeat' split at hp
  all_goals first
    | (cases hp; done)
    | (cases hp; exact same rfl)
    | (cases hp; exact put _ _ rfl)
theorem ai_run_mono {P : ai_P} {L : Nat} {xs : Nat → Int32} {call : Nat → List ai_V → ai_H → Option (ai_O × ai_H)} (hcall : ∀ mi av h o h', call mi av h = some (o, h') → h.2.2.1 ≤ h'.2.2.1 ∧ h.2.2.2 ≤ h'.2.2.2) {mi : Nat} :
    ∀ n pc ls st h o h', ai_run P L xs call mi n pc ls st h = some (o, h') → h.2.2.1 ≤ h'.2.2.1 ∧ h.2.2.2 ≤ h'.2.2.2 := by
  intro n
  induction n with
  | zero => intro pc ls st h o h' hr; cases hr
  | succ n ih =>
    intro pc ls st h o h' hr
    unfold ai_run at hr
    split at hr
    · cases hr
    · split at hr
      · split at hr
        · exact ih _ _ _ _ _ _ hr
        · cases hr
      · split at hr
        · exact ih _ _ _ _ _ _ hr
        · cases hr
      · split at hr
        · exact ih _ _ _ _ _ _ hr
        · cases hr
      · split at hr
        · rename_i hh
          have h1 := ai_heap_mono hh
          have h2 := ih _ _ _ _ _ _ hr
          omega
        · cases hr
      · split at hr
        · split at hr
          · rename_i hh
            have h1 := hcall _ _ _ _ _ hh
            have h2 := ih _ _ _ _ _ _ hr
            omega
          · rename_i hh
            have h1 := hcall _ _ _ _ _ hh
            split at hr
            · split at hr
              · have h2 := ih _ _ _ _ _ _ hr
                simp only [ai_exc] at h2
                omega
              · cases hr
            · cases hr
              exact h1
            · cases hr
          · cases hr
        · cases hr
      · split at hr
        · cases hr
          exact ⟨Nat.le_refl _, Nat.le_refl _⟩
        · cases hr
      · split at hr
        · cases hr
          exact ⟨Nat.le_succ _, Nat.le_add_right _ _⟩
        · cases hr
      · split at hr
        · split at hr
          · exact ih _ _ _ _ _ _ hr
          · cases hr
        · cases hr
      · split at hr
        · split at hr
          · exact ih _ _ _ _ _ _ hr
          · cases hr
        · cases hr
      · split at hr
        · split at hr
          · exact ih _ _ _ _ _ _ hr
          · cases hr
        · cases hr
      · split at hr
        · rename_i hh
          have h1 := ai_ext_mono hh
          have h2 := ih _ _ _ _ _ _ hr
          omega
        · cases hr
      · cases hr
theorem ai_call_mono {P : ai_P} {L : Nat} {xs : Nat → Int32} {N : Nat} : ∀ d mi av h o h', ai_call P L xs N d mi av h = some (o, h') → h.2.2.1 ≤ h'.2.2.1 ∧ h.2.2.2 ≤ h'.2.2.2 := by
  intro d
  induction d with
  | zero => intro mi av h o h' hr; cases hr
  | succ d ih =>
    intro mi av h o h' hr
    unfold ai_call at hr
    split at hr
    · exact ai_run_mono ih _ _ _ _ _ _ _ hr
    · cases hr
end
section
/-! What calls must keep; the step that finds the callee. -/
abbrev ai_M : Type := Nat → Option (MethodName × ByteArray × List (Nat × Nat × Nat × Nat))
def ai_lnk (Ts : List Cond) (own : String) (idx : Nat) (y : MethodName) : Prop := Cond.methodLink own idx y ∈ Ts ∨ ∃ host, Cond.methodLinkNest own idx y host ∈ Ts
/-- a call's row: y the callee, n its parameters -/
def ai_iok (Ts : List Cond) (cl : List vw_C) (own : String) (y : MethodName) (n : Nat) (ins : Instr) (ks : List Nat) : Prop := match ins with
  | .invokestatic idx => ks.getD 1 0 = n ∧ Cond.static y ∈ Ts ∧ ai_lnk Ts own idx y
  | .invokespecial idx => ks.getD 1 0 = n + 1 ∧ y.name = "<init>" ∧ Cond.instanceMethod y ∈ Ts ∧ ai_lnk Ts own idx y
  | .invokevirtual idx => ks.getD 1 0 = n + 1 ∧ Cond.instanceMethod y ∈ Ts ∧ ai_lnk Ts own idx y ∧ ∃ (C : String) (T : u_T) (N : Nat), cl[ks.getD 2 0]? = some (C, T, N) ∧ Cond.selects C y y ∈ Ts
  | _ => False
theorem ai_args_spec {ins : Instr} {ks : List Nat} {st av r : List ai_V} {h : ai_H} (hp : ai_args ins ks st h = some (av, r)) : st = av.reverse ++ r ∧ av.length = ks.getD 1 0 ∧ ai_wt r ≤ 8 ∧ (∀ idx, ins = .invokespecial idx → ∃ a vs, av = .inr (.inr (some a)) :: vs) ∧ (∀ idx, ins = .invokevirtual idx → ∃ a vs fs, av = .inr (.inr (some a)) :: vs ∧ h.1 a = some (.inl (ks.getD 2 0, fs))) := by
  unfold ai_args at hp
  split at hp
  · rename_i hc
    obtain ⟨h1, h2⟩ := hc
    have base : ∀ {av r : List ai_V}, (st.take (ks.getD 1 0)).reverse = av → st.drop (ks.getD 1 0) = r → st = av.reverse ++ r ∧ av.length = ks.getD 1 0 ∧ ai_wt r ≤ 8 := by
      intro av r e1 e2
      subst e1; subst e2
      refine ⟨by rw [List.reverse_reverse, List.take_append_drop], by rw [List.length_reverse, List.length_take]; omega, h2⟩
    split at hp
    · cases hp
      obtain ⟨b1, b2, b3⟩ := base rfl rfl
      exact ⟨b1, b2, b3, fun _ z => (nomatch z), fun _ z => (nomatch z)⟩
    · split at hp
      · rename_i a vs hv
        cases hp
        obtain ⟨b1, b2, b3⟩ := base hv rfl
        exact ⟨b1, b2, b3, fun _ _ => ⟨a, vs, rfl⟩, fun _ z => (nomatch z)⟩
      · cases hp
    · split at hp
      · rename_i a vs hv
        split at hp
        · rename_i cj fs ha
          split at hp
          · rename_i hcj
            cases hp
            subst hcj
            obtain ⟨b1, b2, b3⟩ := base hv rfl
            exact ⟨b1, b2, b3, fun _ z => (nomatch z), fun _ _ => ⟨a, vs, fs, rfl, ha⟩⟩
          · cases hp
        · cases hp
      · cases hp
    · cases hp
  · cases hp
section AIL
variable {p : Program} {l : Launch} {e : Env} {R : Room} {s : State} {m : MethodId} {args : Array Value} {below : List Frame} {meth : Method} {c : Code} {T : State} {H : Heap} {locs : List Loc} {cells slots : Nat}
variable {cc : ByteArray} {pc : Nat} {lsA : Array Slot} {ρ : ai_A → Nat} {D : va_G} {cl : List vw_C} {dA : Nat → ClassId} {B : Nat → Prop} {h : ai_H} {Ts : List Cond} {own : String} {ks : List Nat}
/-- the callee's code, by its word -/
def ai_cw (Ts : List Cond) (y : MethodName) (cY : ByteArray) (maxL : Nat) (ret : Option FieldType) (hh : List (Nat × Nat × Nat × Nat)) : Prop := (hh = [] ∧ Cond.code y cY maxL ret ∈ Ts) ∨ Cond.codeWith y cY maxL ret hh ∈ Ts
theorem ai_cw_spec {U : State} {a : Array Value} {y : MethodName} {cY : ByteArray} {maxL : Nat} {ret : Option FieldType} {hh : List (Nat × Nat × Nat × Nat)} (hts : ∀ w ∈ Ts, w.before a U = true) (hw : ai_cw Ts y cY maxL ret hh) :
    ∃ mk methY cd, U.methodNamed? y = some mk ∧ U.vm.method? mk = some methY ∧ methY.code = some cd ∧ cd.code = cY ∧ cd.maxLocals = maxL ∧ cd.exceptionTable.toList.map (fun x => (x.startPc, x.endPc, x.handlerPc, x.catchType)) = hh ∧ methY.sig.returnType = ret ∧ methY.locks = false ∧ parseMethodDescriptor y.desc = some methY.sig := by
  rcases hw with ⟨rfl, hw⟩ | hw
  · obtain ⟨mk, hn⟩ := Cond.code_named (hts _ hw)
    obtain ⟨methY, cd, h1, h2, h3, h4, h5, h6, h7, h8⟩ := Cond.code_spec hn (hts _ hw)
    refine ⟨mk, methY, cd, hn, h1, h2, h3, h4, ?_, h5, h6, h8⟩
    have : cd.exceptionTable.toList = [] := by simpa using h7
    rw [this]
    rfl
  · obtain ⟨mk, methY, cd, hn, h1, h2, h3, h4, h5, h6, h7, h8⟩ := Cond.codeWith_spec (hts _ hw)
    exact ⟨mk, methY, cd, hn, h1, h2, h3, h4, h5, h6, h7, h8⟩
set_option maxHeartbeats 2000000 in
theorem ai_find (X : Stand p l e R s m args below meth c T locs cells slots) (hx : p.tables.exec = Jvm.exec) (hb : c.code = cc) (hts : ∀ w ∈ Ts, w.before args s = true) (hown : s.vm.findClass own = some m.cls) {tys : List (ClassId × FieldType)} (hK : va_K D cl tys s) (hT : T.heap = H) (hR : ai_R D cl dA B ρ h H)
    {y : MethodName} {n : Nat} {ins : Instr} {st av r : List ai_V} {cY : ByteArray} {maxL : Nat} {ret : Option FieldType} {hh : List (Nat × Nat × Nat × Nat)} (hp : ai_args ins ks st h = some (av, r)) (hok : ai_iok Ts cl own y n ins ks) (hn : (parseMethodDescriptor y.desc).map (fun d => d.parameters.length) = some n)
    (hcw : ai_cw Ts y cY maxL ret hh) (hin : y.name = "<init>" → hh = [] ∧ ret = none ∧ Cond.code y cY maxL none ∈ Ts) (hini : Cond.initialized y.cls ∈ Ts) (hy : y.cls ≠ "java/lang/invoke/MethodHandle" ∧ y.cls ≠ "java/lang/invoke/VarHandle") (hd : decode cc pc = .ok (ins, 3)) :
    ∃ mk vm₁, s.methodNamed? y = some mk ∧ s.WarmedH vm₁ ∧ Stand p l e R s m args below meth c (T.setVm vm₁) locs cells slots ∧
      ∀ target, Steps p.tables e below (doInvoke e ((T.setVm vm₁).setTop (F0 m pc lsA (r.map (ai_v ρ)))) [] mk (av.map (ai_v ρ)).toArray).1 target → Steps p.tables e below (T.setTop (F0 m pc lsA (st.map (ai_v ρ)))) target := by
  obtain ⟨a1, a2, a3, a4, a5⟩ := ai_args_spec hp
  obtain ⟨mk, methY, cd, hnm, hm, hcd, hcb, hcm, hce, hcr, hcl, hcs⟩ := ai_cw_spec hts hcw
  have hnp : n = methY.sig.parameters.length := by
    rw [hcs] at hn
    exact (Option.some.inj hn).symm
  subst a1
  cases ins
  case invokestatic idx =>
    obtain ⟨g1, g2, g3⟩ := hok
    have hstat : methY.isStatic = true := Cond.static_spec hnm hm (hts _ g2)
    obtain ⟨kP, hkP, -⟩ := className_of_methodNamed hnm
    have hiP : kP.init = .initialized := Cond.initialized_spec (findClass_of_methodNamed hnm) hkP (hts _ hini)
    have hstack : (F0 m pc lsA ((av.reverse ++ r).map (ai_v ρ))).stack = (av.map (ai_v ρ)).reverse ++ r.map (ai_v ρ) := by simp
    have hlen : (av.map (ai_v ρ)).length = methY.sig.parameters.length := by rw [List.length_map, a2, g1, hnp]
    rcases g3 with g3 | ⟨host, g3⟩
    · obtain ⟨vm₁, X₁, st₁⟩ := X.invokestatic hx hown (hts _ g3) hnm hm hstat hkP hiP hy (g := F0 m pc lsA ((av.reverse ++ r).map (ai_v ρ))) rfl hlen hstack (by rw [hb]; exact hd)
      exact ⟨mk, vm₁, hnm, X₁.warmed, X₁, fun target hr => st₁ _ fun acts => by rw [doInvoke_state]; exact hr⟩
    · obtain ⟨vm₁, X₁, st₁⟩ := X.invokestaticNest hx hown (hts _ g3) hnm hm hstat hkP hiP hy (g := F0 m pc lsA ((av.reverse ++ r).map (ai_v ρ))) rfl hlen hstack (by rw [hb]; exact hd)
      exact ⟨mk, vm₁, hnm, X₁.warmed, X₁, fun target hr => st₁ _ fun acts => by rw [doInvoke_state]; exact hr⟩
  case invokespecial idx =>
    obtain ⟨g1, g2, g4, g3⟩ := hok
    obtain ⟨a, vs, rfl⟩ := a4 idx rfl
    obtain ⟨i1, i2, i3⟩ := hin g2
    have hpl : e.platform.magicAccessors = ({} : Platform).magicAccessors := by rw [X.admits.platform]
    have hstack : (F0 m pc lsA (((Sum.inr (Sum.inr (some a)) :: vs).reverse ++ r).map (ai_v ρ))).stack = (vs.map (ai_v ρ)).reverse ++ .ref (ρ a) :: r.map (ai_v ρ) := by simp [ai_v]
    have hlen : ∀ sig, parseMethodDescriptor y.desc = some sig → (vs.map (ai_v ρ)).length = sig.parameters.length := by
      intro sig hs
      cases hcs.symm.trans hs
      rw [List.length_map, ← hnp]
      have : vs.length + 1 = n + 1 := by rw [← g1, ← a2, List.length_cons]
      omega
    rcases g3 with g3 | ⟨host, g3⟩
    · obtain ⟨mk', methM, cM, kP, vm₁, hnamed, hmethM, hcodeM, -, hlocalsM, -, hkP, -, hW₁, st₁⟩ := Steps.initColdArgs (e := e) X.here hx X.warmed hpl hown g2 hy (hts _ g3) (hts _ g4) (hts _ i3) (f := F0 m pc lsA (((Sum.inr (Sum.inr (some a)) :: vs).reverse ++ r).map (ai_v ρ))) rfl hlen hstack (by rw [hb]; exact hd)
      cases hnm.symm.trans hnamed
      exact ⟨mk, vm₁, hnm, hW₁, X.noted hW₁, fun target hr => st₁ _ fun acts => by rw [doInvoke_state]; exact hr⟩
    · obtain ⟨mk', methM, cM, kP, vm₁, hnamed, hmethM, hcodeM, -, hlocalsM, -, hkP, -, hW₁, st₁⟩ := Steps.initColdArgsNest (e := e) X.here hx X.warmed hpl hown g2 hy (hts _ g3) (hts _ g4) (hts _ i3) (f := F0 m pc lsA (((Sum.inr (Sum.inr (some a)) :: vs).reverse ++ r).map (ai_v ρ))) rfl hlen hstack (by rw [hb]; exact hd)
      cases hnm.symm.trans hnamed
      exact ⟨mk, vm₁, hnm, hW₁, X.noted hW₁, fun target hr => st₁ _ fun acts => by rw [doInvoke_state]; exact hr⟩
  case invokevirtual idx =>
    obtain ⟨g1, g4, g3, C, T0, N, g5, g6⟩ := hok
    obtain ⟨a, vs, fs, rfl, ha⟩ := a5 idx rfl
    obtain ⟨mk', methM, hnamed, hmethM, hstM, habM⟩ := Cond.instanceMethod_spec (hts _ g4)
    cases hnm.symm.trans hnamed
    cases hm.symm.trans hmethM
    obtain ⟨dom, h1, hP, hD, hc⟩ := hR
    obtain ⟨j, -, hj⟩ := ai_R.idx (D := D) (cl := cl) (dA := dA) (ρ := ρ) h1 ha rfl
    obtain ⟨cellB, hcB, hoB, hclB⟩ := va_recv hK hP g5 hj
    obtain ⟨c2, r2, m2, q1, q2, q3, q4, kP, hkP, hkPi⟩ := Cond.selects_spec (hts _ g6)
    cases hclB.symm.trans q1
    cases (State.methodFound?_of_named hnm hy).symm.trans q2
    cases hnm.symm.trans q3
    have hselP : selectMethod e.platform s.vm cellB.cls mk = .method mk := by rw [Launch.admits_selectMethod X.admits]; exact q4
    have hstack : (F0 m pc lsA (((Sum.inr (Sum.inr (some a)) :: vs).reverse ++ r).map (ai_v ρ))).stack = (vs.map (ai_v ρ)).reverse ++ .ref (ρ a) :: r.map (ai_v ρ) := by simp [ai_v]
    have hlen : (vs.map (ai_v ρ)).length = methY.sig.parameters.length := by
      rw [List.length_map, ← hnp]
      have : vs.length + 1 = n + 1 := by rw [← g1, ← a2, List.length_cons]
      omega
    rcases g3 with g3 | ⟨host, g3⟩
    · obtain ⟨vm₁, X₁, st₁⟩ := X.invokevirtual hx hown (hts _ g3) hnm hm hstM hkP hkPi hy (a := ρ a) (cell := cellB) (by rw [hT]; exact hcB) (fun z h => by rw [h] at hoB; cases hoB) hselP hm habM hkP hkPi (g := F0 m pc lsA (((Sum.inr (Sum.inr (some a)) :: vs).reverse ++ r).map (ai_v ρ))) rfl hlen hstack (by rw [hb]; exact hd)
      exact ⟨mk, vm₁, hnm, X₁.warmed, X₁, fun target hr => st₁ _ fun acts => by rw [doInvoke_state]; exact hr⟩
    · obtain ⟨vm₁, X₁, st₁⟩ := X.invokevirtualNest hx hown (hts _ g3) hnm hm hstM hkP hkPi hy (a := ρ a) (cell := cellB) (by rw [hT]; exact hcB) (fun z h => by rw [h] at hoB; cases hoB) hselP hm habM hkP hkPi (g := F0 m pc lsA (((Sum.inr (Sum.inr (some a)) :: vs).reverse ++ r).map (ai_v ρ))) rfl hlen hstack (by rw [hb]; exact hd)
      exact ⟨mk, vm₁, hnm, X₁.warmed, X₁, fun target hr => st₁ _ fun acts => by rw [doInvoke_state]; exact hr⟩
  all_goals exact absurd hok (fun z => z)
end AIL
end
section
/-! What was there before the law began: the script (0), the empty array of lists (2), the class of arrays of objects (3). -/
def ai_scr (b0 L : Nat) (xs : Nat → Int32) (ρ : ai_A → Nat) (h : ai_H) (U : State) : Prop :=
  (∀ a, h.1 a = some (.inr (.inr 0)) → va_X (ρ a) L xs U U.heap ∧ ρ a < b0) ∧
  (∀ a, h.1 a = some (.inr (.inr 2)) → va_Z "java/util/ArrayList" "DEFAULTCAPACITY_EMPTY_ELEMENTDATA" "[Ljava/lang/Object;" (.ref (ρ a)) (fun q => b0 ≤ q) U U.heap ∧ va_T (.object "java/lang/Object") (ρ a) 0 (fun _ => .null) (fun q => b0 ≤ q) U U.heap) ∧
  ∀ a, h.1 a = some (.inr (.inr 3)) → va_Mi "[Ljava/lang/Object;" (ρ a) U
/-- from one heap to a later one -/
def ai_ex (h : ai_H) (ρ : ai_A → Nat) (h' : ai_H) (ρ' : ai_A → Nat) : Prop := ai_le h ρ ρ' ∧ (∀ b, (h.1 b).isSome = true → (h'.1 b).isSome = true) ∧ ∀ b k, k ≠ 1 → h'.1 b = some (.inr (.inr k)) → h.1 b = some (.inr (.inr k))
theorem ai_ex.refl {h : ai_H} {ρ : ai_A → Nat} : ai_ex h ρ h ρ := ⟨fun _ _ => rfl, fun _ z => z, fun _ _ _ z => z⟩
theorem ai_ex.trans {h h1 h2 : ai_H} {ρ ρ1 ρ2 : ai_A → Nat} (a : ai_ex h ρ h1 ρ1) (b : ai_ex h1 ρ1 h2 ρ2) : ai_ex h ρ h2 ρ2 :=
  ⟨fun q z => (b.1 q (a.2.1 q z)).trans (a.1 q z), fun q z => b.2.1 q (a.2.1 q z), fun q k hk z => a.2.2 q k hk (b.2.2 q k hk z)⟩
theorem ai_ex.ok {h h1 : ai_H} {ρ ρ1 : ai_A → Nat} (a : ai_ex h ρ h1 ρ1) {v : ai_V} (hv : ai_ok h v) : ai_ok h1 v := fun q z => a.2.1 q (hv q z)
theorem ai_scr.step {b0 L : Nat} {xs : Nat → Int32} {ρ ρ1 : ai_A → Nat} {h h1 : ai_H} {U : State} (k : ai_scr b0 L xs ρ h U) (x : ai_ex h ρ h1 ρ1) : ai_scr b0 L xs ρ1 h1 U := by
  refine ⟨fun a ha => ?_, fun a ha => ?_, fun a ha => ?_⟩
  · have h0 := x.2.2 a 0 (by decide) ha
    rw [x.1 a (by rw [h0]; rfl)]
    exact k.1 a h0
  · have h0 := x.2.2 a 2 (by decide) ha
    rw [x.1 a (by rw [h0]; rfl)]
    exact k.2.1 a h0
  · have h0 := x.2.2 a 3 (by decide) ha
    rw [x.1 a (by rw [h0]; rfl)]
    exact k.2.2 a h0
theorem ai_scr.moved {b0 L : Nat} {xs : Nat → Int32} {ρ : ai_A → Nat} {h : ai_H} {u U : State} (k : ai_scr b0 L xs ρ h u) (hvm : u.vm.Alike U.vm) (hh : ∀ q, q < b0 → U.heap[q]? = u.heap[q]?) : ai_scr b0 L xs ρ h U := by
  refine ⟨fun a ha => ?_, fun a ha => ?_, fun a ha => ?_⟩
  · obtain ⟨k1, k2⟩ := k.1 a ha
    exact ⟨(k1.kept (hh _ k2)).moved hvm, k2⟩
  · obtain ⟨k1, k2⟩ := k.2.1 a ha
    exact ⟨(k1.kept (fun q _ z => hh q (by omega))).moved hvm, (k2.kept (fun q _ z => hh q (by omega))).moved hvm⟩
  · exact (k.2.2 a ha).moved hvm
def ai_gc : MethodName := ⟨"java/lang/Object", "getClass", "()Ljava/lang/Class;"⟩
/-- what a row of kind 10 must keep -/
def ai_xok (Ts : List Cond) (own : String) (pc len : Nat) (ins : Instr) (ks : List Nat) : Prop := match ks.getD 0 0 with
  | 0 => len = 3 ∧ ∃ idx, ins = .getstatic idx ∧ Cond.fieldLink own idx "java/util/ArrayList" "DEFAULTCAPACITY_EMPTY_ELEMENTDATA" "[Ljava/lang/Object;" ∈ Ts
  | 1 => len = 2 ∧ ∃ idx, ins = .ldc idx ∧ Cond.classLink own idx "[Ljava/lang/Object;" ∈ Ts
  | 2 => len = 3 ∧ ∃ idx, ins = .invokevirtual idx ∧ Cond.methodLink own idx ai_gc ∈ Ts ∧ Cond.declares ai_gc ∈ Ts ∧ Cond.selects "[Ljava/lang/Object;" ai_gc ai_gc ∈ Ts ∧ Cond.instanceMethod ai_gc ∈ Ts ∧ Cond.native ai_gc ∈ Ts
  | 3 => len = 3 ∧ ∃ off, ins = .if_acmp .eq off ∧ (pc : Int) + off = (ks.getD 1 0 : Nat)
  | 4 => len = 3 ∧ ∃ off, ins = .if_acmp .ne off ∧ (pc : Int) + off = (ks.getD 1 0 : Nat)
  | 5 => len = 3 ∧ ∃ idx, ins = .invokestatic idx ∧ Cond.methodLink own idx arraycopyName ∈ Ts ∧ Cond.native arraycopyName ∈ Ts ∧ Cond.static arraycopyName ∈ Ts ∧ Cond.initialized "java/lang/System" ∈ Ts
  | 6 => len = 3 ∧ ∃ idx, ins = .invokestatic idx ∧ Cond.methodLink own idx arraycopyName ∈ Ts ∧ Cond.native arraycopyName ∈ Ts ∧ Cond.static arraycopyName ∈ Ts ∧ Cond.initialized "java/lang/System" ∈ Ts
  | _ => False
theorem ai_wt_eq {ρ : ai_A → Nat} : ∀ st : List ai_V, ((st.map (ai_v ρ)).map fun v => v.category).sum = ai_wt st
  | [] => rfl
  | v :: vs => by
    simp only [List.map_cons, List.sum_cons, ai_wt, ai_wt_eq vs]
    congr 1
    rcases v with x | x | _ | a <;> rfl
theorem ai_is2_eq {z : ai_C} (h : ai_is2 z = true) : z = .inr (.inr 2) := by
  unfold ai_is2 at h
  split at h
  · rfl
  · cases h
/-- two references that are told apart are apart -/
theorem ai_same_spec {D : va_G} {cl : List vw_C} {dA : Nat → ClassId} {b0 L : Nat} {xs : Nat → Int32} {ρ : ai_A → Nat} {h : ai_H} {H : Heap} {U : State} (hR : ai_R D cl dA (fun q => b0 ≤ q) ρ h H) (hsc : ai_scr b0 L xs ρ h U) {x y : Option ai_A} {q : Bool} (hs : ai_same h x y = some q) : (x.map ρ = y.map ρ) ↔ q = true := by
  obtain ⟨dom, h1, hP, hD, hc⟩ := hR
  have big : ∀ {a : ai_A} {z : ai_C}, h.1 a = some z → ai_solid z = true → b0 ≤ ρ a := by
    intro a z ha hz
    obtain ⟨k, -, hk⟩ := ai_R.idx (D := D) (cl := cl) (dA := dA) (ρ := ρ) h1 ha hz
    exact hD.2 k _ hk
  have low : ∀ {a : ai_A}, h.1 a = some (.inr (.inr 2)) → ¬ b0 ≤ ρ a := fun ha => (hsc.2.1 _ ha).2.out
  have inj : ∀ {a b : ai_A} {z w : ai_C}, h.1 a = some z → ai_solid z = true → h.1 b = some w → ai_solid w = true → ρ a = ρ b → a = b := by
    intro a b z w ha hz hb hw e
    obtain ⟨k, k0, hk⟩ := ai_R.idx (D := D) (cl := cl) (dA := dA) (ρ := ρ) h1 ha hz
    obtain ⟨j, j0, hj⟩ := ai_R.idx (D := D) (cl := cl) (dA := dA) (ρ := ρ) h1 hb hw
    have := hD.1 k j _ _ hk hj e
    subst this
    exact Option.some.inj (k0.symm.trans j0)
  unfold ai_same at hs
  split at hs
  · cases hs; simp
  · cases hs; simp
  · cases hs; simp
  · rename_i a b
    split at hs
    · rename_i hab
      cases hs
      subst hab
      simp
    · rename_i hab
      split at hs
      · rename_i z w ha hb
        split at hs
        · rename_i hzw
          cases hs
          simp only [Option.map_some, Option.some.injEq, Bool.false_eq_true, iff_false]
          intro e9
          rcases hzw with ⟨q1, q2⟩ | ⟨q1, q2⟩ | ⟨q1, q2⟩
          · exact hab (inj ha q1 hb q2 e9)
          · have q3 := low (ai_is2_eq q2 ▸ hb)
            have q4 := big ha q1
            omega
          · have q3 := low (ai_is2_eq q1 ▸ ha)
            have q4 := big hb q2
            omega
        · cases hs
      · cases hs
theorem ai_cpy_map {ρ : ai_A → Nat} (f g : Nat → Option ai_A) (sp dp n : Nat) : va_cpy (fun j => (f j).map ρ) (fun j => (g j).map ρ) sp dp n = fun j => (va_cpy f g sp dp n j).map ρ := by
  funext j
  simp only [va_cpy]
  split <;> rfl
theorem ai_cpy_cok {h : ai_H} {t0 n0 t n : Nat} {f g : Nat → Option ai_A} {sp dp k : Nat} (hf : ai_cok h (.inr (.inl (t0, n0, .inr (.inr f))))) (hg : ai_cok h (.inr (.inl (t, n, .inr (.inr g))))) : ai_cok h (.inr (.inl (t, n, .inr (.inr (va_cpy f g sp dp k))))) := by
  intro j a ha
  simp only [va_cpy] at ha
  split at ha
  · exact hf _ a ha
  · exact hg _ a ha
theorem ai_obj_ex {ty : FieldType} (h : ai_obj ty = true) : ∃ E, ty = .object E := by
  cases ty <;> first | exact ⟨_, rfl⟩ | (cases h; done)
section AIX
variable {p : Program} {l : Launch} {e : Env} {R : Room} {s : State} {m : MethodId} {args : Array Value} {below : List Frame} {meth : Method} {c : Code} {H : Heap} {locs : List Loc} {cells slots : Nat} {Q : State → Prop}
variable {cc : ByteArray} {pc pc' len : Nat} {lsA : Array Slot} {ρ : ai_A → Nat} {D : va_G} {cl : List vw_C} {dA : Nat → ClassId} {b0 L : Nat} {xs : Nat → Int32} {h h' : ai_H} {Ts : List Cond} {tyL : List FieldType} {tyF : Nat → Nat → FieldType} {asg : Nat → Nat → Bool} {own : String} {ks : List Nat}
set_option maxHeartbeats 4000000 in
theorem ai_ext_W (hx : p.tables.exec = Jvm.exec) (hb : c.code = cc) (hml : c.maxLocals = lsA.size) (hts : ∀ w ∈ Ts, w.before args s = true) (hown : s.vm.findClass own = some m.cls) (hcl : ai_clok Ts cl tyF) (hasg : ai_aok Ts cl tyL asg) (hK : va_K D cl (ai_tys dA tyL) s) (hR : ai_R D cl dA (fun q => b0 ≤ q) ρ h H) (hS : va_S (fun q => b0 ≤ q) s.heap H locs) (hsc : ai_scr b0 L xs ρ h s)
    {ins : Instr} {st st' : List ai_V} (hst : ∀ v ∈ st, ai_ok h v) (hp : ai_ext (fun t => tyL.getD t .float) asg pc ks st h = some (pc', st', h')) (hok : ai_xok Ts own pc len ins ks) (hd : decode cc pc = .ok (ins, len)) (hf : 1 ≤ R.frames) (hl : 200 ≤ R.locals)
    (k : ∀ (H' : Heap) (locs' : List Loc), ai_ex h ρ h' ρ → ai_R D cl dA (fun q => b0 ≤ q) ρ h' H' → va_S (fun q => b0 ≤ q) s.heap H' locs' → (∀ v ∈ st', ai_ok h' v) → h'.2 = h.2 → W p l e R s m args below meth c H' locs' cells slots Q (F0 m pc' lsA (st'.map (ai_v ρ)))) :
    W p l e R s m args below meth c H locs cells slots Q (F0 m pc lsA (st.map (ai_v ρ))) := by
  have hR0 := hR
  obtain ⟨dom, h1, hP, hD, hc⟩ := hR
  have hnf : nativeFrameWords "java/lang/System" "arraycopy" 5 + 11 ≤ 100 := by decide
  have op : ∀ {a : ai_A} {x : ai_C}, ai_solid x = true → ∀ b k, (ai_put h a x).1 b = some (.inr (.inr k)) → h.1 b = some (.inr (.inr k)) := by
    intro a x hxs b k hb
    by_cases z : b = a
    · subst z
      have : x = .inr (.inr k) := by simpa [ai_put, ai_upd] using hb
      rw [this] at hxs
      cases hxs
    · simpa [ai_put, ai_upd, z] using hb
  unfold ai_ext at hp
  unfold ai_xok at hok
  split at hp
  · rename_i hk0
    rw [hk0] at hok
    obtain ⟨rfl, idx, rfl, g1⟩ := hok
    split at hp
    · rename_i ha
      cases hp
      exact va_gets hx hb (hsc.2.1 _ ha).1 hS hown (hts _ g1) (fun _ z => z) hd (k H locs ai_ex.refl hR0 hS (ai_oks (ai_ok_ref (by rw [ha]; rfl)) hst) rfl)
    · cases hp
  · rename_i hk0
    rw [hk0] at hok
    obtain ⟨rfl, idx, rfl, g1⟩ := hok
    split at hp
    · rename_i ha
      cases hp
      exact va_ldcM hx hb hown (hts _ g1) (hsc.2.2 _ ha) hd (k H locs ai_ex.refl hR0 hS (ai_oks (ai_ok_ref (by rw [ha]; rfl)) hst) rfl)
    · cases hp
  · rename_i hk0
    rw [hk0] at hok
    obtain ⟨rfl, idx, rfl, g1, g2, g3, g4, g5⟩ := hok
    split at hp
    · split at hp
      · rename_i a r _ _ t n f ha hb2
        split at hp
        · rename_i hc2
          cases hp
          obtain ⟨j, -, hj⟩ := ai_R.idx (D := D) (cl := cl) (dA := dA) (ρ := ρ) h1 ha rfl
          have hcell : H[ρ a]? = some (vp_cell (dA t) (n, .inr (.inr (.inr (.inr fun j => (f j).map ρ))))) := hP j _ hj
          have hra := (hK.2 t _ (ai_tys_at (dA := dA) hc2.1 (by simp))).2
          exact va_getC hx hb hml hown (hts _ g1) (hts _ g2) (hts _ g3) (hts _ g4) (hts _ g5) (hsc.2.2 _ hb2) ⟨_, hcell, rfl, va_nmO hra rfl⟩ hf (by rw [ai_wt_eq]; omega) hd (k H locs ai_ex.refl hR0 hS (ai_oks (ai_ok_ref (by rw [hb2]; rfl)) (ai_okt hst)) rfl)
        · cases hp
      · cases hp
    · cases hp
  · rename_i hk0
    rw [hk0] at hok
    obtain ⟨rfl, off, rfl, g1⟩ := hok
    split at hp
    · rename_i y x r
      split at hp
      · rename_i q hq
        cases hp
        have hsp := ai_same_spec hR0 hsc hq
        have kk := k H locs ai_ex.refl hR0 hS (ai_okt (ai_okt hst)) rfl
        rw [List.map_cons, List.map_cons, ← ai_rf, ← ai_rf]
        refine lv_acmp_eq hx hb hd g1 (fun z => ?_) (fun z => ?_)
        · rw [if_pos (hsp.mp z)] at kk
          exact kk
        · rw [if_neg (fun w => z (hsp.mpr w))] at kk
          exact kk
      · cases hp
    · cases hp
  · rename_i hk0
    rw [hk0] at hok
    obtain ⟨rfl, off, rfl, g1⟩ := hok
    split at hp
    · rename_i y x r
      split at hp
      · rename_i q hq
        cases hp
        have hsp := ai_same_spec hR0 hsc hq
        have kk := k H locs ai_ex.refl hR0 hS (ai_okt (ai_okt hst)) rfl
        rw [List.map_cons, List.map_cons, ← ai_rf, ← ai_rf]
        refine lv_acmp_ne hx hb hd g1 (fun z => ?_) (fun z => ?_)
        · rw [if_neg (fun w => z (hsp.mpr w))] at kk
          exact kk
        · rw [if_pos (hsp.mp z)] at kk
          exact kk
      · cases hp
    · cases hp
  · rename_i hk0
    rw [hk0] at hok
    obtain ⟨rfl, idx, rfl, g1, g2, g3, g4⟩ := hok
    split at hp
    · rename_i n dp b sp a r
      split at hp
      · rename_i t0 n0 f t1 n1 g ha hb2
        split at hp
        · rename_i hc2
          obtain ⟨c1, c2, c3, c4, c5, c6, c7, c8⟩ := hc2
          cases hp
          obtain ⟨j0, -, hj0⟩ := ai_R.idx (D := D) (cl := cl) (dA := dA) (ρ := ρ) h1 ha rfl
          obtain ⟨j1, hj10, hj1⟩ := ai_R.idx (D := D) (cl := cl) (dA := dA) (ρ := ρ) h1 hb2 rfl
          refine va_copyi hx hb hml hown (hts _ g1) (hts _ g2) (hts _ g3) (hts _ g4) hK hP hD hS j0 j1 t0 t1 hj0 hj1 (ai_tys_at c1 (by decide)) (ai_tys_at c2 (by decide)) (by decide) c3 c4 c5 c6 c7 (fun _ _ => rfl) hf (by rw [ai_wt_eq]; omega) hd (ai_st_fin (t' := t1) (n' := n1) (d' := .inl (va_cpy f g sp.toNatClampNeg dp.toNatClampNeg n.toNatClampNeg)) h1 hc hD hj10 hb2 trivial (fun H1 locs1 q1 q2 => ?_) rfl)
          exact k H1 locs1 ⟨ai_le_refl, fun b z => ai_put_some z, fun b k _ => op rfl b k⟩ q1 q2 (ai_oksP (ai_okt (ai_okt (ai_okt (ai_okt (ai_okt hst)))))) rfl
        · cases hp
      · cases hp
    · cases hp
  · rename_i hk0
    rw [hk0] at hok
    obtain ⟨rfl, idx, rfl, g1, g2, g3, g4⟩ := hok
    split at hp
    · rename_i n dp b sp a r
      split at hp
      · rename_i t0 n0 f t1 n1 g ha hb2
        split at hp
        · rename_i hc2
          obtain ⟨c1, c3, c4, c5, c6, c7, c8, cj, c9, c10⟩ := hc2
          cases hp
          obtain ⟨E0, hE0⟩ := ai_obj_ex c1
          obtain ⟨E1, r1, hE1, hr1, hca⟩ := hasg t1 cj c9
          obtain ⟨j0, -, hj0⟩ := ai_R.idx (D := D) (cl := cl) (dA := dA) (ρ := ρ) h1 ha rfl
          obtain ⟨j1, hj10, hj1⟩ := ai_R.idx (D := D) (cl := cl) (dA := dA) (ρ := ρ) h1 hb2 rfl
          refine va_copyq (C := r1.1) hx hb hml hown (hts _ g1) (hts _ g2) (hts _ g3) (hts _ g4) hK hP hD hS j0 j1 t0 t1 hj0 hj1 (ai_tys_at hE0 (by simp)) (ai_tys_at hE1 (by simp)) c3 c4 c5 c6 c7 (fun i hi y hy => ?_) (fun comp c0 z1 z2 => ?_) hf (by rw [ai_wt_eq]; omega) hd (ai_st_fin (t' := t1) (n' := n1) (d' := .inr (.inr (va_cpy f g sp.toNatClampNeg dp.toNatClampNeg n.toNatClampNeg))) h1 hc hD hj10 hb2 (ai_cpy_cok (hc _ _ ha) (hc _ _ hb2)) (fun H1 locs1 q1 q2 => ?_) ?_)
          · obtain ⟨b', hb', rfl⟩ := Option.map_eq_some_iff.mp hy
            obtain ⟨fs, hfs⟩ := c10 i hi b' hb'
            obtain ⟨j3, -, hj3⟩ := ai_R.idx (D := D) (cl := cl) (dA := dA) (ρ := ρ) h1 hfs rfl
            exact va_recv hK hP hr1 hj3
          · rcases hca with hca | hca
            · rw [hca] at z2
              cases z1.symm.trans z2
              have hcA := (hK.1 cj r1 hr1).2
              rw [hca] at hcA
              cases z1.symm.trans hcA.1
              exact va_assign hcA
            · obtain ⟨c3', c4', y1, y2, y3⟩ := Cond.castable_spec (hts _ hca)
              cases y1.symm.trans z2
              cases y2.symm.trans z1
              exact y3
          · exact k H1 locs1 ⟨ai_le_refl, fun b z => ai_put_some z, fun b k _ => op rfl b k⟩ q1 q2 (ai_oksP (ai_okt (ai_okt (ai_okt (ai_okt (ai_okt hst)))))) rfl
          · exact congrArg (fun g => (Sum.inl (dA t1, n1, Sum.inr (Sum.inr (Sum.inr (Sum.inr g)))) : va_E)) (ai_cpy_map f g sp.toNatClampNeg dp.toNatClampNeg n.toNatClampNeg)
        · cases hp
      · cases hp
    · cases hp
  · cases hp
end AIX
end
section
/-! What the program must keep; a frame's run. -/
def ai_tk (Ts : List Cond) (own E : String) (q : Nat × Nat × Nat × Nat) (b : Bool) : Prop := q.2.2.2 ≠ 0 ∧ ∃ nm : String, Cond.classLink own q.2.2.2 nm ∈ Ts ∧ ((b = true ∧ Cond.castable E nm ∈ Ts) ∨ (b = false ∧ Cond.not (.castable E nm) ∈ Ts))
def ai_cov (q : Nat × Nat × Nat × Nat) (pc : Nat) : Bool := decide (q.1 ≤ pc) && decide (pc < q.2.1)
def ai_thr (Ts : List Cond) (own : String) (cc : ByteArray) (hh : List (Nat × Nat × Nat × Nat)) (E : String) (pc : Nat) (ins : Instr) : Prop := ∃ (ik ic : Nat) (ns : List String), ins = .new ik ∧ ai_tok Ts own E ns ik ic ∧ ns.length ≤ 6 ∧ decode cc (pc + 3) = .ok (.dup, 1) ∧ decode cc (pc + 4) = .ok (.invokespecial ic, 3) ∧ decode cc (pc + 7) = .ok (.athrow, 1) ∧ ∀ q ∈ hh, ai_cov q (pc + 7) = false
def ai_hnd (Ts : List Cond) (own : String) (hh : List (Nat × Nat × Nat × Nat)) (ex : Nat → String) (Hn : Nat → Option (Option Nat)) (pc : Nat) : Prop :=
  (∀ x, Hn x = some none → ∀ q ∈ hh, ai_cov q pc = false) ∧ ∀ x pc', Hn x = some (some pc') → ∃ (pre : List (Nat × Nat × Nat × Nat)) (q : Nat × Nat × Nat × Nat) (suf : List (Nat × Nat × Nat × Nat)), hh = pre ++ q :: suf ∧ q.2.2.1 = pc' ∧ ai_cov q pc = true ∧ ai_tk Ts own (ex x) q true ∧ ∀ z ∈ pre, ai_cov z pc = false ∨ ai_tk Ts own (ex x) z false
def ai_rok (Ts : List Cond) (cl : List vw_C) (P : ai_P) (M : ai_M) (ex : Nat → String) (mi : Nat) (y : MethodName) (cc : ByteArray) (hh : List (Nat × Nat × Nat × Nat)) (pc : Nat) (r : ai_I) : Prop :=
  ∃ len, decode cc pc = .ok (r.2.1, len) ∧ ai_lok r.2.1 len = true ∧ (r.1 = 1 → ai_jok r.2.1 pc r.2.2) ∧ (r.1 = 3 → ai_hok Ts cl P.2.2.2.2.1 P.2.2.2.2.2.1 P.2.2.2.1 y.cls y.name r.2.1 r.2.2) ∧
    (r.1 = 4 → len = 3 ∧ ai_hnd Ts y.cls hh ex (P.2.1 mi pc) pc ∧ ∃ (y' : MethodName) (cc' : ByteArray) (hh' : List (Nat × Nat × Nat × Nat)) (n : Nat), M (r.2.2.getD 0 0) = some (y', cc', hh') ∧ (parseMethodDescriptor y'.desc).map (fun d => d.parameters.length) = some n ∧ ai_iok Ts cl y.cls y' n r.2.1 r.2.2) ∧
    (r.1 = 6 → len = 3 ∧ ai_thr Ts y.cls cc hh (ex (r.2.2.getD 0 0)) pc r.2.1) ∧
    (r.1 = 7 → len = 3 ∧ ∃ idx, r.2.1 = .invokespecial idx ∧ Cond.methodLink y.cls idx Lib.objectInit ∈ Ts ∧ Cond.instanceMethod Lib.objectInit ∈ Ts ∧ Cond.code Lib.objectInit ⟨#[0xb1]⟩ 1 none ∈ Ts) ∧
    (r.1 = 8 → len = 3 ∧ ∃ idx, r.2.1 = .invokestatic idx ∧ Cond.methodLink y.cls idx Lib.Math.max.name ∈ Ts ∧ Cond.static Lib.Math.max.name ∈ Ts ∧ Cond.initialized "java/lang/Math" ∈ Ts ∧ Cond.code Lib.Math.max.name Lib.Math.max.code 2 (some .int) ∈ Ts) ∧
    (r.1 = 9 → len = 3 ∧ ∃ idx, r.2.1 = .invokestatic idx ∧ Cond.methodLink y.cls idx Lib.Math.min.name ∈ Ts ∧ Cond.static Lib.Math.min.name ∈ Ts ∧ Cond.initialized "java/lang/Math" ∈ Ts ∧ Cond.code Lib.Math.min.name Lib.Math.min.code 2 (some .int) ∈ Ts) ∧
    (r.1 = 10 → ai_xok Ts y.cls pc len r.2.1 r.2.2)
def ai_mok (Ts : List Cond) (cl : List vw_C) (P : ai_P) (M : ai_M) (ex : Nat → String) : Prop := ∀ mi y cc hh, M mi = some (y, cc, hh) → plainFor y = true ∧ Cond.initialized y.cls ∈ Ts ∧ (y.cls ≠ "java/lang/invoke/MethodHandle" ∧ y.cls ≠ "java/lang/invoke/VarHandle") ∧ ai_cw Ts y cc (P.2.2.1 mi).1 (P.2.2.1 mi).2 hh ∧
  (y.name = "<init>" → hh = [] ∧ (P.2.2.1 mi).2 = none ∧ Cond.code y cc (P.2.2.1 mi).1 none ∈ Ts) ∧ (P.2.2.1 mi).1 ≤ 45 ∧ ∀ pc r, P.1 mi pc = some r → ai_rok Ts cl P M ex mi y cc hh pc r
theorem ai_lr.ext {h : ai_H} {ρ ρ' : ai_A → Nat} {ls : ai_L} {A : Array Slot} (hl : ai_lr ρ ls A) (hk : ∀ v, some v ∈ ls → ai_ok h v) (e : ai_le h ρ ρ') : ai_lr ρ' ls A := by
  obtain ⟨lv, h1, h2⟩ := hl
  exact ⟨lv, h1, fun k v hv => by rw [ai_v_ext (hk v (List.mem_of_getElem? hv)) e]; exact h2 k v hv⟩
theorem ai_lr.size {ρ : ai_A → Nat} {ls : ai_L} {A : Array Slot} (hl : ai_lr ρ ls A) : A.size = ls.length := by
  obtain ⟨lv, h1, -⟩ := hl
  exact h1.1
theorem ai_st1_ok {h : ai_H} {ls ls' : ai_L} {i : Nat} {v : ai_V} (hs : ai_st1 ls i v = some ls') (hv : ai_ok h v) (hl : ∀ w, some w ∈ ls → ai_ok h w) : ls'.length = ls.length ∧ ∀ w, some w ∈ ls' → ai_ok h w := by
  unfold ai_st1 at hs
  split at hs
  · cases hs
    refine ⟨List.length_set, fun w hw => ?_⟩
    rcases List.mem_or_eq_of_mem_set hw with z | z
    · exact hl w z
    · cases z; exact hv
  · cases hs
theorem ai_st2_ok {h : ai_H} {ls ls' : ai_L} {i : Nat} {v : ai_V} (hs : ai_st2 ls i v = some ls') (hv : ai_ok h v) (hl : ∀ w, some w ∈ ls → ai_ok h w) : ls'.length = ls.length ∧ ∀ w, some w ∈ ls' → ai_ok h w := by
  unfold ai_st2 at hs
  split at hs
  · cases hs
    refine ⟨by rw [List.length_set, List.length_set], fun w hw => ?_⟩
    rcases List.mem_or_eq_of_mem_set hw with z | z
    · rcases List.mem_or_eq_of_mem_set z with z | z
      · exact hl w z
      · cases z; exact hv
    · cases z
  · cases hs
theorem ai_pure_ok {h : ai_H} {ins : Instr} {st st' : List ai_V} (hp : ai_pure ins st = some st') (hs : ∀ v ∈ st, ai_ok h v) : ∀ v ∈ st', ai_ok h v := by
  have ii : ∀ f, ai_ii f st = some st' → ∀ v ∈ st', ai_ok h v := by
    intro f z
    obtain ⟨x, y, r, rfl, rfl⟩ := ai_ii_spec z
    exact ai_oks ai_ok_int (ai_okt (ai_okt hs))
  have ll : ∀ f, ai_ll f st = some st' → ∀ v ∈ st', ai_ok h v := by
    intro f z
    obtain ⟨x, y, r, rfl, rfl⟩ := ai_ll_spec z
    exact ai_oks ai_ok_long (ai_okt (ai_okt hs))
  have li : ∀ f, ai_li f st = some st' → ∀ v ∈ st', ai_ok h v := by
    intro f z
    obtain ⟨x, y, r, rfl, rfl⟩ := ai_li_spec z
    exact ai_oks ai_ok_long (ai_okt (ai_okt hs))
  unfold ai_pure at hp
  repeat' split at hp
  all_goals first
    | (cases hp; done)
    | exact ii _ hp
    | exact ll _ hp
    | exact li _ hp
    | (cases hp; exact ai_oks ai_ok_int hs)
    | (cases hp; exact ai_oks ai_ok_long hs)
    | (cases hp; exact ai_oks ai_ok_null hs)
    | (cases hp; exact ai_oks ai_ok_int (ai_okt hs))
    | (cases hp; exact ai_oks ai_ok_long (ai_okt hs))
    | (cases hp; exact ai_oks ai_ok_int (ai_okt (ai_okt hs)))
    | (cases hp; exact ai_okt hs)
    | (cases hp; exact ai_oks (hs _ (by simp)) hs)
    | (cases hp; intro v hv; refine hs v ?_; simp only [List.mem_cons] at hv ⊢; grind)
theorem ai_jmp_ok {h : ai_H} {ins : Instr} {pc pc' : Nat} {ks : List Nat} {st st' : List ai_V} (hp : ai_jmp ins pc ks st = some (pc', st')) (hs : ∀ v ∈ st, ai_ok h v) : ∀ v ∈ st', ai_ok h v := by
  unfold ai_jmp at hp
  repeat' split at hp
  all_goals first
    | (cases hp; done)
    | (cases hp; exact hs)
    | (cases hp; exact ai_okt hs)
    | (cases hp; exact ai_okt (ai_okt hs))
theorem ai_loc_ok {h : ai_H} {ins : Instr} {ls ls' : ai_L} {st st' : List ai_V} (hp : ai_loc ins ls st = some (ls', st')) (hs : ∀ v ∈ st, ai_ok h v) (hl : ∀ w, some w ∈ ls → ai_ok h w) : ls'.length = ls.length ∧ (∀ v ∈ st', ai_ok h v) ∧ ∀ w, some w ∈ ls' → ai_ok h w := by
  unfold ai_loc at hp
  repeat' split at hp
  all_goals first
    | (cases hp; done)
    | (rename_i hi; cases hp; exact ⟨rfl, ai_oks (hl _ (List.mem_of_getElem? hi)) hs, hl⟩)
    | (obtain ⟨q, hq, hz⟩ := Option.map_eq_some_iff.mp hp
       cases hz
       exact ⟨(ai_st1_ok hq (hs _ List.mem_cons_self) hl).1, ai_okt hs, (ai_st1_ok hq (hs _ List.mem_cons_self) hl).2⟩)
    | (obtain ⟨q, hq, hz⟩ := Option.map_eq_some_iff.mp hp
       cases hz
       exact ⟨(ai_st2_ok hq (hs _ List.mem_cons_self) hl).1, ai_okt hs, (ai_st2_ok hq (hs _ List.mem_cons_self) hl).2⟩)
    | (obtain ⟨q, hq, hz⟩ := Option.map_eq_some_iff.mp hp
       cases hz
       exact ⟨(ai_st1_ok hq ai_ok_int hl).1, hs, (ai_st1_ok hq ai_ok_int hl).2⟩)
theorem ai_heap_len {dfl : Nat → List ai_V} {tyA : Nat → FieldType} {tyF : Nat → Nat → FieldType} {asg : Nat → Nat → Bool} {L : Nat} {xs : Nat → Int32} {ins : Instr} {ks : List Nat} {st st' : List ai_V} {h h' : ai_H} (hp : ai_heap dfl tyA tyF asg L xs ins ks st h = some (st', h')) {len : Nat} (hl : ai_lok ins len = true) : len = ai_len ins := by
  cases ins <;> first | (simpa [ai_lok] using hl; done) | (simp [ai_heap] at hp; done)
theorem ai_pure_len {ins : Instr} {st st' : List ai_V} (hp : ai_pure ins st = some st') {len : Nat} (hl : ai_lok ins len = true) : len = ai_len ins := by
  cases ins <;> first | (simpa [ai_lok] using hl; done) | (simp [ai_pure] at hp; done)
theorem ai_loc_len {ins : Instr} {ls ls' : ai_L} {st st' : List ai_V} (hp : ai_loc ins ls st = some (ls', st')) {len : Nat} (hl : ai_lok ins len = true) : len = ai_len ins := by
  cases ins <;> first | (simpa [ai_lok] using hl; done) | (simp [ai_loc] at hp; done)
/-- an exception that was caught is a new thing -/
theorem ai_R.exc {D : va_G} {cl : List vw_C} {dA : Nat → ClassId} {B : Nat → Prop} {ρ : ai_A → Nat} {h : ai_H} {H : Heap} {q : Nat} (hR : ai_R D cl dA B ρ h H) (hn : h.1 (1, h.2.1 1) = none) : ai_R D cl dA B (ai_at ρ (1, h.2.1 1) q) (ai_exc h) H ∧ ai_ex h ρ (ai_exc h) (ai_at ρ (1, h.2.1 1) q) := by
  have hle : ai_le h ρ (ai_at ρ (1, h.2.1 1) q) := ai_at_le hn
  have hm : ∀ b, (h.1 b).isSome = true → ((ai_exc h).1 b).isSome = true := by
    intro b hb
    by_cases z : b = (1, h.2.1 1)
    · simp [ai_exc, ai_upd, z]
    · simpa [ai_exc, ai_upd, z] using hb
  obtain ⟨dom, h1, hP, hD, hc⟩ := hR
  have hw : ai_ws dA (ai_at ρ (1, h.2.1 1) q) (ai_exc h) dom = ai_ws dA ρ h dom := by
    unfold ai_ws
    refine List.map_congr_left fun b hb => ?_
    obtain ⟨y, hy, hys⟩ := (h1 b).mp hb
    have hne : ¬ b = (1, h.2.1 1) := fun z => by
      subst z
      rw [hn] at hy
      cases hy
    have e1 : (ai_exc h).1 b = some y := by simp [ai_exc, ai_upd, hne, hy]
    rw [e1, hy]
    show (ai_at ρ (1, h.2.1 1) q b, ai_e dA (ai_at ρ (1, h.2.1 1) q) y) = (ρ b, ai_e dA ρ y)
    rw [hle b (by rw [hy]; rfl), ai_e_ext (hc b y hy) hle]
  refine ⟨⟨dom, fun b => ?_, by rw [hw]; exact hP, by rw [hw]; exact hD, fun b y hb => ?_⟩, hle, hm, fun b k hk hb => ?_⟩
  · rw [h1 b]
    by_cases z : b = (1, h.2.1 1)
    · subst z
      constructor
      · rintro ⟨x, hx, -⟩
        rw [hn] at hx
        cases hx
      · rintro ⟨x, hx, hs⟩
        have : x = .inr (.inr 1) := by
          have := hx
          simp [ai_exc, ai_upd] at this
          exact this.symm
        rw [this] at hs
        cases hs
    · have e1 : (ai_exc h).1 b = h.1 b := by simp [ai_exc, ai_upd, z]
      rw [e1]
  · by_cases z : b = (1, h.2.1 1)
    · subst z
      have : (Sum.inr (Sum.inr 1) : ai_C) = y := by simpa [ai_exc, ai_upd] using hb
      rw [← this]
      trivial
    · have : h.1 b = some y := by simpa [ai_exc, ai_upd, z] using hb
      exact ai_cok_mono hm (hc b y this)
  · by_cases z : b = (1, h.2.1 1)
    · subst z
      have : (1 : Nat) = k := by simpa [ai_exc, ai_upd] using hb
      exact absurd this.symm hk
    · simpa [ai_exc, ai_upd, z] using hb
end
section
/-! THE FRAME'S RUN, AND ALL METHODS. b0: the heap's size where the law began; what lies below never changes. -/
def ai_xz (b0 : Nat) (U : State) : Prop := ai_Sw Bundle.tN "UNASSIGNED_STACK" Bundle.steD b0 U ∧ ai_Sw Bundle.tN "SUPPRESSED_SENTINEL" Bundle.listD b0 U
def ai_Pre (cl : List vw_C) (tyL : List FieldType) (D : va_G) (dA : Nat → ClassId) (b0 L : Nat) (xs : Nat → Int32) (ρ : ai_A → Nat) (h : ai_H) (av : List ai_V) : Array Value → State → Prop := fun a U =>
  a = (av.map (ai_v ρ)).toArray ∧ ai_R D cl dA (fun q => b0 ≤ q) ρ h U.heap ∧ va_K D cl (ai_tys dA tyL) U ∧ b0 ≤ U.heap.size ∧ (∀ v ∈ av, ai_ok h v) ∧ ai_scr b0 L xs ρ h U ∧ ai_xz b0 U
def ai_Qr (cl : List vw_C) (D : va_G) (dA : Nat → ClassId) (b0 : Nat) (ρ : ai_A → Nat) (h : ai_H) (o : ai_O) (h' : ai_H) : State → Option Value → State → Prop := fun st v t =>
  ∃ (ρ' : ai_A → Nat) (w : Option ai_V), o = .inl w ∧ v = w.map (ai_v ρ') ∧ ai_ex h ρ h' ρ' ∧ ai_R D cl dA (fun q => b0 ≤ q) ρ' h' t.heap ∧ (∀ x, w = some x → ai_ok h' x) ∧ va_F (fun q => b0 ≤ q) st t
def ai_Qt (cl : List vw_C) (D : va_G) (dA : Nat → ClassId) (b0 : Nat) (ex : Nat → String) (ρ : ai_A → Nat) (h : ai_H) (o : ai_O) (h' : ai_H) : State → Addr → State → Prop := fun st q t =>
  ∃ (ρ' : ai_A → Nat) (x : Nat) (ce : Cell), o = .inr x ∧ ai_ex h ρ h' ρ' ∧ ai_R D cl dA (fun q => b0 ≤ q) ρ' h' t.heap ∧ va_F (fun q => b0 ≤ q) st t ∧ t.heap[q]? = some ce ∧ ce.vm = .none ∧ st.vm.findClass (ex x) = some ce.cls
def ai_rm (d : Nat) (h h' : ai_H) : Room := { frames := d + 12, cells := h'.2.2.1 - h.2.2.1, slots := h'.2.2.2 - h.2.2.2, locals := 64 * d + 300 }
theorem ai_rm_f {d : Nat} {h h' : ai_H} : (ai_rm d h h').frames = d + 12 := rfl
theorem ai_rm_l {d : Nat} {h h' : ai_H} : (ai_rm d h h').locals = 64 * d + 300 := rfl
theorem ai_rm_c {d : Nat} {h h' : ai_H} : (ai_rm d h h').cells = h'.2.2.1 - h.2.2.1 := rfl
theorem ai_rm_s {d : Nat} {h h' : ai_H} : (ai_rm d h h').slots = h'.2.2.2 - h.2.2.2 := rfl
set_option maxRecDepth 8000 in
theorem ai_rm_r {a d r : Nat} (h : a ≤ 45) (hr : 64 * d + 364 ≤ r) : 8 + (a + 11) + (64 * d + 300) ≤ r := by omega
/-- what a frame's end owes -/
def ai_KR (cl : List vw_C) (P : ai_P) (mi : Nat) (D : va_G) (dA : Nat → ClassId) (b0 : Nat) (p : Program) (l : Launch) (e : Env) (R : Room) (s : State) (m : MethodId) (args : Array Value) (below : List Frame) (meth : Method) (c : Code) (Q : State → Prop) (cc : ByteArray) (ρ : ai_A → Nat) (h : ai_H) (cells slots : Nat) (o : ai_O) (h' : ai_H) : Prop :=
  ∀ (w : Option ai_V) (ρ' : ai_A → Nat) (H' : Heap) (locs' : List Loc) (cells' slots' : Nat) (lsB : Array Slot) (pc' : Nat) (ins : Instr), o = .inl w → ai_ex h ρ h' ρ' → ai_R D cl dA (fun q => b0 ≤ q) ρ' h' H' → va_S (fun q => b0 ≤ q) s.heap H' locs' → (∀ x, w = some x → ai_ok h' x) → cells' + h.2.2.1 = cells + h'.2.2.1 → slots' + h.2.2.2 = slots + h'.2.2.2 → decode cc pc' = .ok (ins, 1) → ai_ret ins (P.2.2.1 mi).2 w.toList = some w →
    W p l e R s m args below meth c H' locs' cells' slots' Q (F0 m pc' lsB (w.toList.map (ai_v ρ')))
def ai_KT (cl : List vw_C) (D : va_G) (dA : Nat → ClassId) (b0 : Nat) (ex : Nat → String) (s : State) (below : List Frame) (Q : State → Prop) (ρ : ai_A → Nat) (h : ai_H) (cells slots : Nat) (o : ai_O) (h' : ai_H) : Prop :=
  ∀ (x : Nat) (t : State) (q : Addr) (ce : Cell) (ρ' : ai_A → Nat) (locs' : List Loc) (cells' slots' : Nat), o = .inr x → t.status = .running → Ended t below (.threw q) → s.WarmedH t.vm → s.sameButNew ({ t with vm := s.vm } : State) locs' cells' slots' → (∀ z ∈ locs', b0 ≤ z.base) → ai_ex h ρ h' ρ' → ai_R D cl dA (fun q => b0 ≤ q) ρ' h' t.heap → va_F (fun q => b0 ≤ q) s t → t.heap[q]? = some ce → ce.vm = .none → s.vm.findClass (ex x) = some ce.cls → cells' + h.2.2.1 = cells + h'.2.2.1 → slots' + h.2.2.2 = slots + h'.2.2.2 → Q t
section AIM
variable {Ts : List Cond} {cl : List vw_C} {P : ai_P} {M : ai_M} {ex : Nat → String} {D : va_G} {dA : Nat → ClassId} {b0 L : Nat} {xs : Nat → Int32}
variable {p : Program} {l : Launch} {e : Env} {R : Room} {s : State} {m : MethodId} {args : Array Value} {below : List Frame} {meth : Method} {c : Code} {Q : State → Prop} {cc : ByteArray} {mi : Nat}
theorem ai_KR.step {ρ ρ1 : ai_A → Nat} {h h1 h' : ai_H} {cells slots cells1 slots1 : Nat} {o : ai_O} (k : ai_KR cl P mi D dA b0 p l e R s m args below meth c Q cc ρ h cells slots o h') (x : ai_ex h ρ h1 ρ1) (hc : cells1 + h.2.2.1 = cells + h1.2.2.1) (hs : slots1 + h.2.2.2 = slots + h1.2.2.2) : ai_KR cl P mi D dA b0 p l e R s m args below meth c Q cc ρ1 h1 cells1 slots1 o h' :=
  fun w ρ' H' locs' cells' slots' lsB pc' ins a1 a2 a3 a4 a5 a6 a7 => k w ρ' H' locs' cells' slots' lsB pc' ins a1 (x.trans a2) a3 a4 a5 (by omega) (by omega)
theorem ai_KT.step {ρ ρ1 : ai_A → Nat} {h h1 h' : ai_H} {cells slots cells1 slots1 : Nat} {o : ai_O} (k : ai_KT cl D dA b0 ex s below Q ρ h cells slots o h') (x : ai_ex h ρ h1 ρ1) (hc : cells1 + h.2.2.1 = cells + h1.2.2.1) (hs : slots1 + h.2.2.2 = slots + h1.2.2.2) : ai_KT cl D dA b0 ex s below Q ρ1 h1 cells1 slots1 o h' :=
  fun y t q ce ρ' locs' cells' slots' a1 a2 a3 a4 a5 a6 a7 a8 a9 a10 a11 a12 a13 a14 => k y t q ce ρ' locs' cells' slots' a1 a2 a3 a4 a5 a6 (x.trans a7) a8 a9 a10 a11 a12 (by omega) (by omega)
theorem ai_xz.moved {u U : State} (k : ai_xz b0 u) (hvm : u.vm.Alike U.vm) (hh : ∀ q, q < b0 → U.heap[q]? = u.heap[q]?) : ai_xz b0 U := ⟨k.1.moved hvm hh, k.2.moved hvm hh⟩
/-- the handlers of a method, as its words say -/
theorem ai_cov_out {hh : List (Nat × Nat × Nat × Nat)} {tb : List ExceptionTableEntry} {pc : Nat} (ht : tb.map (fun x => (x.startPc, x.endPc, x.handlerPc, x.catchType)) = hh) (h : ∀ q ∈ hh, ai_cov q pc = false) : ∀ x ∈ tb, covers x pc = false := by
  intro x hx
  have := h (x.startPc, x.endPc, x.handlerPc, x.catchType) (by rw [← ht]; exact List.mem_map.mpr ⟨x, hx, rfl⟩)
  exact this
theorem ai_tk_row {own E : String} {b : Bool} {x : ExceptionTableEntry} {pc : Nat} (hts : ∀ w ∈ Ts, w.before args s = true) (h : ai_tk Ts own E (x.startPc, x.endPc, x.handlerPc, x.catchType) b) : ai_row own E args s pc x b := by
  obtain ⟨h0, nm, h1, h2⟩ := h
  refine ⟨h0, nm, hts _ h1, ?_⟩
  rcases h2 with ⟨rfl, h2⟩ | ⟨rfl, h2⟩
  · obtain ⟨c3, c4, hc3, hc4, ha⟩ := Cond.castable_spec (hts _ h2)
    exact ⟨c3, c4, hc3, hc4, ha⟩
  · have hv := hts _ h2
    simp only [Cond.before, Cond.holds, Cond.value] at hv
    cases ha : s.vm.findClass E with
    | none => simp [ha] at hv
    | some c3 =>
      cases hb : s.vm.findClass nm with
      | none => simp [ha, hb] at hv
      | some c4 =>
        simp only [ha, hb] at hv
        refine ⟨c3, c4, rfl, rfl, ?_⟩
        cases hz : s.vm.assignable c3 c4
        · rfl
        · simp [hz] at hv
set_option maxHeartbeats 8000000 in
theorem ai_frame (hgood : ∀ w ∈ Ts, ai_good w = true) (hcl : ai_clok Ts cl P.2.2.2.2.2.1) (hasg : ai_aok Ts cl P.2.2.2.2.1 P.2.2.2.2.2.2) (hmo : ai_mok Ts cl P M ex)
    {y : MethodName} {hh : List (Nat × Nat × Nat × Nat)} (rows : ∀ pc r, P.1 mi pc = some r → ai_rok Ts cl P M ex mi y cc hh pc r)
    (hx : p.tables.exec = Jvm.exec) (hb : c.code = cc) (hml : c.maxLocals = (P.2.2.1 mi).1) (hown : s.vm.findClass y.cls = some m.cls) (hts : ∀ w ∈ Ts, w.before args s = true) (hlocks : meth.locks = false) (hname : meth.name = y.name) (htab : c.exceptionTable.toList.map (fun x => (x.startPc, x.endPc, x.handlerPc, x.catchType)) = hh)
    (hK : va_K D cl (ai_tys dA P.2.2.2.2.1) s) (hB0 : b0 ≤ s.heap.size) (hl : l.stackTraces = false) (hz : ai_xz b0 s)
    {d : Nat} (hRf : d + 13 ≤ R.frames) (hRl : 64 * d + 364 ≤ R.locals) {call : Nat → List ai_V → ai_H → Option (ai_O × ai_H)} (hmono : ∀ mi av h o h', call mi av h = some (o, h') → h.2.2.1 ≤ h'.2.2.1 ∧ h.2.2.2 ≤ h'.2.2.2)
    (IH : ∀ mi' y' cc' hh', M mi' = some (y', cc', hh') → ∀ av h o h', call mi' av h = some (o, h') → ∀ ρ, ai_Met l y' Ts (ai_rm d h h') (ai_Pre cl P.2.2.2.2.1 D dA b0 L xs ρ h av) (fun q => b0 ≤ q) (ai_Qr cl D dA b0 ρ h o h') (ai_Qt cl D dA b0 ex ρ h o h')) :
    ∀ n pc ls st h o h', ai_run P L xs call mi n pc ls st h = some (o, h') → ∀ (ρ : ai_A → Nat) (H : Heap) (locs : List Loc) (cells slots : Nat) (lsA : Array Slot), ai_R D cl dA (fun q => b0 ≤ q) ρ h H → va_S (fun q => b0 ≤ q) s.heap H locs → ai_lr ρ ls lsA → ls.length = (P.2.2.1 mi).1 → (∀ v ∈ st, ai_ok h v) → (∀ v, some v ∈ ls → ai_ok h v) → ai_scr b0 L xs ρ h s →
      cells + h'.2.2.1 ≤ R.cells + h.2.2.1 → slots + h'.2.2.2 ≤ R.slots + h.2.2.2 → ai_KR cl P mi D dA b0 p l e R s m args below meth c Q cc ρ h cells slots o h' → ai_KT cl D dA b0 ex s below Q ρ h cells slots o h' →
      W p l e R s m args below meth c H locs cells slots Q (F0 m pc lsA (st.map (ai_v ρ))) := by
  intro n
  induction n with
  | zero => intro pc ls st h o h' hr; cases hr
  | succ n ih =>
    intro pc ls st h o h' hr ρ H locs cells slots lsA hR hS hlr hlen hst hls hsc hrc hrs kr kt
    have hsz : lsA.size = c.maxLocals := by rw [hlr.size, hlen, hml]
    have hBB : ∀ q, s.heap.size ≤ q → b0 ≤ q := fun q z => Nat.le_trans hB0 z
    have hlow : ∀ q, q < b0 → H[q]? = s.heap[q]? := fun q z => hS.2.1 q (by omega) (by omega)
    unfold ai_run at hr
    split at hr
    · cases hr
    rename_i kd ins ks hrow
    obtain ⟨len, hd, hlok, hj, hh3, hc4, ht6, ho7, hx8, hx9, hx10⟩ := rows pc _ hrow
    split at hr
    · -- the stack alone
      split at hr
      · rename_i st' hp
        have := ai_pure_len hp hlok
        subst this
        exact ai_pure_W hx hb hp hd (ih _ _ _ _ _ _ hr ρ H locs cells slots lsA hR hS hlr hlen (ai_pure_ok hp hst) hls hsc hrc hrs kr kt)
      · cases hr
    · -- jumps
      split at hr
      · rename_i pc' st' hp
        exact ai_jmp_W hx hb hp (hj rfl) hd hlok (ih _ _ _ _ _ _ hr ρ H locs cells slots lsA hR hS hlr hlen (ai_jmp_ok hp hst) hls hsc hrc hrs kr kt)
      · cases hr
    · -- locals
      split at hr
      · rename_i ls' st' hp
        have := ai_loc_len hp hlok
        subst this
        obtain ⟨q1, q2, q3⟩ := ai_loc_ok hp hst hls
        exact ai_loc_W hx hb hp hd hlr (fun lsB hlB => ih _ _ _ _ _ _ hr ρ H locs cells slots lsB hR hS hlB (q1.trans hlen) q2 q3 hsc hrc hrs kr kt)
      · cases hr
    · -- the heap
      split at hr
      · rename_i st' h1 hp
        have := ai_heap_len hp hlok
        subst this
        have m1 := ai_run_mono hmono _ _ _ _ _ _ _ hr
        have hok := hh3 rfl
        rw [← hname] at hok
        refine ai_heap_W hx hb hts hown hcl hasg hK hR hS hBB (L := L) (xs := xs) (fun a ha => ⟨(hsc.1 a ha).1, Nat.lt_of_lt_of_le (hsc.1 a ha).2 hB0, Nat.not_le.mpr (hsc.1 a ha).2⟩) (fun a ha => (hsc.2.1 a ha).2) hst hp hok hd (by omega) (by omega) (fun ρ' H' locs' cells' slots' x1 x2 x3 x4 x5 x6 x7 x8 => ?_)
        have hex : ai_ex h ρ h1 ρ' := ⟨x1, x5, fun b k _ => x6 b k⟩
        exact ih _ _ _ _ _ _ hr ρ' H' locs' cells' slots' lsA x2 x3 (hlr.ext hls x1) hlen x4 (fun v hv => hex.ok (hls v hv)) (hsc.step hex) (by omega) (by omega) (kr.step hex x7 x8) (kt.step hex x7 x8)
      · cases hr
    · -- calls
      obtain ⟨rfl, hhn, y', cc', hh', nn, hM, hnn, hiok⟩ := hc4 rfl
      obtain ⟨pl1, pl2, pl3, pl4, pl5, pl6, -⟩ := hmo _ _ _ _ hM
      split at hr
      · rename_i av r hp
        obtain ⟨a1, a2, a3, -, -⟩ := ai_args_spec hp
        have hav : ∀ v ∈ av, ai_ok h v := fun v hv => hst v (by rw [a1]; exact List.mem_append_left _ (List.mem_reverse.mpr hv))
        have hrr : ∀ v ∈ r, ai_ok h v := fun v hv => hst v (by rw [a1]; exact List.mem_append_right _ hv)
        -- whatever the call comes to
        have go : ∀ (o1 : ai_O) (h1 : ai_H), call (ks.getD 0 0) av h = some (o1, h1) → h1.2.2.1 ≤ h'.2.2.1 → h1.2.2.2 ≤ h'.2.2.2 →
            (∀ (w : Option ai_V) (ρ1 : ai_A → Nat) (H1 : Heap) (locs1 : List Loc), o1 = .inl w → ai_ex h ρ h1 ρ1 → ai_R D cl dA (fun q => b0 ≤ q) ρ1 h1 H1 → (∀ x, w = some x → ai_ok h1 x) → va_S (fun q => b0 ≤ q) s.heap H1 locs1 → W p l e R s m args below meth c H1 locs1 (cells + (ai_rm d h h1).cells) (slots + (ai_rm d h h1).slots) Q (F0 m (pc + 3) lsA (w.toList.map (ai_v ρ1) ++ r.map (ai_v ρ1)))) →
            (∀ (x : Nat) (ρ1 : ai_A → Nat) (T1 : State) (locs1 : List Loc) (q : Addr) (ce : Cell), o1 = .inr x → ai_ex h ρ h1 ρ1 → ai_R D cl dA (fun q => b0 ≤ q) ρ1 h1 T1.heap → va_S (fun q => b0 ≤ q) s.heap T1.heap locs1 → T1.heap[q]? = some ce → ce.vm = .none → s.vm.findClass (ex x) = some ce.cls → Stand p l e R s m args below meth c T1 locs1 (cells + (ai_rm d h h1).cells) (slots + (ai_rm d h h1).slots) → ∃ t, Steps p.tables e below ((T1.setTop (F0 m pc lsA (r.map (ai_v ρ)))).pushFrame (.throwing q)) t ∧ Q t) →
            W p l e R s m args below meth c H locs cells slots Q (F0 m pc lsA (st.map (ai_v ρ))) := by
          intro o1 h1 hcall hm1 hm2 kA kB T hT X
          have hme := hmono _ _ _ _ _ hcall
          have hMet := IH _ _ _ _ hM av h o1 h1 hcall ρ
          obtain ⟨mk, vm₁, hnm, hW₁, X₁, hgo⟩ := ai_find X hx hb hts hown hK hT hR (lsA := lsA) hp hiok hnn pl4 pl5 pl2 pl3 hd
          have hwU : ∀ (a' : Array Value), ∀ w ∈ Ts, w.before a' (T.setVm vm₁) = true := fun a' w hw => ai_word (U := T.setVm vm₁) hW₁ (hgood w hw) (hts w hw)
          have hnU : (T.setVm vm₁).methodNamed? y' = some mk := X₁.named hnm
          have hcode : ai_Code (T.setVm vm₁) mk (P.2.2.1 (ks.getD 0 0)).1 := by
            obtain ⟨mk', methY, cd, g1, g2, g3, g4, g5, -⟩ := ai_cw_spec (hwU #[]) pl4
            cases hnU.symm.trans g1
            obtain ⟨kY, hkY, -⟩ := className_of_methodNamed hnU
            exact ⟨methY, cd, kY, g2, g3, g5, hkY, Cond.initialized_spec (findClass_of_methodNamed hnU) hkY (hwU #[] _ pl2)⟩
          have hlowT : ∀ q, q < b0 → (T.setVm vm₁).heap[q]? = s.heap[q]? := fun q z => by
            show T.heap[q]? = _
            rw [hT]; exact hlow q z
          have hPc : ai_Pre cl P.2.2.2.2.1 D dA b0 L xs ρ h av (av.map (ai_v ρ)).toArray ((T.setVm vm₁).calling (F0 m pc lsA (r.map (ai_v ρ))) mk (av.map (ai_v ρ)).toArray) := by
            refine ⟨rfl, ?_, va_K.moved (U := (T.setVm vm₁).calling (F0 m pc lsA (r.map (ai_v ρ))) mk (av.map (ai_v ρ)).toArray) hW₁.alike hK, ?_, hav, hsc.moved (U := (T.setVm vm₁).calling (F0 m pc lsA (r.map (ai_v ρ))) mk (av.map (ai_v ρ)).toArray) hW₁.alike hlowT, hz.moved (U := (T.setVm vm₁).calling (F0 m pc lsA (r.map (ai_v ρ))) mk (av.map (ai_v ρ)).toArray) hW₁.alike hlowT⟩
            · show ai_R D cl dA (fun q => b0 ≤ q) ρ h T.heap
              rw [hT]; exact hR
            · show b0 ≤ T.heap.size
              rw [hT]; exact Nat.le_trans hB0 hS.1
          have hq1 : (ai_rm d h h1).frames + 1 ≤ R.frames := by rw [ai_rm_f]; omega
          have hq2 : 8 + ((P.2.2.1 (ks.getD 0 0)).1 + 11) + (ai_rm d h h1).locals ≤ R.locals := by rw [ai_rm_l]; exact ai_rm_r pl6 hRl
          have hq3 : cells + (ai_rm d h h1).cells ≤ R.cells := by rw [ai_rm_c]; omega
          have hq4 : slots + (ai_rm d h h1).slots ≤ R.slots := by rw [ai_rm_s]; omega
          obtain ⟨T1, t, st₀, L1, e1, e2, e3, e4, hL1, X', hor⟩ := ai_enter hMet X₁ (g := F0 m pc lsA (r.map (ai_v ρ))) rfl hsz (by rw [hb]; exact hd) (by show 2 * 0 + _ ≤ 8; rw [ai_wt_eq]; omega) hnU hcode (hwU _) hPc hq1 hq2 hq3 hq4
          have hst0 : st₀.heap = H := e1.trans hT
          have keepS : va_F (fun q => b0 ≤ q) st₀ t → va_S (fun q => b0 ≤ q) s.heap T1.heap (locs ++ L1) := by
            intro hF
            refine ⟨by rw [e3]; exact Nat.le_trans hS.1 (by rw [← hst0]; exact hF.1), fun q q1 q2 => ?_, fun z hz9 => ?_⟩
            · rw [e3, hF.2 q (by rw [hst0]; exact Nat.lt_of_lt_of_le q1 hS.1) q2, hst0]
              exact hS.2.1 q q1 q2
            · rcases List.mem_append.mp hz9 with z1 | z1
              · exact hS.2.2 z z1
              · exact hL1 z z1
          rcases hor with ⟨v, ⟨ρ1, w, r1, r2, r3, r4, r5, r6⟩, hsteps⟩ | ⟨q, ⟨ρ1, x, ce, r1, r3, r4, r6, r7, r8, r9⟩, hsteps⟩
          · obtain ⟨t2, b1, b2⟩ := kA w ρ1 T1.heap (locs ++ L1) r1 r3 (by rw [e3]; exact r4) r5 (keepS r6) T1 rfl X'
            refine ⟨t2, hgo _ (hsteps.trans ?_), b2⟩
            have hv : v.toList ++ r.map (ai_v ρ) = w.toList.map (ai_v ρ1) ++ r.map (ai_v ρ1) := by
              rw [r2, ai_vs_ext r3.1 hrr]
              cases w <;> rfl
            show Steps p.tables e below (T1.setTop (F0 m (pc + 3) lsA (v.toList ++ r.map (ai_v ρ)))) t2
            rw [hv]
            exact b1
          · have hfc : s.vm.findClass (ex x) = some ce.cls := by
              have z9 : st₀.vm.findClass (ex x) = some ce.cls := r9
              rw [e2] at z9
              have := hW₁.alike.findClass (ex x)
              rw [← this]
              exact z9
            obtain ⟨t2, b1, b2⟩ := kB x ρ1 T1 (locs ++ L1) q ce r1 r3 (by rw [e3]; exact r4) (keepS r6) (by rw [e3]; exact r7) r8 hfc X'
            exact ⟨t2, hgo _ (hsteps.trans b1), b2⟩
        split at hr
        · rename_i v h1 hcall
          have m1 := ai_run_mono hmono _ _ _ _ _ _ _ hr
          have m0 := hmono _ _ _ _ _ hcall
          refine go _ h1 hcall m1.1 m1.2 (fun w ρ1 H1 locs1 w1 w2 w3 w4 w5 => ?_) (fun x ρ1 T1 locs1 q ce w1 => (nomatch w1))
          cases w1
          have hcc : cells + (ai_rm d h h1).cells + h.2.2.1 = cells + h1.2.2.1 := by show cells + (h1.2.2.1 - h.2.2.1) + h.2.2.1 = _; omega
          have hss : slots + (ai_rm d h h1).slots + h.2.2.2 = slots + h1.2.2.2 := by show slots + (h1.2.2.2 - h.2.2.2) + h.2.2.2 = _; omega
          have := ih _ _ _ _ _ _ hr ρ1 H1 locs1 _ _ lsA w3 w5 (hlr.ext hls w2.1) hlen (fun x hx9 => by
            rcases List.mem_append.mp hx9 with z | z
            · exact w4 x (by simpa using z)
            · exact w2.ok (hrr x z)) (fun x hx9 => w2.ok (hls x hx9)) (hsc.step w2) (by omega) (by omega) (kr.step w2 hcc hss) (kt.step w2 hcc hss)
          rw [List.map_append] at this
          exact this
        · rename_i x h1 hcall
          have m0 := hmono _ _ _ _ _ hcall
          have hcc : cells + (ai_rm d h h1).cells + h.2.2.1 = cells + h1.2.2.1 := by show cells + (h1.2.2.1 - h.2.2.1) + h.2.2.1 = _; omega
          have hss : slots + (ai_rm d h h1).slots + h.2.2.2 = slots + h1.2.2.2 := by show slots + (h1.2.2.2 - h.2.2.2) + h.2.2.2 = _; omega
          split at hr
          · rename_i pc' hpc'
            split at hr
            · rename_i hne
              have hne : h1.1 (1, h1.2.1 1) = none := by simpa using hne
              have m1 := ai_run_mono hmono _ _ _ _ _ _ _ hr
              simp only [ai_exc] at m1
              refine go _ h1 hcall m1.1 m1.2 (fun w ρ1 H1 locs1 w1 => (nomatch w1)) (fun x' ρ1 T1 locs1 q ce w1 w2 w3 w5 w6 w7 w8 X1 => ?_)
              cases w1
              obtain ⟨pre, qq, suf, g1, g2, g3, g4, g5⟩ := hhn.2 x pc' hpc'
              rw [← htab] at g1
              obtain ⟨pre', q', suf', f1, f2, f3, f4⟩ : ∃ pre' q' suf', c.exceptionTable.toList = pre' ++ q' :: suf' ∧ pre'.map (fun x => (x.startPc, x.endPc, x.handlerPc, x.catchType)) = pre ∧ (q'.startPc, q'.endPc, q'.handlerPc, q'.catchType) = qq ∧ suf'.map (fun x => (x.startPc, x.endPc, x.handlerPc, x.catchType)) = suf := by
                obtain ⟨l1, l2, e1, e2, e3⟩ := List.map_eq_append_iff.mp g1
                obtain ⟨q', l3, e4, e5, e6⟩ := List.map_eq_cons_iff.mp e3
                exact ⟨l1, q', l3, by rw [e1, e4], e2, e5, e6⟩
              subst f3
              obtain ⟨vm', X2, st2⟩ := ai_catch X1 hown (g := F0 m pc lsA (r.map (ai_v ρ))) rfl w6 w7 w8 pre' q' suf' f1 (fun z hz9 => by
                rcases g5 (z.startPc, z.endPc, z.handlerPc, z.catchType) (by rw [← f2]; exact List.mem_map.mpr ⟨z, hz9, rfl⟩) with g | g
                · exact Or.inl g
                · exact Or.inr (ai_tk_row hts g)) g3 (ai_tk_row hts g4)
              obtain ⟨hR2, hex2⟩ := w3.exc (q := q) hne
              have hall := w2.trans hex2
              have := ih _ _ _ _ _ _ hr _ T1.heap locs1 _ _ lsA hR2 w5 (hlr.ext hls hall.1) hlen (ai_oks (ai_ok_ref (by simp [ai_exc, ai_upd])) (fun _ z => (nomatch z))) (fun v hv => hall.ok (hls v hv)) (hsc.step hall) (by show _ + h'.2.2.1 ≤ R.cells + h1.2.2.1; omega) (by show _ + h'.2.2.2 ≤ R.slots + h1.2.2.2; omega) (kr.step hall hcc hss) (kt.step hall hcc hss)
              obtain ⟨t2, b1, b2⟩ := this (T1.setVm vm') rfl X2
              refine ⟨t2, st2 t2 ?_, b2⟩
              have hq : ai_v (ai_at ρ1 (1, h1.2.1 1) q) (.inr (.inr (some (1, h1.2.1 1)))) = .ref q := by simp [ai_v, ai_at]
              rw [List.map_cons, List.map_nil, hq, ← g2] at b1
              exact b1
            · cases hr
          · rename_i hpc'
            cases hr
            refine go _ _ hcall (Nat.le_refl _) (Nat.le_refl _) (fun w ρ1 H1 locs1 w1 => (nomatch w1)) (fun x' ρ1 T1 locs1 q ce w1 w2 w3 w5 w6 w7 w8 X1 => ?_)
            cases w1
            obtain ⟨st2, hrun, hend, hW2, hsm⟩ := X1.leaveThrown q (g := F0 m pc lsA (r.map (ai_v ρ))) rfl rfl rfl (ai_cov_out htab (hhn.1 x hpc')) hlocks
            have hh9 : (T1.setFrames (.throwing q :: below)).heap = T1.heap := rfl
            exact ⟨_, st2, kt x _ q ce ρ1 locs1 _ _ rfl hrun hend hW2 hsm w5.2.2 w2 w3 (w5.F hh9) w6 w7 w8 hcc hss⟩
          · cases hr
        · cases hr
      · cases hr
    · -- the end
      split at hr
      · rename_i w hp
        cases hr
        have key : st = w.toList ∧ (∀ x, w = some x → ai_ok h x) ∧ len = 1 := by
          cases ins <;> simp only [ai_ret] at hp <;> first
            | (cases hp; done)
            | (have hl1 : len = 1 := by simpa [ai_lok, ai_len] using hlok
               repeat' split at hp
               all_goals first
                 | (cases hp; done)
                 | (cases hp; refine ⟨rfl, ?_, hl1⟩; intro x z; cases z; done)
                 | (cases hp; refine ⟨rfl, ?_, hl1⟩; intro x z; cases z; exact hst _ List.mem_cons_self))
        obtain ⟨k1, k2, rfl⟩ := key
        subst k1
        exact kr w ρ H locs cells slots lsA pc ins rfl ai_ex.refl hR hS k2 rfl rfl hd hp
      · cases hr
    · -- an exception is made and thrown
      split at hr
      · rename_i hw8
        cases hr
        obtain ⟨rfl, ik, ic, ns, t1, t2, t3, t4, t5, t6, t7⟩ := ht6 rfl
        simp only at t1
        subst t1
        have hrc' : cells + 1 ≤ R.cells := by
          have : cells + (h.2.2.1 + 1) ≤ R.cells + h.2.2.1 := hrc
          omega
        have hrs' : slots + 6 ≤ R.slots := by
          have : slots + (h.2.2.2 + 6) ≤ R.slots + h.2.2.2 := hrs
          omega
        refine ai_throw_W (b := b0) hx hb hl hown hts t2 hz.1 hz.2 hlow hsz hd t4 t5 t6 (ai_cov_out htab t7) hlocks (by omega) (by rw [ai_wt_eq]; omega) hrc' hrs' (fun t q ce z1 z2 z3 z4 z5 z6 z7 z8 z9 => ?_)
        refine kt _ t q ce ρ locs _ _ rfl z1 z2 z3 z4 hS.2.2 ⟨fun _ _ => rfl, fun _ z => z, fun _ _ _ z => z⟩ ?_ ⟨Nat.le_trans hS.1 z5, fun q q1 q2 => ?_⟩ z7 z8 z9 (by show cells + 1 + h.2.2.1 = cells + (h.2.2.1 + 1); omega) (by show slots + 6 + h.2.2.2 = slots + (h.2.2.2 + 6); omega)
        · obtain ⟨dom, h1, hP, hD, hc⟩ := hR
          exact ⟨dom, h1, hP.kept (fun k x hk => z6 _ ((hP k x hk).lt)), hD, hc⟩
        · rw [z6 q (Nat.lt_of_lt_of_le q1 hS.1)]
          exact hS.2.1 q q1 q2
      · cases hr
    · -- Object's constructor
      split at hr
      · rename_i a r
        split at hr
        · rename_i hw8
          obtain ⟨rfl, idx, t1, t2, t3, t4⟩ := ho7 rfl
          simp only at t1
          subst t1
          exact W.objInit hx hb hown (hts _ t2) (hts _ t3) (hts _ t4) (g := F0 m pc lsA ((.inr (.inr (some a)) :: r).map (ai_v ρ))) rfl hsz rfl hd (by omega) (by show 2 * 0 + _ + 12 ≤ _; rw [ai_wt_eq]; omega) (ih _ _ _ _ _ _ hr ρ H locs cells slots lsA hR hS hlr hlen (ai_okt hst) hls hsc hrc hrs kr kt)
        · cases hr
      · cases hr
    · -- Math.max
      split at hr
      · rename_i y9 x9 r
        split at hr
        · rename_i hw8
          obtain ⟨rfl, idx, t1, t2, t3, t4, t5⟩ := hx8 rfl
          simp only at t1
          subst t1
          have m1 := ai_run_mono hmono _ _ _ _ _ _ _ hr
          exact va_mmax hx hb hsz.symm hown (hts _ t2) (hts _ t3) (hts _ t4) (hts _ t5) (by omega) (by rw [ai_wt_eq]; omega) (by omega) (by omega) hd (ih _ _ _ _ _ _ hr ρ H locs cells slots lsA hR hS hlr hlen (ai_oks ai_ok_int (ai_okt (ai_okt hst))) hls hsc hrc hrs kr kt)
        · cases hr
      · cases hr
    · -- Math.min
      split at hr
      · rename_i y9 x9 r
        split at hr
        · rename_i hw8
          obtain ⟨rfl, idx, t1, t2, t3, t4, t5⟩ := hx9 rfl
          simp only at t1
          subst t1
          have m1 := ai_run_mono hmono _ _ _ _ _ _ _ hr
          exact va_mmin hx hb hsz.symm hown (hts _ t2) (hts _ t3) (hts _ t4) (hts _ t5) (by omega) (by rw [ai_wt_eq]; omega) (by omega) (by omega) hd (ih _ _ _ _ _ _ hr ρ H locs cells slots lsA hR hS hlr hlen (ai_oks ai_ok_int (ai_okt (ai_okt hst))) hls hsc hrc hrs kr kt)
        · cases hr
      · cases hr
    · -- the library's own
      split at hr
      · rename_i pc' st' h1 hp
        refine ai_ext_W hx hb hsz.symm hts hown hcl hasg hK hR hS hsc hst hp (hx10 rfl) hd (by omega) (by omega) (fun H' locs' x1 x2 x3 x4 x5 => ?_)
        have e1 : h1.2.2.1 = h.2.2.1 := by rw [x5]
        have e2 : h1.2.2.2 = h.2.2.2 := by rw [x5]
        exact ih _ _ _ _ _ _ hr ρ H' locs' cells slots lsA x2 x3 hlr hlen x4 (fun v hv => x1.ok (hls v hv)) (hsc.step x1) (by omega) (by omega) (kr.step x1 (by omega) (by omega)) (kt.step x1 (by omega) (by omega))
      · cases hr
    · cases hr
end AIM
end
section
/-! All methods: what a run of the abstract machine comes to, the real one comes to. -/
theorem ai_ent_len {ρ : ai_A → Nat} : ∀ av : List ai_V, (lg_sl (av.map (ai_v ρ))).length = (ai_ent av).length
  | [] => rfl
  | v :: vs => by
    have ih := ai_ent_len (ρ := ρ) vs
    have e9 : lg_sl ((v :: vs).map (ai_v ρ)) = (if (ai_v ρ v).category = 2 then [.val (ai_v ρ v), .second] else [.val (ai_v ρ v)]) ++ lg_sl (vs.map (ai_v ρ)) := rfl
    rw [e9, List.length_append, ih]
    rcases v with x | x | _ | a <;> simp [ai_v, Value.category, ai_ent, ai_two] <;> omega
theorem ai_ent_at {ρ : ai_A → Nat} : ∀ (av : List ai_V) (i k : Nat) (v : ai_V), (ai_ent av)[k]? = some (some v) → (i + k, ai_v ρ v) ∈ lv_args i (av.map (ai_v ρ))
  | [], _, _, _, h => by simp [ai_ent] at h
  | u :: vs, i, k, v, h => by
    by_cases hu : ai_two u = true
    · have hc : (ai_v ρ u).category = 2 := by
        rcases u with x | x | _ | a <;> first | rfl | (cases hu; done)
      simp only [ai_ent] at h
      rw [if_pos hu] at h
      simp only [List.map_cons, lv_args, hc, if_true]
      cases k with
      | zero =>
        simp only [List.getElem?_cons_zero, Option.some.injEq] at h
        rw [h]
        exact List.mem_cons_self
      | succ k =>
        cases k with
        | zero => simp at h
        | succ k =>
          simp only [List.getElem?_cons_succ] at h
          have := ai_ent_at (ρ := ρ) vs (i + 2) k v h
          rw [show i + (k + 1 + 1) = i + 2 + k by omega]
          exact List.mem_cons_of_mem _ this
    · have hc : ¬ (ai_v ρ u).category = 2 := by
        rw [ai_cat1 (by simpa using hu)]
        decide
      simp only [ai_ent] at h
      rw [if_neg hu] at h
      simp only [List.map_cons, lv_args, hc, if_false]
      cases k with
      | zero =>
        simp only [List.getElem?_cons_zero, Option.some.injEq] at h
        rw [h]
        exact List.mem_cons_self
      | succ k =>
        simp only [List.getElem?_cons_succ] at h
        have := ai_ent_at (ρ := ρ) vs (i + 1) k v h
        rw [show i + (k + 1) = i + 1 + k by omega]
        exact List.mem_cons_of_mem _ this
theorem ai_ent_lr {ρ : ai_A → Nat} {av : List ai_V} {n : Nat} (hn : (ai_ent av).length ≤ n) : ai_lr ρ (ai_ent av ++ List.replicate (n - (ai_ent av).length) none) ((lg_sl (av.map (ai_v ρ)) ++ List.replicate (n - (lg_sl (av.map (ai_v ρ))).length) Slot.unset).toArray) := by
  have hl := lv_entry (av.map (ai_v ρ)) (n := n) (by rw [ai_ent_len]; exact hn)
  refine ⟨lv_args 0 (av.map (ai_v ρ)), ?_, fun k v hk => ?_⟩
  · have e1 : (ai_ent av ++ List.replicate (n - (ai_ent av).length) (none : Option ai_V)).length = n := by simp; omega
    rw [e1]
    exact hl
  · have hk' : (ai_ent av)[k]? = some (some v) := by
      by_cases hlt : k < (ai_ent av).length
      · rw [List.getElem?_append_left hlt] at hk
        exact hk
      · rw [List.getElem?_append_right (by omega), List.getElem?_replicate] at hk
        split at hk <;> cases hk
    have := ai_ent_at (ρ := ρ) av 0 k v hk'
    rw [Nat.zero_add] at this
    exact this
theorem ai_ent_ok {h : ai_H} : ∀ {av : List ai_V}, (∀ v ∈ av, ai_ok h v) → ∀ v, some v ∈ ai_ent av → ai_ok h v
  | [], _, v, hv => by simp [ai_ent] at hv
  | u :: vs, hs, v, hv => by
    have ih := ai_ent_ok (ai_okt hs) v
    unfold ai_ent at hv
    split at hv
    · simp only [List.mem_cons] at hv
      rcases hv with z | z | z
      · cases z; exact hs _ List.mem_cons_self
      · cases z
      · exact ih z
    · simp only [List.mem_cons] at hv
      rcases hv with z | z
      · cases z; exact hs _ List.mem_cons_self
      · exact ih z
theorem ai_W_mono {p : Program} {l : Launch} {e : Env} {R : Room} {s : State} {m : MethodId} {args : Array Value} {below : List Frame} {meth : Method} {c : Code} {H : Heap} {locs : List Loc} {cells slots : Nat} {Q Q' : State → Prop} {g : JFrame} (hq : ∀ t, Q t → Q' t) (k : W p l e R s m args below meth c H locs cells slots Q g) : W p l e R s m args below meth c H locs cells slots Q' g := by
  intro T hT X
  obtain ⟨t, a, b⟩ := k T hT X
  exact ⟨t, a, hq t b⟩
def ai_Qf (below : List Frame) (B : Nat → Prop) (mc ms : Nat) (Qr : State → Option Value → State → Prop) (Qt : State → Addr → State → Prop) (args : Array Value) (s : State) : State → Prop := fun t => ∃ o', t.status = .running ∧ Ended t below o' ∧ ai_End B mc ms Qr Qt args s o' t
section AIS
variable {Ts : List Cond} {cl : List vw_C} {P : ai_P} {M : ai_M} {ex : Nat → String} {D : va_G} {dA : Nat → ClassId} {b0 L : Nat} {xs : Nat → Int32}
set_option maxHeartbeats 4000000 in
theorem ai_sound (hgood : ∀ w ∈ Ts, ai_good w = true) (hcl : ai_clok Ts cl P.2.2.2.2.2.1) (hasg : ai_aok Ts cl P.2.2.2.2.1 P.2.2.2.2.2.2) (hmo : ai_mok Ts cl P M ex) (l : Launch) (hl : l.stackTraces = false) (N : Nat) :
    ∀ d mi y cc hh, M mi = some (y, cc, hh) → ∀ av h o h', ai_call P L xs N d mi av h = some (o, h') → ∀ ρ, ai_Met l y Ts (ai_rm d h h') (ai_Pre cl P.2.2.2.2.1 D dA b0 L xs ρ h av) (fun q => b0 ≤ q) (ai_Qr cl D dA b0 ρ h o h') (ai_Qt cl D dA b0 ex ρ h o h') := by
  intro d
  induction d with
  | zero => intro mi y cc hh _ av h o h' hc; cases hc
  | succ d ihd =>
    intro mi y cc hh hM av h o h' hc ρ
    unfold ai_call at hc
    split at hc
    · rename_i hfit
      obtain ⟨pl1, pl2, pl3, pl4, pl5, pl6, rows⟩ := hmo _ _ _ _ hM
      have hm := ai_run_mono (ai_call_mono d) _ _ _ _ _ _ _ hc
      refine MetFree.of_bodySF (code := cc) (maxLocals := (P.2.2.1 mi).1) (ret := (P.2.2.1 mi).2) pl1 ?_ ?_
      · intro args s m hpre hn
        obtain ⟨mk, methY, cd, g1, g2, g3, g4, g5, g6, g7, g8, g9⟩ := ai_cw_spec (atoms_spec (ws := Ts) hpre) pl4
        cases hn.symm.trans g1
        exact ⟨methY, cd, g2, g3, g4, g5, g7, g8⟩
      · intro p e s m args below meth c s₁ Bd hml hP _
        obtain ⟨rfl, hR, hK, hB0, hav, hsc, hz⟩ := hP
        have hts := atoms_spec (ws := Ts) Bd.pre
        have hown : s.vm.findClass y.cls = some m.cls := findClass_of_methodNamed Bd.named
        have hh0 : s₁.heap = s.heap := by rw [Bd.state]; rfl
        have X₀ := Stand.of_body Bd
        have htab : c.exceptionTable.toList.map (fun x => (x.startPc, x.endPc, x.handlerPc, x.catchType)) = hh := by
          obtain ⟨mk, methY, cd, g1, g2, g3, g4, g5, g6, -⟩ := ai_cw_spec hts pl4
          cases Bd.named.symm.trans g1
          cases Bd.method.symm.trans g2
          cases X₀.code.symm.trans g3
          exact g6
        have kr : ai_KR cl P mi D dA b0 p l e (ai_rm (d + 1) h h') s m (av.map (ai_v ρ)).toArray below meth c (ai_Qf below (fun q => b0 ≤ q) (ai_rm (d + 1) h h').cells (ai_rm (d + 1) h h').slots (ai_Qr cl D dA b0 ρ h o h') (ai_Qt cl D dA b0 ex ρ h o h') (av.map (ai_v ρ)).toArray s) cc ρ h 0 0 o h' := by
          intro w ρ' H' locs' cells' slots' lsB pc' ins w1 w2 w3 w4 w5 w6 w7 w8 w9
          have hcells : cells' = (ai_rm (d + 1) h h').cells := by show cells' = h'.2.2.1 - h.2.2.1; omega
          have hslots : slots' = (ai_rm (d + 1) h h').slots := by show slots' = h'.2.2.2 - h.2.2.2; omega
          subst hcells; subst hslots
          have fin : ∀ (v : Option Value), v = w.map (ai_v ρ') → ∀ t : State, t.heap = H' → s.WarmedH t.vm → ai_Qr cl D dA b0 ρ h o h' s v t := fun v hv t ht _ => ⟨ρ', w, w1, hv, w2, by rw [ht]; exact w3, w5, w4.F ht⟩
          have out : ∀ t, MQ below (fun _ st oc t => ∃ v, oc = .returned v ∧ ai_Qr cl D dA b0 ρ h o h' st v t) (av.map (ai_v ρ)).toArray s (ai_rm (d + 1) h h').cells (ai_rm (d + 1) h h').slots (fun q => b0 ≤ q) t → ai_Qf below (fun q => b0 ≤ q) (ai_rm (d + 1) h h').cells (ai_rm (d + 1) h h').slots (ai_Qr cl D dA b0 ρ h o h') (ai_Qt cl D dA b0 ex ρ h o h') (av.map (ai_v ρ)).toArray s t := by
            rintro t ⟨o', b1, b2, ⟨v, rfl, b3⟩, Lq, ⟨-, b4, b5⟩, b6⟩
            exact ⟨_, b1, b2, Lq, b6, b4, b5, Or.inl ⟨v, rfl, b3⟩⟩
          refine ai_W_mono out ?_
          cases ins
          case return_ =>
            simp only [ai_ret] at w9
            split at w9
            · rename_i hret hnil
              cases w9
              exact W.vret Bd.exec Bd.bytes (Bd.returns.trans hret) (fun t ht hW => ⟨none, rfl, fin none rfl t ht hW⟩) w4.2.2 w8 Bd.notSynchronized
            · cases w9
          case ireturn =>
            simp only [ai_ret] at w9
            split at w9
            · rename_i ty x hret hst
              split at w9
              · rename_i hf
                cases w9
                exact W.zret Bd.exec Bd.bytes (Bd.returns.trans hret) (ai_fit_ok (ρ := ρ') hf).1 (fun t ht hW => ⟨some (.int x), rfl, fin _ rfl t ht hW⟩) w4.2.2 w8 Bd.notSynchronized
              · cases w9
            · cases w9
          case areturn =>
            simp only [ai_ret] at w9
            split at w9
            · rename_i nm x hret hst
              cases w9
              exact W.aret Bd.exec Bd.bytes (Bd.returns.trans hret) (Or.inl ⟨_, rfl⟩) (by cases x; exact Or.inl rfl; exact Or.inr ⟨_, rfl⟩) (fun t ht hW => ⟨_, rfl, fin _ rfl t ht hW⟩) w4.2.2 w8 Bd.notSynchronized
            · rename_i nm x hret hst
              cases w9
              exact W.aret Bd.exec Bd.bytes (Bd.returns.trans hret) (Or.inr ⟨_, rfl⟩) (by cases x; exact Or.inl rfl; exact Or.inr ⟨_, rfl⟩) (fun t ht hW => ⟨_, rfl, fin _ rfl t ht hW⟩) w4.2.2 w8 Bd.notSynchronized
            · cases w9
          all_goals (simp [ai_ret] at w9)
        have kt : ai_KT cl D dA b0 ex s below (ai_Qf below (fun q => b0 ≤ q) (ai_rm (d + 1) h h').cells (ai_rm (d + 1) h h').slots (ai_Qr cl D dA b0 ρ h o h') (ai_Qt cl D dA b0 ex ρ h o h') (av.map (ai_v ρ)).toArray s) ρ h 0 0 o h' := by
          intro x t q ce ρ' locs' cells' slots' w1 w2 w3 w4 w5 w6 w7 w8 w9 w10 w11 w12 w13 w14
          have hcells : cells' = (ai_rm (d + 1) h h').cells := by show cells' = h'.2.2.1 - h.2.2.1; omega
          have hslots : slots' = (ai_rm (d + 1) h h').slots := by show slots' = h'.2.2.2 - h.2.2.2; omega
          subst hcells; subst hslots
          exact ⟨.threw q, w2, w3, locs', w6, w4, w5, Or.inr ⟨q, rfl, ρ', x, ce, w1, w7, w8, w9, w10, w11, w12⟩⟩
        have hw := ai_frame (p := p) (l := l) (e := e) (R := ai_rm (d + 1) h h') (s := s) (m := m) (args := (av.map (ai_v ρ)).toArray) (below := below) (meth := meth) (c := c) (cc := cc) (mi := mi)
          hgood hcl hasg hmo rows Bd.exec Bd.bytes hml hown hts Bd.notSynchronized (name_of_methodNamed Bd.named Bd.method).1 htab hK hB0 hl hz (d := d) (by show d + 13 ≤ d + 1 + 12; omega) (by show 64 * d + 364 ≤ 64 * (d + 1) + 300; omega) (ai_call_mono d) ihd
          _ _ _ _ _ _ _ hc ρ s.heap [] 0 0 _ hR va_S.rf (ai_ent_lr hfit) (by simp; omega) (fun _ z => (nomatch z)) (fun v hv => by
            rcases List.mem_append.mp hv with z | z
            · exact ai_ent_ok hav v z
            · exact absurd (List.eq_of_mem_replicate z) (by simp)) hsc (by show 0 + h'.2.2.1 ≤ (h'.2.2.1 - h.2.2.1) + h.2.2.1; omega) (by show 0 + h'.2.2.2 ≤ (h'.2.2.2 - h.2.2.2) + h.2.2.2; omega) kr kt
        have e9 : (F0 m 0 ((lg_sl (av.map (ai_v ρ)) ++ List.replicate ((P.2.2.1 mi).1 - (lg_sl (av.map (ai_v ρ))).length) Slot.unset).toArray) (List.map (ai_v ρ) [])) = entryFrame m (av.map (ai_v ρ)).toArray (P.2.2.1 mi).1 := (lg_entry_eq m (av.map (ai_v ρ)) (P.2.2.1 mi).1).symm
        rw [e9] at hw
        obtain ⟨t, a1, o', b1, b2, b3⟩ := hw s₁ hh0 X₀
        exact ⟨t, o', a1, b1, b2, b3⟩
    · cases hc
end AIS
end
section
/-! Rows of code checked by tables of numbers. -/
def ai_has (F : List (Nat × Nat × Nat × Nat)) (a b c d : Nat) : Bool := F.any fun q => Nat.beq q.1 a && (Nat.beq q.2.1 b && (Nat.beq q.2.2.1 c && Nat.beq q.2.2.2 d))
theorem ai_has_ok {F : List (Nat × Nat × Nat × Nat)} {a b c d : Nat} (e : ai_has F a b c d = true) : (a, b, c, d) ∈ F := by
  unfold ai_has at e
  obtain ⟨q, hq, e⟩ := List.any_eq_true.mp e
  simp only [Bool.and_eq_true, Nat.beq_eq] at e
  obtain ⟨e1, e2, e3, e4⟩ := e
  obtain ⟨q1, q2, q3, q4⟩ := q
  simp only at e1 e2 e3 e4
  subst e1; subst e2; subst e3; subst e4
  exact hq
def ai_jokB (ins : Instr) (pc : Nat) (ks : List Nat) : Bool := match ins with
  | .goto off => decide ((pc : Int) + off = (ks.getD 0 0 : Nat))
  | .ifCond _ off => decide ((pc : Int) + off = (ks.getD 0 0 : Nat))
  | .if_icmp _ off => decide ((pc : Int) + off = (ks.getD 0 0 : Nat))
  | .ifnull off => decide ((pc : Int) + off = (ks.getD 0 0 : Nat))
  | .ifnonnull off => decide ((pc : Int) + off = (ks.getD 0 0 : Nat))
  | .tableswitch d lo hi offs => decide ((pc : Int) + d = (ks.getD 0 0 : Nat)) && (List.range (hi - lo + 1).toNat).all fun j => match offs[j]? with
    | some off => decide ((pc : Int) + off = (ks.getD (1 + j) 0 : Nat))
    | none => false
  | .lookupswitch d ps => (ps.toList.zip (ps.toList.drop 1)).all (fun (a, next) => a.1 < next.1) && (decide ((pc : Int) + d = (ks.getD 0 0 : Nat)) && (decide (ks.length = ps.toList.length + 1) && (List.range ps.toList.length).all fun j => decide ((pc : Int) + (ps.toList.getD j (0, 0)).2 = (ks.getD (1 + j) 0 : Nat))))
  | _ => true
theorem ai_jokB_ok {ins : Instr} {pc : Nat} {ks : List Nat} (h : ai_jokB ins pc ks = true) : ai_jok ins pc ks := by
  cases ins
  case goto off =>
    have h : decide ((pc : Int) + off = (ks.getD 0 0 : Nat)) = true := h
    have h2 := of_decide_eq_true h
    exact h2
  case ifCond q off =>
    have h : decide ((pc : Int) + off = (ks.getD 0 0 : Nat)) = true := h
    have h2 := of_decide_eq_true h
    exact h2
  case if_icmp q off =>
    have h : decide ((pc : Int) + off = (ks.getD 0 0 : Nat)) = true := h
    have h2 := of_decide_eq_true h
    exact h2
  case ifnull off =>
    have h : decide ((pc : Int) + off = (ks.getD 0 0 : Nat)) = true := h
    have h2 := of_decide_eq_true h
    exact h2
  case ifnonnull off =>
    have h : decide ((pc : Int) + off = (ks.getD 0 0 : Nat)) = true := h
    have h2 := of_decide_eq_true h
    exact h2
  case tableswitch d lo hi offs =>
    simp only [ai_jokB, Bool.and_eq_true] at h
    refine ⟨of_decide_eq_true h.1, fun j hj => ?_⟩
    have := List.all_eq_true.mp h.2 j (List.mem_range.mpr hj)
    cases ho : offs[j]? with
    | none => rw [ho] at this; cases this
    | some off =>
      rw [ho] at this
      exact ⟨off, rfl, of_decide_eq_true this⟩
  case lookupswitch d ps =>
    simp only [ai_jokB, Bool.and_eq_true] at h
    refine ⟨h.1, of_decide_eq_true h.2.1, of_decide_eq_true h.2.2.1, fun j hj => ?_⟩
    exact of_decide_eq_true (List.all_eq_true.mp h.2.2.2 j (List.mem_range.mpr hj))
  all_goals trivial
def ai_atn : ClassFile.ArrayType → Nat
  | .int => 0
  | .char => 1
  | .boolean => 2
  | .long => 3
  | _ => 9
def ai_hokB (F : Nat → List (Nat × Nat × Nat × Nat)) (o : Nat) (ini : Bool) (ins : Instr) (ks : List Nat) : Bool := match ins with
  | .ldc idx => ai_has (F 7) o idx (ks.getD 0 0) 0
  | .ldc_w idx => ai_has (F 7) o idx (ks.getD 0 0) 0
  | .ldc2_w idx => ai_has (F 8) o idx (ks.getD 0 0) 0
  | .getfield idx => ai_has (F 0) o idx (ks.getD 0 0) (ks.getD 1 0)
  | .putfield idx => ai_has (F 1) o idx (ks.getD 0 0) (ks.getD 1 0) || (ini && ai_has (F 2) o idx (ks.getD 0 0) (ks.getD 1 0))
  | .new idx => ai_has (F 3) o idx (ks.getD 0 0) 0
  | .newarray at_ => ai_has (F 4) (ai_atn at_) (ks.getD 0 0) 0 0
  | .anewarray idx => ai_has (F 5) o idx (ks.getD 0 0) 0
  | .checkcast idx => ai_has (F 6) o idx (ks.getD 0 0) 0
  | _ => true
/-- the facts behind the tables of what works on the heap -/
def ai_FH (Ts : List Cond) (cl : List vw_C) (tyL : List FieldType) (tyF : Nat → Nat → FieldType) (dfl : Nat → List ai_V) (own : Nat → String) (F : Nat → List (Nat × Nat × Nat × Nat)) : Prop :=
  (∀ q ∈ F 0, ai_fok Ts cl (own q.1) q.2.1 q.2.2.1 q.2.2.2) ∧ (∀ q ∈ F 1, ∀ mn, ai_pok Ts cl (own q.1) mn q.2.1 q.2.2.1 q.2.2.2) ∧ (∀ q ∈ F 2, ai_pok Ts cl (own q.1) "<init>" q.2.1 q.2.2.1 q.2.2.2) ∧
  (∀ q ∈ F 3, ∃ (C : String) (T : u_T) (N : Nat), cl[q.2.2.1]? = some (C, T, N) ∧ Cond.classLink (own q.1) q.2.1 C ∈ Ts ∧ Cond.instantiable C N ∈ Ts ∧ Cond.initialized C ∈ Ts ∧ (dfl q.2.2.1).length = N ∧ ∀ j, j < N → ai_v (fun _ => 0) ((dfl q.2.2.1).getD j (.inr (.inr none))) = defaultValue (tyF q.2.2.1 j) ∧ ∀ a, (dfl q.2.2.1).getD j (.inr (.inr none)) ≠ .inr (.inr (some a))) ∧
  (∀ q ∈ F 4, ∀ at_, ai_atn at_ = q.1 → tyL.getD q.2.1 .float = newarray.typeOf at_ ∧ newarray.typeOf at_ ≠ .float ∧ newarray.typeOf at_ ≠ .double ∧ Cond.arrayClass (newarray.typeOf at_) ∈ Ts) ∧
  (∀ q ∈ F 5, ∃ C, tyL.getD q.2.2.1 .float = .object C ∧ Cond.classLink (own q.1) q.2.1 C ∈ Ts ∧ Cond.arrayOver (.object C) ∈ Ts) ∧
  (∀ q ∈ F 6, ∃ (C : String) (T : u_T) (N : Nat), cl[q.2.2.1]? = some (C, T, N) ∧ Cond.classLink (own q.1) q.2.1 C ∈ Ts) ∧
  (∀ q ∈ F 7, Cond.constant (own q.1) q.2.1 (Int32.ofNat q.2.2.1) ∈ Ts) ∧ ∀ q ∈ F 8, Cond.constantLong (own q.1) q.2.1 (Int64.ofNat q.2.2.1) ∈ Ts
theorem ai_hokB_ok {Ts : List Cond} {cl : List vw_C} {tyL : List FieldType} {tyF : Nat → Nat → FieldType} {dfl : Nat → List ai_V} {own : Nat → String} {F : Nat → List (Nat × Nat × Nat × Nat)} (h : ai_FH Ts cl tyL tyF dfl own F) {o : Nat} {ini : Bool} {mn : String} (hi : ini = true → mn = "<init>") {ins : Instr} {ks : List Nat}
    (e : ai_hokB F o ini ins ks = true) : ai_hok Ts cl tyL tyF dfl (own o) mn ins ks := by
  obtain ⟨h0, h1, h2, h3, h4, h5, h6, h7, h8⟩ := h
  cases ins
  case ldc idx => exact h7 _ (ai_has_ok e)
  case ldc_w idx => exact h7 _ (ai_has_ok e)
  case ldc2_w idx => exact h8 _ (ai_has_ok e)
  case getfield idx => exact h0 _ (ai_has_ok e)
  case putfield idx =>
    simp only [ai_hokB, Bool.or_eq_true, Bool.and_eq_true] at e
    rcases e with e | ⟨e1, e⟩
    · exact h1 _ (ai_has_ok e) mn
    · rw [hi e1]
      exact h2 _ (ai_has_ok e)
  case new idx => exact h3 _ (ai_has_ok e)
  case newarray at_ => exact h4 _ (ai_has_ok e) at_ rfl
  case anewarray idx => exact h5 _ (ai_has_ok e)
  case checkcast idx => exact h6 _ (ai_has_ok e)
  all_goals trivial
/-- calls: whose class, which link, which kind, whom, how many arguments, which class -/
def ai_has6 (F : List (Nat × Nat × Nat × Nat × Nat × Nat)) (a b c d e f : Nat) : Bool := F.any fun q => Nat.beq q.1 a && (Nat.beq q.2.1 b && (Nat.beq q.2.2.1 c && (Nat.beq q.2.2.2.1 d && (Nat.beq q.2.2.2.2.1 e && Nat.beq q.2.2.2.2.2 f))))
theorem ai_has6_ok {F : List (Nat × Nat × Nat × Nat × Nat × Nat)} {a b c d e f : Nat} (h : ai_has6 F a b c d e f = true) : (a, b, c, d, e, f) ∈ F := by
  unfold ai_has6 at h
  obtain ⟨q, hq, e⟩ := List.any_eq_true.mp h
  simp only [Bool.and_eq_true, Nat.beq_eq] at e
  obtain ⟨e1, e2, e3, e4, e5, e6⟩ := e
  obtain ⟨q1, q2, q3, q4, q5, q6⟩ := q
  simp only at e1 e2 e3 e4 e5 e6
  subst e1; subst e2; subst e3; subst e4; subst e5; subst e6
  exact hq
def ai_ci (kd idx : Nat) : Instr := if kd = 0 then .invokevirtual idx else if kd = 1 then .invokespecial idx else .invokestatic idx
def ai_callB (C6 : List (Nat × Nat × Nat × Nat × Nat × Nat)) (o : Nat) (ins : Instr) (ks : List Nat) : Bool := match ins, ks with
  | .invokevirtual idx, [a, b, c] => ai_has6 C6 o idx 0 a b c
  | .invokespecial idx, [a, b, c] => ai_has6 C6 o idx 1 a b c
  | .invokestatic idx, [a, b, c] => ai_has6 C6 o idx 2 a b c
  | _, _ => false
def ai_thrB (F : Nat → List (Nat × Nat × Nat × Nat)) (o : Nat) (cc : ByteArray) (hh : List (Nat × Nat × Nat × Nat)) (pc : Nat) (ins : Instr) (ks : List Nat) : Bool := match ins with
  | .new ik => match decode cc (pc + 4) with
    | .ok (.invokespecial ic, 3) => decide (decode cc (pc + 3) = .ok (.dup, 1)) && (decide (decode cc (pc + 7) = .ok (.athrow, 1)) && (ai_has (F 13) o ik ic (ks.getD 0 0) && hh.all fun q => !ai_cov q (pc + 7)))
    | _ => false
  | _ => false
def ai_oneB (F : List (Nat × Nat × Nat × Nat)) (o : Nat) (ins : Instr) : Bool := match ins with
  | .invokespecial idx => ai_has F o idx 1 0
  | .invokestatic idx => ai_has F o idx 2 0
  | _ => false
def ai_extB (F : List (Nat × Nat × Nat × Nat)) (o pc : Nat) (ins : Instr) (ks : List Nat) : Bool := match ks.getD 0 0 with
  | 0 => match ins with
    | .getstatic idx => ai_has F o idx 0 0
    | _ => false
  | 1 => match ins with
    | .ldc idx => ai_has F o idx 1 0
    | _ => false
  | 2 => match ins with
    | .invokevirtual idx => ai_has F o idx 2 0
    | _ => false
  | 3 => match ins with
    | .if_acmp .eq off => decide ((pc : Int) + off = (ks.getD 1 0 : Nat))
    | _ => false
  | 4 => match ins with
    | .if_acmp .ne off => decide ((pc : Int) + off = (ks.getD 1 0 : Nat))
    | _ => false
  | 5 => match ins with
    | .invokestatic idx => ai_has F o idx 5 0
    | _ => false
  | 6 => match ins with
    | .invokestatic idx => ai_has F o idx 5 0
    | _ => false
  | _ => false
/-- the facts behind the other tables -/
def ai_FO (Ts : List Cond) (cl : List vw_C) (M : ai_M) (ex : Nat → String) (own : Nat → String) (F : Nat → List (Nat × Nat × Nat × Nat)) (C6 : List (Nat × Nat × Nat × Nat × Nat × Nat)) : Prop :=
  (∀ q ∈ C6, ∃ (y' : MethodName) (cc' : ByteArray) (hh' : List (Nat × Nat × Nat × Nat)) (n : Nat), M q.2.2.2.1 = some (y', cc', hh') ∧ (parseMethodDescriptor y'.desc).map (fun d => d.parameters.length) = some n ∧ ai_iok Ts cl (own q.1) y' n (ai_ci q.2.2.1 q.2.1) [q.2.2.2.1, q.2.2.2.2.1, q.2.2.2.2.2]) ∧
  (∀ q ∈ F 13, ∃ ns : List String, ai_tok Ts (own q.1) (ex q.2.2.2) ns q.2.1 q.2.2.1 ∧ ns.length ≤ 6) ∧
  (∀ q ∈ F 10, q.2.2.1 = 1 → Cond.methodLink (own q.1) q.2.1 Lib.objectInit ∈ Ts ∧ Cond.instanceMethod Lib.objectInit ∈ Ts ∧ Cond.code Lib.objectInit ⟨#[0xb1]⟩ 1 none ∈ Ts) ∧ (∀ q ∈ F 10, q.2.2.1 = 1) ∧
  (∀ q ∈ F 11, q.2.2.1 = 2 → Cond.methodLink (own q.1) q.2.1 Lib.Math.max.name ∈ Ts ∧ Cond.static Lib.Math.max.name ∈ Ts ∧ Cond.initialized "java/lang/Math" ∈ Ts ∧ Cond.code Lib.Math.max.name Lib.Math.max.code 2 (some .int) ∈ Ts) ∧ (∀ q ∈ F 11, q.2.2.1 = 2) ∧
  (∀ q ∈ F 12, q.2.2.1 = 2 → Cond.methodLink (own q.1) q.2.1 Lib.Math.min.name ∈ Ts ∧ Cond.static Lib.Math.min.name ∈ Ts ∧ Cond.initialized "java/lang/Math" ∈ Ts ∧ Cond.code Lib.Math.min.name Lib.Math.min.code 2 (some .int) ∈ Ts) ∧ (∀ q ∈ F 12, q.2.2.1 = 2) ∧
  (∀ q ∈ F 14, q.2.2.1 = 0 → Cond.fieldLink (own q.1) q.2.1 "java/util/ArrayList" "DEFAULTCAPACITY_EMPTY_ELEMENTDATA" "[Ljava/lang/Object;" ∈ Ts) ∧
  (∀ q ∈ F 14, q.2.2.1 = 1 → Cond.classLink (own q.1) q.2.1 "[Ljava/lang/Object;" ∈ Ts) ∧
  (∀ q ∈ F 14, q.2.2.1 = 2 → Cond.methodLink (own q.1) q.2.1 ai_gc ∈ Ts ∧ Cond.declares ai_gc ∈ Ts ∧ Cond.selects "[Ljava/lang/Object;" ai_gc ai_gc ∈ Ts ∧ Cond.instanceMethod ai_gc ∈ Ts ∧ Cond.native ai_gc ∈ Ts) ∧
  ∀ q ∈ F 14, q.2.2.1 = 5 → Cond.methodLink (own q.1) q.2.1 arraycopyName ∈ Ts ∧ Cond.native arraycopyName ∈ Ts ∧ Cond.static arraycopyName ∈ Ts ∧ Cond.initialized "java/lang/System" ∈ Ts
def ai_l3 (kd len : Nat) : Bool := Nat.beq kd 4 || Nat.beq kd 6 || Nat.beq kd 7 || Nat.beq kd 8 || Nat.beq kd 9
/-- a row is right -/
def ai_chk (F : Nat → List (Nat × Nat × Nat × Nat)) (C6 : List (Nat × Nat × Nat × Nat × Nat × Nat)) (Wr : Nat → Nat → Bool) (o : Nat) (ini : Bool) (mi : Nat) (cc : ByteArray) (hh : List (Nat × Nat × Nat × Nat)) (q : Nat × ai_I) : Bool := match decode cc q.1 with
  | .ok (i2, len) => decide (i2 = q.2.2.1) && (ai_lok q.2.2.1 len && match q.2.1 with
    | 0 => true
    | 1 => ai_jokB q.2.2.1 q.1 q.2.2.2
    | 2 => true
    | 3 => ai_hokB F o ini q.2.2.1 q.2.2.2
    | 4 => Nat.beq len 3 && (Wr mi q.1 && ai_callB C6 o q.2.2.1 q.2.2.2)
    | 5 => true
    | 6 => Nat.beq len 3 && ai_thrB F o cc hh q.1 q.2.2.1 q.2.2.2
    | 7 => Nat.beq len 3 && ai_oneB (F 10) o q.2.2.1
    | 8 => Nat.beq len 3 && ai_oneB (F 11) o q.2.2.1
    | 9 => Nat.beq len 3 && ai_oneB (F 12) o q.2.2.1
    | 10 => (Nat.beq len (if q.2.2.2.getD 0 0 = 1 then 2 else 3)) && ai_extB (F 14) o q.1 q.2.2.1 q.2.2.2
    | _ => false)
  | _ => false
section AICK
variable {Ts : List Cond} {cl : List vw_C} {P : ai_P} {M : ai_M} {ex : Nat → String} {own : Nat → String} {F : Nat → List (Nat × Nat × Nat × Nat)} {C6 : List (Nat × Nat × Nat × Nat × Nat × Nat)} {Wr : Nat → Nat → Bool}
theorem ai_callB_ok (h : ∀ q ∈ C6, ∃ (y' : MethodName) (cc' : ByteArray) (hh' : List (Nat × Nat × Nat × Nat)) (n : Nat), M q.2.2.2.1 = some (y', cc', hh') ∧ (parseMethodDescriptor y'.desc).map (fun d => d.parameters.length) = some n ∧ ai_iok Ts cl (own q.1) y' n (ai_ci q.2.2.1 q.2.1) [q.2.2.2.1, q.2.2.2.2.1, q.2.2.2.2.2]) {o : Nat} {ins : Instr} {ks : List Nat} (e : ai_callB C6 o ins ks = true) :
    ∃ (y' : MethodName) (cc' : ByteArray) (hh' : List (Nat × Nat × Nat × Nat)) (n : Nat), M (ks.getD 0 0) = some (y', cc', hh') ∧ (parseMethodDescriptor y'.desc).map (fun d => d.parameters.length) = some n ∧ ai_iok Ts cl (own o) y' n ins ks := by
  unfold ai_callB at e
  split at e
  · exact h _ (ai_has6_ok e)
  · exact h _ (ai_has6_ok e)
  · exact h _ (ai_has6_ok e)
  · cases e
theorem ai_extB_ok (o6 : ∀ q ∈ F 14, q.2.2.1 = 0 → Cond.fieldLink (own q.1) q.2.1 "java/util/ArrayList" "DEFAULTCAPACITY_EMPTY_ELEMENTDATA" "[Ljava/lang/Object;" ∈ Ts)
    (o7 : ∀ q ∈ F 14, q.2.2.1 = 1 → Cond.classLink (own q.1) q.2.1 "[Ljava/lang/Object;" ∈ Ts)
    (o8 : ∀ q ∈ F 14, q.2.2.1 = 2 → Cond.methodLink (own q.1) q.2.1 ai_gc ∈ Ts ∧ Cond.declares ai_gc ∈ Ts ∧ Cond.selects "[Ljava/lang/Object;" ai_gc ai_gc ∈ Ts ∧ Cond.instanceMethod ai_gc ∈ Ts ∧ Cond.native ai_gc ∈ Ts)
    (o9 : ∀ q ∈ F 14, q.2.2.1 = 5 → Cond.methodLink (own q.1) q.2.1 arraycopyName ∈ Ts ∧ Cond.native arraycopyName ∈ Ts ∧ Cond.static arraycopyName ∈ Ts ∧ Cond.initialized "java/lang/System" ∈ Ts)
    {o pc len : Nat} {ins : Instr} {ks : List Nat} (e5 : len = if ks.getD 0 0 = 1 then 2 else 3) (e4 : ai_extB (F 14) o pc ins ks = true) : ai_xok Ts (own o) pc len ins ks := by
  unfold ai_extB at e4
  unfold ai_xok
  generalize ks.getD 0 0 = w at e4 e5 ⊢
  split at e4
  · split at e4
    · exact ⟨e5, _, rfl, o6 _ (ai_has_ok e4) rfl⟩
    · cases e4
  · split at e4
    · exact ⟨e5, _, rfl, o7 _ (ai_has_ok e4) rfl⟩
    · cases e4
  · split at e4
    · exact ⟨e5, _, rfl, o8 _ (ai_has_ok e4) rfl⟩
    · cases e4
  · split at e4
    · exact ⟨e5, _, rfl, of_decide_eq_true e4⟩
    · cases e4
  · split at e4
    · exact ⟨e5, _, rfl, of_decide_eq_true e4⟩
    · cases e4
  · split at e4
    · exact ⟨e5, _, rfl, o9 _ (ai_has_ok e4) rfl⟩
    · cases e4
  · split at e4
    · exact ⟨e5, _, rfl, o9 _ (ai_has_ok e4) rfl⟩
    · cases e4
  · cases e4
set_option maxHeartbeats 1000000 in
theorem ai_chk_ok (hF : ai_FH Ts cl P.2.2.2.2.1 P.2.2.2.2.2.1 P.2.2.2.1 own F) (hO : ai_FO Ts cl M ex own F C6) {o : Nat} {ini : Bool} {mi : Nat} {y : MethodName} {cc : ByteArray} {hh : List (Nat × Nat × Nat × Nat)} (hi : ini = true → y.name = "<init>") (ho : own o = y.cls)
    (hW : ∀ pc, Wr mi pc = true → ai_hnd Ts y.cls hh ex (P.2.1 mi pc) pc) {q : Nat × ai_I} (e : ai_chk F C6 Wr o ini mi cc hh q = true) : ai_rok Ts cl P M ex mi y cc hh q.1 q.2 := by
  obtain ⟨o1, o2, o3, o3', o4, o4', o5, o5', o6, o7, o8, o9⟩ := hO
  obtain ⟨pc, kd, ins, ks⟩ := q
  unfold ai_chk at e
  split at e
  · rename_i i2 len hd
    simp only [Bool.and_eq_true] at e
    obtain ⟨e1, e2, e3⟩ := e
    have e1 : i2 = ins := of_decide_eq_true e1
    subst e1
    refine ⟨len, hd, e2, ?_, ?_, ?_, ?_, ?_, ?_, ?_, ?_⟩
    · intro hk
      have hk : kd = 1 := hk
      subst hk
      exact ai_jokB_ok e3
    · intro hk
      have hk : kd = 3 := hk
      subst hk
      rw [← ho]
      exact ai_hokB_ok hF hi e3
    · intro hk
      have hk : kd = 4 := hk
      subst hk
      simp only [Bool.and_eq_true] at e3
      refine ⟨Nat.eq_of_beq_eq_true e3.1, hW _ e3.2.1, ?_⟩
      rw [← ho]
      exact ai_callB_ok o1 e3.2.2
    · intro hk
      have hk : kd = 6 := hk
      subst hk
      simp only [Bool.and_eq_true] at e3
      refine ⟨Nat.eq_of_beq_eq_true e3.1, ?_⟩
      have e4 := e3.2
      unfold ai_thrB at e4
      split at e4
      · rename_i ik
        split at e4
        · rename_i ic hd4
          simp only [Bool.and_eq_true] at e4
          obtain ⟨d3, d7, hh1, hh2⟩ := e4
          obtain ⟨ns, t1, t2⟩ := o2 _ (ai_has_ok hh1)
          rw [← ho]
          refine ⟨ik, ic, ns, rfl, t1, t2, of_decide_eq_true d3, hd4, of_decide_eq_true d7, fun z hz => ?_⟩
          have := List.all_eq_true.mp hh2 z hz
          simpa using this
        · cases e4
      · cases e4
    · intro hk
      have hk : kd = 7 := hk
      subst hk
      simp only [Bool.and_eq_true] at e3
      refine ⟨Nat.eq_of_beq_eq_true e3.1, ?_⟩
      have e4 := e3.2
      rw [← ho]
      unfold ai_oneB at e4
      split at e4
      · rename_i idx
        obtain ⟨a1, a2, a3⟩ := o3 _ (ai_has_ok e4) rfl
        exact ⟨idx, rfl, a1, a2, a3⟩
      · exact absurd (show (2 : Nat) = 1 from o3' _ (ai_has_ok e4)) (by decide)
      · cases e4
    · intro hk
      have hk : kd = 8 := hk
      subst hk
      simp only [Bool.and_eq_true] at e3
      refine ⟨Nat.eq_of_beq_eq_true e3.1, ?_⟩
      have e4 := e3.2
      rw [← ho]
      unfold ai_oneB at e4
      split at e4
      · exact absurd (show (1 : Nat) = 2 from o4' _ (ai_has_ok e4)) (by decide)
      · rename_i idx
        obtain ⟨a1, a2, a3, a4⟩ := o4 _ (ai_has_ok e4) rfl
        exact ⟨idx, rfl, a1, a2, a3, a4⟩
      · cases e4
    · intro hk
      have hk : kd = 9 := hk
      subst hk
      simp only [Bool.and_eq_true] at e3
      refine ⟨Nat.eq_of_beq_eq_true e3.1, ?_⟩
      have e4 := e3.2
      rw [← ho]
      unfold ai_oneB at e4
      split at e4
      · exact absurd (show (1 : Nat) = 2 from o5' _ (ai_has_ok e4)) (by decide)
      · rename_i idx
        obtain ⟨a1, a2, a3, a4⟩ := o5 _ (ai_has_ok e4) rfl
        exact ⟨idx, rfl, a1, a2, a3, a4⟩
      · cases e4
    · intro hk
      have hk : kd = 10 := hk
      subst hk
      simp only [Bool.and_eq_true] at e3
      rw [← ho]
      exact ai_extB_ok o6 o7 o8 o9 (Nat.eq_of_beq_eq_true e3.1) e3.2
  · cases e
/-- a method's table -/
def ai_find2 : List (Nat × ai_I) → Nat → Option ai_I
  | [], _ => none
  | q :: t, pc => match Nat.beq q.1 pc with
    | true => some q.2
    | false => ai_find2 t pc
theorem ai_find2_mem {r : ai_I} {pc : Nat} : ∀ {t : List (Nat × ai_I)}, ai_find2 t pc = some r → (pc, r) ∈ t
  | [], h => by cases h
  | q :: t, h => by
    unfold ai_find2 at h
    split at h
    · rename_i hb
      cases h
      have : q.1 = pc := Nat.eq_of_beq_eq_true hb
      subst this
      exact List.mem_cons_self
    · exact List.mem_cons_of_mem _ (ai_find2_mem h)
theorem ai_rows_ok (hF : ai_FH Ts cl P.2.2.2.2.1 P.2.2.2.2.2.1 P.2.2.2.1 own F) (hO : ai_FO Ts cl M ex own F C6) {o : Nat} {ini : Bool} {mi : Nat} {y : MethodName} {cc : ByteArray} {hh : List (Nat × Nat × Nat × Nat)} (hi : ini = true → y.name = "<init>") (ho : own o = y.cls)
    (hW : ∀ pc, Wr mi pc = true → ai_hnd Ts y.cls hh ex (P.2.1 mi pc) pc) {t : List (Nat × ai_I)} (ht : ∀ pc, P.1 mi pc = ai_find2 t pc) (e : t.all (ai_chk F C6 Wr o ini mi cc hh) = true) : ∀ pc r, P.1 mi pc = some r → ai_rok Ts cl P M ex mi y cc hh pc r := by
  intro pc r hr
  rw [ht] at hr
  have hm := List.all_eq_true.mp e (pc, r) (ai_find2_mem hr)
  exact ai_chk_ok (q := (pc, r)) hF hO hi ho hW hm
/-- all of a list -/
def ai_allQ {α : Type} (Q : Nat → α → Prop) : Nat → List α → Prop
  | _, [] => True
  | k, x :: r => Q k x ∧ ai_allQ Q (k + 1) r
theorem ai_allQ_at {α : Type} {Q : Nat → α → Prop} : ∀ {l : List α} {k i : Nat} {v : α}, ai_allQ Q k l → l[i]? = some v → Q (k + i) v
  | [], _, _, _, _, h => by simp at h
  | x :: r, k, 0, v, h, e => by
    simp only [List.getElem?_cons_zero, Option.some.injEq] at e
    rw [← e]
    exact h.1
  | x :: r, k, i + 1, v, h, e => by
    simp only [List.getElem?_cons_succ] at e
    have := ai_allQ_at h.2 e
    rw [show k + (i + 1) = k + 1 + i by omega]
    exact this
end AICK
end
section
/-! THE PROGRAM AS TABLES (written by wip/whole/gen/gen.py out of the claim). -/
def gt_ownL : List String := ["GoalDesk", "GoalDesk$Aparts", "GoalDesk$Choice", "GoalDesk$Clause", "GoalDesk$Pairs", "GoalDesk$Reader", "GoalDesk$Search", "GoalDesk$Steps", "GoalDesk$Terms", "GoalDesk$ToDo", "GoalDesk$Variables", "GoalDesk$Writer", "GoalDeskLaw", "GoalDeskModel", "java/util/AbstractCollection", "java/util/AbstractList", "java/util/ArrayList", "java/util/Arrays", "java/util/Objects", "jdk/internal/util/ArraysSupport", "jdk/internal/util/Preconditions"]
def gt_own (o : Nat) : String := gt_ownL.getD o ""
def gt_F0 : List (String × String × String × Bool) := [("GoalDesk", "text", "[C", true), ("GoalDesk", "length", "I", false), ("GoalDesk", "place", "I", false), ("GoalDesk", "clauses", "[LGoalDesk$Clause;", true), ("GoalDesk", "clauseCount", "I", false), ("GoalDesk", "question", "LGoalDesk$Clause;", true), ("GoalDesk", "asked", "Z", false), ("GoalDesk", "reader", "LGoalDesk$Reader;", true), ("GoalDesk", "search", "LGoalDesk$Search;", true), ("GoalDesk", "writer", "LGoalDesk$Writer;", true)]
def gt_T0 : u_T := fun k => gt_F0.getD k ("", "", "", false)
def gt_F1 : List (String × String × String × Bool) := [("GoalDesk$Terms", "letters", "[C", true), ("GoalDesk$Terms", "arity", "[I", true), ("GoalDesk$Terms", "arguments", "[I", true), ("GoalDesk$Terms", "rank", "[I", true)]
def gt_T1 : u_T := fun k => gt_F1.getD k ("", "", "", false)
def gt_F2 : List (String × String × String × Bool) := [("GoalDesk$Variables", "terms", "LGoalDesk$Terms;", true), ("GoalDesk$Variables", "bound", "[I", false), ("GoalDesk$Variables", "firstAsleep", "[I", false), ("GoalDesk$Variables", "lastAsleep", "[I", false), ("GoalDesk$Variables", "made", "I", false), ("GoalDesk$Variables", "cameToBe", "I", false), ("GoalDesk$Variables", "boundOnes", "[I", true), ("GoalDesk$Variables", "boundCount", "I", false), ("GoalDesk$Variables", "sleeper", "[I", true), ("GoalDesk$Variables", "sleeperBehind", "[I", true), ("GoalDesk$Variables", "sleepers", "I", false), ("GoalDesk$Variables", "grownOn", "[I", true), ("GoalDesk$Variables", "grownBehind", "[I", true), ("GoalDesk$Variables", "grownCount", "I", false)]
def gt_T2 : u_T := fun k => gt_F2.getD k ("", "", "", false)
def gt_F3 : List (String × String × String × Bool) := [("GoalDesk$Clause", "start", "I", true), ("GoalDesk$Clause", "sign", "[C", true), ("GoalDesk$Clause", "left", "[I", true), ("GoalDesk$Clause", "right", "[I", true), ("GoalDesk$Clause", "goals", "I", false), ("GoalDesk$Clause", "rank", "[I", true), ("GoalDesk$Clause", "variables", "I", false)]
def gt_T3 : u_T := fun k => gt_F3.getD k ("", "", "", false)
def gt_F4 : List (String × String × String × Bool) := [("GoalDesk$Reader", "terms", "LGoalDesk$Terms;", true), ("GoalDesk$Reader", "text", "[C", false), ("GoalDesk$Reader", "end", "I", false), ("GoalDesk$Reader", "at", "I", false), ("GoalDesk$Reader", "into", "LGoalDesk$Clause;", false)]
def gt_T4 : u_T := fun k => gt_F4.getD k ("", "", "", false)
def gt_F5 : List (String × String × String × Bool) := [("GoalDesk$Search", "terms", "LGoalDesk$Terms;", true), ("GoalDesk$Search", "variables", "LGoalDesk$Variables;", true), ("GoalDesk$Search", "steps", "LGoalDesk$Steps;", true), ("GoalDesk$Search", "pairs", "LGoalDesk$Pairs;", true), ("GoalDesk$Search", "aparts", "LGoalDesk$Aparts;", true), ("GoalDesk$Search", "clauses", "[LGoalDesk$Clause;", false), ("GoalDesk$Search", "clauseCount", "I", false), ("GoalDesk$Search", "toDoRow", "Ljava/util/ArrayList;", true), ("GoalDesk$Search", "toDoUsed", "I", false), ("GoalDesk$Search", "toDo", "LGoalDesk$ToDo;", false), ("GoalDesk$Search", "choiceRow", "Ljava/util/ArrayList;", true), ("GoalDesk$Search", "choiceCount", "I", false), ("GoalDesk$Search", "answers", "I", false), ("GoalDesk$Search", "taken", "LGoalDesk$Clause;", false), ("GoalDesk$Search", "takenBase", "I", false), ("GoalDesk$Search", "takenBarrier", "I", false)]
def gt_T5 : u_T := fun k => gt_F5.getD k ("", "", "", false)
def gt_F6 : List (String × String × String × Bool) := [("java/util/ArrayList", "elementData", "[Ljava/lang/Object;", false), ("java/util/ArrayList", "size", "I", false), ("java/util/AbstractList", "modCount", "I", false)]
def gt_T6 : u_T := fun k => gt_F6.getD k ("", "", "", false)
def gt_F7 : List (String × String × String × Bool) := [("GoalDesk$Steps", "taken", "I", false)]
def gt_T7 : u_T := fun k => gt_F7.getD k ("", "", "", false)
def gt_F8 : List (String × String × String × Bool) := [("GoalDesk$Pairs", "terms", "LGoalDesk$Terms;", true), ("GoalDesk$Pairs", "variables", "LGoalDesk$Variables;", true), ("GoalDesk$Pairs", "steps", "LGoalDesk$Steps;", true), ("GoalDesk$Pairs", "left", "[I", true), ("GoalDesk$Pairs", "right", "[I", true), ("GoalDesk$Pairs", "open", "I", false), ("GoalDesk$Pairs", "woken", "[I", true), ("GoalDesk$Pairs", "wokenCount", "I", false)]
def gt_T8 : u_T := fun k => gt_F8.getD k ("", "", "", false)
def gt_F9 : List (String × String × String × Bool) := [("GoalDesk$Aparts", "variables", "LGoalDesk$Variables;", true), ("GoalDesk$Aparts", "pairs", "LGoalDesk$Pairs;", true), ("GoalDesk$Aparts", "left", "[I", true), ("GoalDesk$Aparts", "right", "[I", true), ("GoalDesk$Aparts", "waits", "[Z", true), ("GoalDesk$Aparts", "made", "I", false), ("GoalDesk$Aparts", "settled", "[I", true), ("GoalDesk$Aparts", "settledCount", "I", false)]
def gt_T9 : u_T := fun k => gt_F9.getD k ("", "", "", false)
def gt_F10 : List (String × String × String × Bool) := [("GoalDesk$Writer", "terms", "LGoalDesk$Terms;", true), ("GoalDesk$Writer", "variables", "LGoalDesk$Variables;", true), ("GoalDesk$Writer", "written", "[C", true), ("GoalDesk$Writer", "length", "I", false)]
def gt_T10 : u_T := fun k => gt_F10.getD k ("", "", "", false)
def gt_F11 : List (String × String × String × Bool) := [("GoalDesk$ToDo", "sign", "C", false), ("GoalDesk$ToDo", "left", "I", false), ("GoalDesk$ToDo", "right", "I", false), ("GoalDesk$ToDo", "barrier", "I", false), ("GoalDesk$ToDo", "after", "LGoalDesk$ToDo;", false)]
def gt_T11 : u_T := fun k => gt_F11.getD k ("", "", "", false)
def gt_F12 : List (String × String × String × Bool) := [("GoalDesk$Choice", "call", "I", false), ("GoalDesk$Choice", "clause", "I", false), ("GoalDesk$Choice", "toDo", "LGoalDesk$ToDo;", false), ("GoalDesk$Choice", "toDoUsed", "I", false), ("GoalDesk$Choice", "made", "I", false), ("GoalDesk$Choice", "boundCount", "I", false), ("GoalDesk$Choice", "sleepers", "I", false), ("GoalDesk$Choice", "grownCount", "I", false), ("GoalDesk$Choice", "aparts", "I", false), ("GoalDesk$Choice", "settledCount", "I", false)]
def gt_T12 : u_T := fun k => gt_F12.getD k ("", "", "", false)
def gt_F13 : List (String × String × String × Bool) := [("GoalDeskModel", "text", "[I", true), ("GoalDeskModel", "clause", "[I", true), ("GoalDeskModel", "clauseSize", "[I", true), ("GoalDeskModel", "open", "[I", true), ("GoalDeskModel", "many", "[I", true), ("GoalDeskModel", "map", "[I", true), ("GoalDeskModel", "question", "[I", true), ("GoalDeskModel", "size", "I", false), ("GoalDeskModel", "clauses", "I", false), ("GoalDeskModel", "place", "I", false), ("GoalDeskModel", "pos", "I", false), ("GoalDeskModel", "thrown", "I", false), ("GoalDeskModel", "source", "I", false), ("GoalDeskModel", "sourceEnd", "I", false), ("GoalDeskModel", "sign", "[I", true), ("GoalDeskModel", "count", "[I", true), ("GoalDeskModel", "argument", "[I", true), ("GoalDeskModel", "bind", "[I", true), ("GoalDeskModel", "head", "[I", true), ("GoalDeskModel", "tail", "[I", true), ("GoalDeskModel", "kind", "[I", true), ("GoalDeskModel", "left", "[I", true), ("GoalDeskModel", "right", "[I", true), ("GoalDeskModel", "barrier", "[I", true), ("GoalDeskModel", "next", "[I", true), ("GoalDeskModel", "cells", "I", false), ("GoalDeskModel", "variables", "I", false), ("GoalDeskModel", "born", "I", false), ("GoalDeskModel", "goals", "I", false), ("GoalDeskModel", "todo", "I", false), ("GoalDeskModel", "steps", "I", false), ("GoalDeskModel", "answers", "I", false), ("GoalDeskModel", "trail", "I", false), ("GoalDeskModel", "choices", "I", false), ("GoalDeskModel", "sleepers", "I", false), ("GoalDeskModel", "aparts", "I", false), ("GoalDeskModel", "pairs", "I", false), ("GoalDeskModel", "wokenCount", "I", false), ("GoalDeskModel", "asked", "Z", false), ("GoalDeskModel", "bound", "Z", false), ("GoalDeskModel", "trying", "Z", false), ("GoalDeskModel", "trailAt", "[I", true), ("GoalDeskModel", "trailOld", "[I", true), ("GoalDeskModel", "sleepGoal", "[I", true), ("GoalDeskModel", "sleepNext", "[I", true), ("GoalDeskModel", "apartLeft", "[I", true), ("GoalDeskModel", "apartRight", "[I", true), ("GoalDeskModel", "apartGone", "[I", true), ("GoalDeskModel", "pairLeft", "[I", true), ("GoalDeskModel", "pairRight", "[I", true), ("GoalDeskModel", "woken", "[I", true), ("GoalDeskModel", "order", "[I", true), ("GoalDeskModel", "cCall", "[I", true), ("GoalDeskModel", "cClause", "[I", true), ("GoalDeskModel", "cTodo", "[I", true), ("GoalDeskModel", "cCells", "[I", true), ("GoalDeskModel", "cVariables", "[I", true), ("GoalDeskModel", "cGoals", "[I", true), ("GoalDeskModel", "cTrail", "[I", true), ("GoalDeskModel", "cSleepers", "[I", true), ("GoalDeskModel", "cAparts", "[I", true), ("GoalDeskModel", "written", "[I", true), ("GoalDeskModel", "pile", "[I", true), ("GoalDeskModel", "writtenSize", "I", false)]
def gt_T13 : u_T := fun k => gt_F13.getD k ("", "", "", false)
def gt_cl : List vw_C := [("GoalDesk", gt_T0, 10), ("GoalDesk$Terms", gt_T1, 4), ("GoalDesk$Variables", gt_T2, 14), ("GoalDesk$Clause", gt_T3, 7), ("GoalDesk$Reader", gt_T4, 5), ("GoalDesk$Search", gt_T5, 16), ("java/util/ArrayList", gt_T6, 3), ("GoalDesk$Steps", gt_T7, 1), ("GoalDesk$Pairs", gt_T8, 8), ("GoalDesk$Aparts", gt_T9, 8), ("GoalDesk$Writer", gt_T10, 4), ("GoalDesk$ToDo", gt_T11, 5), ("GoalDesk$Choice", gt_T12, 10), ("GoalDeskModel", gt_T13, 64)]
def gt_tyFL : List (List FieldType) := [[(.array .char), .int, .int, (.array (.object "GoalDesk$Clause")), .int, (.object "GoalDesk$Clause"), .boolean, (.object "GoalDesk$Reader"), (.object "GoalDesk$Search"), (.object "GoalDesk$Writer")], [(.array .char), (.array .int), (.array .int), (.array .int)], [(.object "GoalDesk$Terms"), (.array .int), (.array .int), (.array .int), .int, .int, (.array .int), .int, (.array .int), (.array .int), .int, (.array .int), (.array .int), .int], [.int, (.array .char), (.array .int), (.array .int), .int, (.array .int), .int], [(.object "GoalDesk$Terms"), (.array .char), .int, .int, (.object "GoalDesk$Clause")], [(.object "GoalDesk$Terms"), (.object "GoalDesk$Variables"), (.object "GoalDesk$Steps"), (.object "GoalDesk$Pairs"), (.object "GoalDesk$Aparts"), (.array (.object "GoalDesk$Clause")), .int, (.object "java/util/ArrayList"), .int, (.object "GoalDesk$ToDo"), (.object "java/util/ArrayList"), .int, .int, (.object "GoalDesk$Clause"), .int, .int], [(.array (.object "java/lang/Object")), .int, .int], [.int], [(.object "GoalDesk$Terms"), (.object "GoalDesk$Variables"), (.object "GoalDesk$Steps"), (.array .int), (.array .int), .int, (.array .int), .int], [(.object "GoalDesk$Variables"), (.object "GoalDesk$Pairs"), (.array .int), (.array .int), (.array .boolean), .int, (.array .int), .int], [(.object "GoalDesk$Terms"), (.object "GoalDesk$Variables"), (.array .char), .int], [.char, .int, .int, .int, (.object "GoalDesk$ToDo")], [.int, .int, (.object "GoalDesk$ToDo"), .int, .int, .int, .int, .int, .int, .int], [(.array .int), (.array .int), (.array .int), (.array .int), (.array .int), (.array .int), (.array .int), .int, .int, .int, .int, .int, .int, .int, (.array .int), (.array .int), (.array .int), (.array .int), (.array .int), (.array .int), (.array .int), (.array .int), (.array .int), (.array .int), (.array .int), .int, .int, .int, .int, .int, .int, .int, .int, .int, .int, .int, .int, .int, .boolean, .boolean, .boolean, (.array .int), (.array .int), (.array .int), (.array .int), (.array .int), (.array .int), (.array .int), (.array .int), (.array .int), (.array .int), (.array .int), (.array .int), (.array .int), (.array .int), (.array .int), (.array .int), (.array .int), (.array .int), (.array .int), (.array .int), (.array .int), (.array .int), .int]]
def gt_tyF (ci k : Nat) : FieldType := (gt_tyFL.getD ci []).getD k .float
def gt_dflL : List (List ai_V) := [[.inr (.inr none), .inl 0, .inl 0, .inr (.inr none), .inl 0, .inr (.inr none), .inl 0, .inr (.inr none), .inr (.inr none), .inr (.inr none)], [.inr (.inr none), .inr (.inr none), .inr (.inr none), .inr (.inr none)], [.inr (.inr none), .inr (.inr none), .inr (.inr none), .inr (.inr none), .inl 0, .inl 0, .inr (.inr none), .inl 0, .inr (.inr none), .inr (.inr none), .inl 0, .inr (.inr none), .inr (.inr none), .inl 0], [.inl 0, .inr (.inr none), .inr (.inr none), .inr (.inr none), .inl 0, .inr (.inr none), .inl 0], [.inr (.inr none), .inr (.inr none), .inl 0, .inl 0, .inr (.inr none)], [.inr (.inr none), .inr (.inr none), .inr (.inr none), .inr (.inr none), .inr (.inr none), .inr (.inr none), .inl 0, .inr (.inr none), .inl 0, .inr (.inr none), .inr (.inr none), .inl 0, .inl 0, .inr (.inr none), .inl 0, .inl 0], [.inr (.inr none), .inl 0, .inl 0], [.inl 0], [.inr (.inr none), .inr (.inr none), .inr (.inr none), .inr (.inr none), .inr (.inr none), .inl 0, .inr (.inr none), .inl 0], [.inr (.inr none), .inr (.inr none), .inr (.inr none), .inr (.inr none), .inr (.inr none), .inl 0, .inr (.inr none), .inl 0], [.inr (.inr none), .inr (.inr none), .inr (.inr none), .inl 0], [.inl 0, .inl 0, .inl 0, .inl 0, .inr (.inr none)], [.inl 0, .inl 0, .inr (.inr none), .inl 0, .inl 0, .inl 0, .inl 0, .inl 0, .inl 0, .inl 0], [.inr (.inr none), .inr (.inr none), .inr (.inr none), .inr (.inr none), .inr (.inr none), .inr (.inr none), .inr (.inr none), .inl 0, .inl 0, .inl 0, .inl 0, .inl 0, .inl 0, .inl 0, .inr (.inr none), .inr (.inr none), .inr (.inr none), .inr (.inr none), .inr (.inr none), .inr (.inr none), .inr (.inr none), .inr (.inr none), .inr (.inr none), .inr (.inr none), .inr (.inr none), .inl 0, .inl 0, .inl 0, .inl 0, .inl 0, .inl 0, .inl 0, .inl 0, .inl 0, .inl 0, .inl 0, .inl 0, .inl 0, .inl 0, .inl 0, .inl 0, .inr (.inr none), .inr (.inr none), .inr (.inr none), .inr (.inr none), .inr (.inr none), .inr (.inr none), .inr (.inr none), .inr (.inr none), .inr (.inr none), .inr (.inr none), .inr (.inr none), .inr (.inr none), .inr (.inr none), .inr (.inr none), .inr (.inr none), .inr (.inr none), .inr (.inr none), .inr (.inr none), .inr (.inr none), .inr (.inr none), .inr (.inr none), .inr (.inr none), .inl 0]]
def gt_dfl (ci : Nat) : List ai_V := gt_dflL.getD ci []
def gt_tyL : List FieldType := [.int, .char, .boolean, .long, .object "GoalDesk$Clause", .object "java/lang/Object"]
def gt_asg (t cj : Nat) : Bool := (Nat.beq t 4 && Nat.beq cj 3) || (Nat.beq t 5 && (Nat.beq cj 11 || Nat.beq cj 12))
def gt_exL : List String := ["java/lang/IllegalArgumentException", "java/lang/IllegalStateException", "java/util/NoSuchElementException", "java/lang/UnsupportedOperationException"]
def gt_ex (x : Nat) : String := gt_exL.getD x ""
/-- GoalDesk <init> ()V -/
def gt_t0 : List (Nat × ai_I) := [(0, 2, .aload_n 0, []), (1, 7, .invokespecial 3, []), (4, 2, .aload_n 0, []), (5, 0, .bipush 48, []), (7, 3, .newarray .char, [1, 10]), (9, 3, .putfield 9, [0, 0]), (12, 2, .aload_n 0, []), (13, 0, .iconst 0, []), (14, 3, .putfield 13, [0, 1]), (17, 2, .aload_n 0, []), (18, 0, .iconst (-1), []), (19, 3, .putfield 17, [0, 2]), (22, 2, .aload_n 0, []), (23, 0, .bipush 12, []), (25, 3, .anewarray 20, [4, 11]), (28, 3, .putfield 22, [0, 3]), (31, 2, .aload_n 0, []), (32, 0, .iconst 0, []), (33, 3, .putfield 26, [0, 4]), (36, 2, .aload_n 0, []), (37, 0, .iconst 0, []), (38, 3, .putfield 29, [0, 6]), (41, 3, .new 33, [1, 12]), (44, 0, .dup, []), (45, 4, .invokespecial 35, [1, 1, 0]), (48, 2, .astore_n 1, []), (49, 3, .new 36, [2, 13]), (52, 0, .dup, []), (53, 2, .aload_n 1, []), (54, 4, .invokespecial 38, [2, 2, 0]), (57, 2, .astore_n 2, []), (58, 0, .iconst 0, []), (59, 2, .istore_n 3, []), (60, 2, .iload_n 3, []), (61, 0, .bipush 12, []), (63, 1, .if_icmp .ge 26, [89]), (66, 2, .aload_n 0, []), (67, 3, .getfield 22, [0, 3]), (70, 2, .iload_n 3, []), (71, 3, .new 20, [3, 14]), (74, 0, .dup, []), (75, 2, .iload_n 3, []), (76, 0, .bipush 48, []), (78, 0, .imul, []), (79, 4, .invokespecial 41, [3, 2, 0]), (82, 3, .aastore, []), (83, 2, .iinc 3 1, []), (86, 1, .goto (-26), [60]), (89, 2, .aload_n 0, []), (90, 3, .new 20, [3, 15]), (93, 0, .dup, []), (94, 0, .sipush 576, []), (97, 4, .invokespecial 41, [3, 2, 0]), (100, 3, .putfield 44, [0, 5]), (103, 2, .aload_n 0, []), (104, 3, .new 48, [4, 16]), (107, 0, .dup, []), (108, 2, .aload_n 1, []), (109, 4, .invokespecial 50, [4, 2, 0]), (112, 3, .putfield 51, [0, 7]), (115, 2, .aload_n 0, []), (116, 3, .new 55, [5, 17]), (119, 0, .dup, []), (120, 2, .aload_n 1, []), (121, 2, .aload_n 2, []), (122, 4, .invokespecial 57, [5, 3, 0]), (125, 3, .putfield 60, [0, 8]), (128, 2, .aload_n 0, []), (129, 3, .new 64, [10, 18]), (132, 0, .dup, []), (133, 2, .aload_n 1, []), (134, 2, .aload_n 2, []), (135, 4, .invokespecial 66, [12, 3, 0]), (138, 3, .putfield 67, [0, 9]), (141, 5, .return_, [])]
/-- GoalDesk$Terms <init> ()V -/
def gt_t1 : List (Nat × ai_I) := [(0, 2, .aload_n 0, []), (1, 7, .invokespecial 3, []), (4, 2, .aload_n 0, []), (5, 0, .sipush 624, []), (8, 3, .newarray .char, [1, 19]), (10, 3, .putfield 9, [1, 0]), (13, 2, .aload_n 0, []), (14, 0, .sipush 624, []), (17, 3, .newarray .int, [0, 20]), (19, 3, .putfield 15, [1, 1]), (22, 2, .aload_n 0, []), (23, 0, .sipush 1872, []), (26, 3, .newarray .int, [0, 21]), (28, 3, .putfield 19, [1, 2]), (31, 2, .aload_n 0, []), (32, 0, .sipush 624, []), (35, 3, .newarray .int, [0, 22]), (37, 3, .putfield 22, [1, 3]), (40, 5, .return_, [])]
/-- GoalDesk$Variables <init> (LGoalDesk$Terms;)V -/
def gt_t2 : List (Nat × ai_I) := [(0, 2, .aload_n 0, []), (1, 7, .invokespecial 3, []), (4, 2, .aload_n 0, []), (5, 0, .sipush 128, []), (8, 3, .newarray .int, [0, 23]), (10, 3, .putfield 9, [2, 1]), (13, 2, .aload_n 0, []), (14, 0, .sipush 128, []), (17, 3, .newarray .int, [0, 24]), (19, 3, .putfield 15, [2, 2]), (22, 2, .aload_n 0, []), (23, 0, .sipush 128, []), (26, 3, .newarray .int, [0, 25]), (28, 3, .putfield 18, [2, 3]), (31, 2, .aload_n 0, []), (32, 0, .iconst 0, []), (33, 3, .putfield 21, [2, 4]), (36, 2, .aload_n 0, []), (37, 0, .iconst 0, []), (38, 3, .putfield 25, [2, 5]), (41, 2, .aload_n 0, []), (42, 0, .sipush 500, []), (45, 3, .newarray .int, [0, 26]), (47, 3, .putfield 28, [2, 6]), (50, 2, .aload_n 0, []), (51, 0, .iconst 0, []), (52, 3, .putfield 31, [2, 7]), (55, 2, .aload_n 0, []), (56, 0, .sipush 500, []), (59, 3, .newarray .int, [0, 27]), (61, 3, .putfield 34, [2, 8]), (64, 2, .aload_n 0, []), (65, 0, .sipush 500, []), (68, 3, .newarray .int, [0, 28]), (70, 3, .putfield 37, [2, 9]), (73, 2, .aload_n 0, []), (74, 0, .iconst 0, []), (75, 3, .putfield 40, [2, 10]), (78, 2, .aload_n 0, []), (79, 0, .sipush 500, []), (82, 3, .newarray .int, [0, 29]), (84, 3, .putfield 43, [2, 11]), (87, 2, .aload_n 0, []), (88, 0, .sipush 500, []), (91, 3, .newarray .int, [0, 30]), (93, 3, .putfield 46, [2, 12]), (96, 2, .aload_n 0, []), (97, 0, .iconst 0, []), (98, 3, .putfield 49, [2, 13]), (101, 2, .aload_n 0, []), (102, 2, .aload_n 1, []), (103, 3, .putfield 52, [2, 0]), (106, 5, .return_, [])]
/-- GoalDesk$Clause <init> (I)V -/
def gt_t3 : List (Nat × ai_I) := [(0, 2, .aload_n 0, []), (1, 7, .invokespecial 3, []), (4, 2, .aload_n 0, []), (5, 0, .bipush 24, []), (7, 3, .newarray .char, [1, 31]), (9, 3, .putfield 9, [3, 1]), (12, 2, .aload_n 0, []), (13, 0, .bipush 24, []), (15, 3, .newarray .int, [0, 32]), (17, 3, .putfield 15, [3, 2]), (20, 2, .aload_n 0, []), (21, 0, .bipush 24, []), (23, 3, .newarray .int, [0, 33]), (25, 3, .putfield 19, [3, 3]), (28, 2, .aload_n 0, []), (29, 0, .iconst 0, []), (30, 3, .putfield 22, [3, 4]), (33, 2, .aload_n 0, []), (34, 0, .bipush 26, []), (36, 3, .newarray .int, [0, 34]), (38, 3, .putfield 26, [3, 5]), (41, 2, .aload_n 0, []), (42, 0, .iconst 0, []), (43, 3, .putfield 29, [3, 6]), (46, 2, .aload_n 0, []), (47, 2, .iload_n 1, []), (48, 3, .putfield 32, [3, 0]), (51, 5, .return_, [])]
/-- GoalDesk$Reader <init> (LGoalDesk$Terms;)V -/
def gt_t4 : List (Nat × ai_I) := [(0, 2, .aload_n 0, []), (1, 7, .invokespecial 3, []), (4, 2, .aload_n 0, []), (5, 0, .iconst 0, []), (6, 3, .putfield 9, [4, 2]), (9, 2, .aload_n 0, []), (10, 0, .iconst 0, []), (11, 3, .putfield 15, [4, 3]), (14, 2, .aload_n 0, []), (15, 2, .aload_n 1, []), (16, 3, .putfield 18, [4, 0]), (19, 5, .return_, [])]
/-- GoalDesk$Search <init> (LGoalDesk$Terms;LGoalDesk$Variables;)V -/
def gt_t5 : List (Nat × ai_I) := [(0, 2, .aload_n 0, []), (1, 7, .invokespecial 3, []), (4, 2, .aload_n 0, []), (5, 0, .iconst 0, []), (6, 3, .putfield 9, [5, 6]), (9, 2, .aload_n 0, []), (10, 3, .new 15, [6, 35]), (13, 0, .dup, []), (14, 4, .invokespecial 17, [6, 1, 0]), (17, 3, .putfield 18, [5, 7]), (20, 2, .aload_n 0, []), (21, 0, .iconst 0, []), (22, 3, .putfield 22, [5, 8]), (25, 2, .aload_n 0, []), (26, 3, .new 15, [6, 36]), (29, 0, .dup, []), (30, 4, .invokespecial 17, [6, 1, 0]), (33, 3, .putfield 25, [5, 10]), (36, 2, .aload_n 0, []), (37, 0, .iconst 0, []), (38, 3, .putfield 28, [5, 11]), (41, 2, .aload_n 0, []), (42, 0, .iconst 0, []), (43, 3, .putfield 31, [5, 12]), (46, 2, .aload_n 0, []), (47, 0, .iconst 0, []), (48, 3, .putfield 34, [5, 14]), (51, 2, .aload_n 0, []), (52, 0, .iconst 0, []), (53, 3, .putfield 37, [5, 15]), (56, 3, .new 40, [7, 37]), (59, 0, .dup, []), (60, 4, .invokespecial 42, [9, 1, 0]), (63, 2, .astore_n 3, []), (64, 3, .new 43, [8, 38]), (67, 0, .dup, []), (68, 2, .aload_n 1, []), (69, 2, .aload_n 2, []), (70, 2, .aload_n 3, []), (71, 4, .invokespecial 45, [10, 4, 0]), (74, 2, .astore 4, []), (76, 2, .aload_n 0, []), (77, 2, .aload_n 1, []), (78, 3, .putfield 48, [5, 0]), (81, 2, .aload_n 0, []), (82, 2, .aload_n 2, []), (83, 3, .putfield 52, [5, 1]), (86, 2, .aload_n 0, []), (87, 2, .aload_n 3, []), (88, 3, .putfield 56, [5, 2]), (91, 2, .aload_n 0, []), (92, 2, .aload 4, []), (94, 3, .putfield 60, [5, 3]), (97, 2, .aload_n 0, []), (98, 3, .new 64, [9, 39]), (101, 0, .dup, []), (102, 2, .aload_n 2, []), (103, 2, .aload 4, []), (105, 4, .invokespecial 66, [11, 3, 0]), (108, 3, .putfield 69, [5, 4]), (111, 5, .return_, [])]
/-- java/util/ArrayList <init> ()V -/
def gt_t6 : List (Nat × ai_I) := [(0, 2, .aload_n 0, []), (1, 4, .invokespecial 1, [7, 1, 0]), (4, 2, .aload_n 0, []), (5, 10, .getstatic 39, [0]), (8, 3, .putfield 9, [6, 0]), (11, 5, .return_, [])]
/-- java/util/AbstractList <init> ()V -/
def gt_t7 : List (Nat × ai_I) := [(0, 2, .aload_n 0, []), (1, 4, .invokespecial 1, [8, 1, 0]), (4, 2, .aload_n 0, []), (5, 0, .iconst 0, []), (6, 3, .putfield 7, [6, 2]), (9, 5, .return_, [])]
/-- java/util/AbstractCollection <init> ()V -/
def gt_t8 : List (Nat × ai_I) := [(0, 2, .aload_n 0, []), (1, 7, .invokespecial 1, []), (4, 5, .return_, [])]
/-- GoalDesk$Steps <init> ()V -/
def gt_t9 : List (Nat × ai_I) := [(0, 2, .aload_n 0, []), (1, 7, .invokespecial 3, []), (4, 2, .aload_n 0, []), (5, 0, .iconst 0, []), (6, 3, .putfield 9, [7, 0]), (9, 5, .return_, [])]
/-- GoalDesk$Pairs <init> (LGoalDesk$Terms;LGoalDesk$Variables;LGoalDesk$Steps;)V -/
def gt_t10 : List (Nat × ai_I) := [(0, 2, .aload_n 0, []), (1, 7, .invokespecial 3, []), (4, 2, .aload_n 0, []), (5, 0, .sipush 1003, []), (8, 3, .newarray .int, [0, 40]), (10, 3, .putfield 11, [8, 3]), (13, 2, .aload_n 0, []), (14, 0, .sipush 1003, []), (17, 3, .newarray .int, [0, 41]), (19, 3, .putfield 15, [8, 4]), (22, 2, .aload_n 0, []), (23, 0, .iconst 0, []), (24, 3, .putfield 18, [8, 5]), (27, 2, .aload_n 0, []), (28, 0, .sipush 500, []), (31, 3, .newarray .int, [0, 42]), (33, 3, .putfield 22, [8, 6]), (36, 2, .aload_n 0, []), (37, 0, .iconst 0, []), (38, 3, .putfield 25, [8, 7]), (41, 2, .aload_n 0, []), (42, 2, .aload_n 1, []), (43, 3, .putfield 28, [8, 0]), (46, 2, .aload_n 0, []), (47, 2, .aload_n 2, []), (48, 3, .putfield 32, [8, 1]), (51, 2, .aload_n 0, []), (52, 2, .aload_n 3, []), (53, 3, .putfield 36, [8, 2]), (56, 5, .return_, [])]
/-- GoalDesk$Aparts <init> (LGoalDesk$Variables;LGoalDesk$Pairs;)V -/
def gt_t11 : List (Nat × ai_I) := [(0, 2, .aload_n 0, []), (1, 7, .invokespecial 3, []), (4, 2, .aload_n 0, []), (5, 0, .sipush 500, []), (8, 3, .newarray .int, [0, 43]), (10, 3, .putfield 9, [9, 2]), (13, 2, .aload_n 0, []), (14, 0, .sipush 500, []), (17, 3, .newarray .int, [0, 44]), (19, 3, .putfield 15, [9, 3]), (22, 2, .aload_n 0, []), (23, 0, .sipush 500, []), (26, 3, .newarray .boolean, [2, 45]), (28, 3, .putfield 18, [9, 4]), (31, 2, .aload_n 0, []), (32, 0, .iconst 0, []), (33, 3, .putfield 22, [9, 5]), (36, 2, .aload_n 0, []), (37, 0, .sipush 500, []), (40, 3, .newarray .int, [0, 46]), (42, 3, .putfield 26, [9, 6]), (45, 2, .aload_n 0, []), (46, 0, .iconst 0, []), (47, 3, .putfield 29, [9, 7]), (50, 2, .aload_n 0, []), (51, 2, .aload_n 1, []), (52, 3, .putfield 32, [9, 0]), (55, 2, .aload_n 0, []), (56, 2, .aload_n 2, []), (57, 3, .putfield 36, [9, 1]), (60, 5, .return_, [])]
/-- GoalDesk$Writer <init> (LGoalDesk$Terms;LGoalDesk$Variables;)V -/
def gt_t12 : List (Nat × ai_I) := [(0, 2, .aload_n 0, []), (1, 7, .invokespecial 3, []), (4, 2, .aload_n 0, []), (5, 0, .bipush 80, []), (7, 3, .newarray .char, [1, 47]), (9, 3, .putfield 9, [10, 2]), (12, 2, .aload_n 0, []), (13, 0, .iconst 0, []), (14, 3, .putfield 15, [10, 3]), (17, 2, .aload_n 0, []), (18, 2, .aload_n 1, []), (19, 3, .putfield 19, [10, 0]), (22, 2, .aload_n 0, []), (23, 2, .aload_n 2, []), (24, 3, .putfield 23, [10, 1]), (27, 5, .return_, [])]
/-- GoalDesk count (I)I -/
def gt_t13 : List (Nat × ai_I) := [(0, 2, .iload_n 1, []), (1, 1, .tableswitch 140 0 6 #[43, 48, 53, 58, 77, 96, 118], [141, 44, 49, 54, 59, 78, 97, 119]), (44, 2, .aload_n 0, []), (45, 3, .getfield 17, [0, 2]), (48, 5, .ireturn, []), (49, 2, .aload_n 0, []), (50, 3, .getfield 13, [0, 1]), (53, 5, .ireturn, []), (54, 2, .aload_n 0, []), (55, 3, .getfield 26, [0, 4]), (58, 5, .ireturn, []), (59, 2, .aload_n 0, []), (60, 3, .getfield 29, [0, 6]), (63, 1, .ifCond .eq 13, [76]), (66, 2, .aload_n 0, []), (67, 3, .getfield 60, [0, 8]), (70, 3, .getfield 125, [5, 12]), (73, 1, .goto 4, [77]), (76, 0, .iconst 0, []), (77, 5, .ireturn, []), (78, 2, .aload_n 0, []), (79, 3, .getfield 29, [0, 6]), (82, 1, .ifCond .eq 13, [95]), (85, 2, .aload_n 0, []), (86, 3, .getfield 60, [0, 8]), (89, 3, .getfield 128, [5, 11]), (92, 1, .goto 4, [96]), (95, 0, .iconst 0, []), (96, 5, .ireturn, []), (97, 2, .aload_n 0, []), (98, 3, .getfield 29, [0, 6]), (101, 1, .ifCond .eq 16, [117]), (104, 2, .aload_n 0, []), (105, 3, .getfield 60, [0, 8]), (108, 3, .getfield 131, [5, 4]), (111, 4, .invokevirtual 135, [14, 1, 9]), (114, 1, .goto 4, [118]), (117, 0, .iconst 0, []), (118, 5, .ireturn, []), (119, 2, .aload_n 0, []), (120, 3, .getfield 29, [0, 6]), (123, 1, .ifCond .eq 16, [139]), (126, 2, .aload_n 0, []), (127, 3, .getfield 60, [0, 8]), (130, 3, .getfield 118, [5, 1]), (133, 3, .getfield 141, [2, 5]), (136, 1, .goto 4, [140]), (139, 0, .iconst 0, []), (140, 5, .ireturn, []), (141, 0, .iconst (-1), []), (142, 5, .ireturn, [])]
/-- GoalDesk$Aparts waitingNow ()I -/
def gt_t14 : List (Nat × ai_I) := [(0, 0, .iconst 0, []), (1, 2, .istore_n 1, []), (2, 0, .iconst 0, []), (3, 2, .istore_n 2, []), (4, 2, .iload_n 2, []), (5, 2, .aload_n 0, []), (6, 3, .getfield 22, [9, 5]), (9, 1, .if_icmp .ge 26, [35]), (12, 2, .iload_n 1, []), (13, 2, .aload_n 0, []), (14, 3, .getfield 18, [9, 4]), (17, 2, .iload_n 2, []), (18, 3, .baload, []), (19, 1, .ifCond .eq 7, [26]), (22, 0, .iconst 1, []), (23, 1, .goto 4, [27]), (26, 0, .iconst 0, []), (27, 0, .iadd, []), (28, 2, .istore_n 1, []), (29, 2, .iinc 2 1, []), (32, 1, .goto (-28), [4]), (35, 2, .iload_n 1, []), (36, 5, .ireturn, [])]
/-- GoalDeskLaw type (LGoalDesk;J[J)I -/
def gt_t15 : List (Nat × ai_I) := [(0, 2, .aload_n 3, []), (1, 0, .iconst 0, []), (2, 2, .aload_n 0, []), (3, 2, .lload_n 1, []), (4, 4, .invokevirtual 7, [16, 2, 0]), (7, 0, .i2l, []), (8, 3, .lastore, []), (9, 1, .goto 11, [20]), (12, 2, .astore 4, []), (14, 0, .iconst 1, []), (15, 5, .ireturn, []), (16, 2, .astore 4, []), (18, 0, .iconst 2, []), (19, 5, .ireturn, []), (20, 0, .iconst 0, []), (21, 5, .ireturn, [])]
/-- GoalDesk type (J)I -/
def gt_t16 : List (Nat × ai_I) := [(0, 0, .iconst 0, []), (1, 2, .istore_n 3, []), (2, 0, .bipush 56, []), (4, 2, .istore 4, []), (6, 2, .iload 4, []), (8, 1, .ifCond .lt 60, [68]), (11, 2, .lload_n 1, []), (12, 2, .iload 4, []), (14, 0, .lushr, []), (15, 0, .l2i, []), (16, 0, .sipush 255, []), (19, 0, .iand, []), (20, 2, .istore 5, []), (22, 2, .iload 5, []), (24, 1, .ifCond .eq 25, [49]), (27, 2, .iload 5, []), (29, 0, .bipush 33, []), (31, 1, .if_icmp .lt 10, [41]), (34, 2, .iload 5, []), (36, 0, .bipush 126, []), (38, 1, .if_icmp .le 11, [49]), (41, 6, .new 71, [0]), (49, 2, .iload_n 3, []), (50, 2, .iload 5, []), (52, 1, .ifCond .ne 7, [59]), (55, 0, .iconst 0, []), (56, 1, .goto 4, [60]), (59, 0, .iconst 1, []), (60, 0, .iadd, []), (61, 2, .istore_n 3, []), (62, 2, .iinc 4 (-8), []), (65, 1, .goto (-59), [6]), (68, 2, .aload_n 0, []), (69, 3, .getfield 13, [0, 1]), (72, 2, .iload_n 3, []), (73, 0, .iadd, []), (74, 0, .bipush 48, []), (76, 1, .if_icmp .le 11, [87]), (79, 6, .new 74, [1]), (87, 0, .bipush 56, []), (89, 2, .istore 4, []), (91, 2, .iload 4, []), (93, 1, .ifCond .lt 47, [140]), (96, 2, .lload_n 1, []), (97, 2, .iload 4, []), (99, 0, .lushr, []), (100, 0, .l2i, []), (101, 0, .sipush 255, []), (104, 0, .iand, []), (105, 2, .istore 5, []), (107, 2, .iload 5, []), (109, 1, .ifCond .eq 25, [134]), (112, 2, .aload_n 0, []), (113, 3, .getfield 9, [0, 0]), (116, 2, .aload_n 0, []), (117, 3, .getfield 13, [0, 1]), (120, 2, .iload 5, []), (122, 0, .i2c, []), (123, 3, .castore, []), (124, 2, .aload_n 0, []), (125, 0, .dup, []), (126, 3, .getfield 13, [0, 1]), (129, 0, .iconst 1, []), (130, 0, .iadd, []), (131, 3, .putfield 13, [0, 1]), (134, 2, .iinc 4 (-8), []), (137, 1, .goto (-46), [91]), (140, 2, .aload_n 0, []), (141, 3, .getfield 13, [0, 1]), (144, 5, .ireturn, [])]
/-- GoalDeskLaw add (LGoalDesk;[J)I -/
def gt_t17 : List (Nat × ai_I) := [(0, 2, .aload_n 1, []), (1, 0, .iconst 0, []), (2, 2, .aload_n 0, []), (3, 4, .invokevirtual 17, [18, 1, 0]), (6, 0, .i2l, []), (7, 3, .lastore, []), (8, 1, .goto 9, [17]), (11, 2, .astore_n 2, []), (12, 0, .iconst 1, []), (13, 5, .ireturn, []), (14, 2, .astore_n 2, []), (15, 0, .iconst 2, []), (16, 5, .ireturn, []), (17, 0, .iconst 0, []), (18, 5, .ireturn, [])]
/-- GoalDesk add ()I -/
def gt_t18 : List (Nat × ai_I) := [(0, 2, .aload_n 0, []), (1, 3, .getfield 13, [0, 1]), (4, 2, .istore_n 1, []), (5, 2, .aload_n 0, []), (6, 0, .iconst 0, []), (7, 3, .putfield 13, [0, 1]), (10, 2, .aload_n 0, []), (11, 3, .getfield 26, [0, 4]), (14, 0, .bipush 12, []), (16, 1, .if_icmp .lt 11, [27]), (19, 6, .new 74, [1]), (27, 2, .aload_n 0, []), (28, 3, .getfield 51, [0, 7]), (31, 2, .aload_n 0, []), (32, 3, .getfield 9, [0, 0]), (35, 2, .iload_n 1, []), (36, 2, .aload_n 0, []), (37, 3, .getfield 22, [0, 3]), (40, 2, .aload_n 0, []), (41, 3, .getfield 26, [0, 4]), (44, 3, .aaload, []), (45, 4, .invokevirtual 77, [19, 4, 4]), (48, 1, .ifCond .ne 22, [70]), (51, 2, .aload_n 0, []), (52, 2, .aload_n 0, []), (53, 3, .getfield 51, [0, 7]), (56, 3, .getfield 81, [4, 3]), (59, 3, .putfield 17, [0, 2]), (62, 6, .new 71, [0]), (70, 2, .aload_n 0, []), (71, 0, .dup, []), (72, 3, .getfield 26, [0, 4]), (75, 0, .iconst 1, []), (76, 0, .iadd, []), (77, 3, .putfield 26, [0, 4]), (80, 2, .aload_n 0, []), (81, 0, .iconst 0, []), (82, 3, .putfield 29, [0, 6]), (85, 2, .aload_n 0, []), (86, 3, .getfield 26, [0, 4]), (89, 5, .ireturn, [])]
/-- GoalDesk$Reader readClause ([CILGoalDesk$Clause;)Z -/
def gt_t19 : List (Nat × ai_I) := [(0, 2, .aload_n 0, []), (1, 2, .aload_n 1, []), (2, 2, .iload_n 2, []), (3, 2, .aload_n 3, []), (4, 4, .invokevirtual 22, [20, 4, 4]), (7, 2, .aload_n 0, []), (8, 4, .invokevirtual 26, [21, 1, 4]), (11, 4, .invokestatic 30, [22, 1, 0]), (14, 1, .ifCond .eq 11, [25]), (17, 2, .aload_n 0, []), (18, 0, .iconst 1, []), (19, 4, .invokevirtual 34, [23, 2, 4]), (22, 1, .ifCond .ne 5, [27]), (25, 0, .iconst 0, []), (26, 5, .ireturn, []), (27, 2, .aload_n 0, []), (28, 3, .getfield 15, [4, 3]), (31, 2, .aload_n 0, []), (32, 3, .getfield 9, [4, 2]), (35, 1, .if_icmp .ge 21, [56]), (38, 2, .aload_n 0, []), (39, 0, .bipush 58, []), (41, 4, .invokevirtual 38, [27, 2, 4]), (44, 1, .ifCond .eq 10, [54]), (47, 2, .aload_n 0, []), (48, 4, .invokevirtual 41, [28, 1, 4]), (51, 1, .ifCond .ne 5, [56]), (54, 0, .iconst 0, []), (55, 5, .ireturn, []), (56, 2, .aload_n 0, []), (57, 4, .invokevirtual 45, [31, 1, 4]), (60, 0, .iconst 1, []), (61, 5, .ireturn, [])]
/-- GoalDesk$Reader begin ([CILGoalDesk$Clause;)V -/
def gt_t20 : List (Nat × ai_I) := [(0, 2, .aload_n 0, []), (1, 2, .aload_n 1, []), (2, 3, .putfield 48, [4, 1]), (5, 2, .aload_n 0, []), (6, 2, .iload_n 2, []), (7, 3, .putfield 9, [4, 2]), (10, 2, .aload_n 0, []), (11, 0, .iconst 0, []), (12, 3, .putfield 15, [4, 3]), (15, 2, .aload_n 0, []), (16, 2, .aload_n 3, []), (17, 3, .putfield 52, [4, 4]), (20, 2, .aload_n 0, []), (21, 3, .getfield 52, [4, 4]), (24, 0, .iconst 0, []), (25, 3, .putfield 56, [3, 4]), (28, 5, .return_, [])]
/-- GoalDesk$Reader here ()C -/
def gt_t21 : List (Nat × ai_I) := [(0, 2, .aload_n 0, []), (1, 3, .getfield 15, [4, 3]), (4, 2, .aload_n 0, []), (5, 3, .getfield 9, [4, 2]), (8, 1, .if_icmp .ge 15, [23]), (11, 2, .aload_n 0, []), (12, 3, .getfield 48, [4, 1]), (15, 2, .aload_n 0, []), (16, 3, .getfield 15, [4, 3]), (19, 3, .caload, []), (20, 1, .goto 4, [24]), (23, 0, .iconst 0, []), (24, 5, .ireturn, [])]
/-- GoalDesk isSmall (C)Z -/
def gt_t22 : List (Nat × ai_I) := [(0, 2, .iload_n 0, []), (1, 0, .bipush 97, []), (3, 1, .if_icmp .lt 13, [16]), (6, 2, .iload_n 0, []), (7, 0, .bipush 122, []), (9, 1, .if_icmp .gt 7, [16]), (12, 0, .iconst 1, []), (13, 1, .goto 4, [17]), (16, 0, .iconst 0, []), (17, 5, .ireturn, [])]
/-- GoalDesk$Reader readTerm (I)Z -/
def gt_t23 : List (Nat × ai_I) := [(0, 2, .aload_n 0, []), (1, 4, .invokevirtual 26, [21, 1, 4]), (4, 2, .istore_n 2, []), (5, 2, .iload_n 2, []), (6, 4, .invokestatic 71, [24, 1, 0]), (9, 1, .ifCond .ne 19, [28]), (12, 2, .iload_n 2, []), (13, 4, .invokestatic 74, [25, 1, 0]), (16, 1, .ifCond .ne 12, [28]), (19, 2, .iload_n 2, []), (20, 4, .invokestatic 30, [22, 1, 0]), (23, 1, .ifCond .ne 5, [28]), (26, 0, .iconst 0, []), (27, 5, .ireturn, []), (28, 2, .aload_n 0, []), (29, 3, .getfield 52, [4, 4]), (32, 3, .getfield 68, [3, 0]), (35, 2, .aload_n 0, []), (36, 3, .getfield 15, [4, 3]), (39, 0, .iadd, []), (40, 2, .istore_n 3, []), (41, 2, .aload_n 0, []), (42, 3, .getfield 18, [4, 0]), (45, 3, .getfield 77, [1, 0]), (48, 2, .iload_n 3, []), (49, 2, .iload_n 2, []), (50, 3, .castore, []), (51, 2, .aload_n 0, []), (52, 3, .getfield 18, [4, 0]), (55, 3, .getfield 82, [1, 1]), (58, 2, .iload_n 3, []), (59, 0, .iconst 0, []), (60, 3, .iastore, []), (61, 2, .aload_n 0, []), (62, 0, .dup, []), (63, 3, .getfield 15, [4, 3]), (66, 0, .iconst 1, []), (67, 0, .iadd, []), (68, 3, .putfield 15, [4, 3]), (71, 2, .iload_n 2, []), (72, 4, .invokestatic 30, [22, 1, 0]), (75, 1, .ifCond .eq 12, [87]), (78, 2, .aload_n 0, []), (79, 4, .invokevirtual 26, [21, 1, 4]), (82, 0, .bipush 40, []), (84, 1, .if_icmp .eq 5, [89]), (87, 0, .iconst 1, []), (88, 5, .ireturn, []), (89, 2, .iload_n 1, []), (90, 0, .bipush 6, []), (92, 1, .if_icmp .ge 18, [110]), (95, 2, .aload_n 0, []), (96, 2, .iload_n 3, []), (97, 2, .iload_n 1, []), (98, 0, .iconst 1, []), (99, 0, .iadd, []), (100, 4, .invokevirtual 86, [26, 3, 4]), (103, 1, .ifCond .eq 7, [110]), (106, 0, .iconst 1, []), (107, 1, .goto 4, [111]), (110, 0, .iconst 0, []), (111, 5, .ireturn, [])]
/-- GoalDesk isVariable (C)Z -/
def gt_t24 : List (Nat × ai_I) := [(0, 2, .iload_n 0, []), (1, 0, .bipush 65, []), (3, 1, .if_icmp .lt 13, [16]), (6, 2, .iload_n 0, []), (7, 0, .bipush 90, []), (9, 1, .if_icmp .gt 7, [16]), (12, 0, .iconst 1, []), (13, 1, .goto 4, [17]), (16, 0, .iconst 0, []), (17, 5, .ireturn, [])]
/-- GoalDesk isDigit (C)Z -/
def gt_t25 : List (Nat × ai_I) := [(0, 2, .iload_n 0, []), (1, 0, .bipush 48, []), (3, 1, .if_icmp .lt 13, [16]), (6, 2, .iload_n 0, []), (7, 0, .bipush 57, []), (9, 1, .if_icmp .gt 7, [16]), (12, 0, .iconst 1, []), (13, 1, .goto 4, [17]), (16, 0, .iconst 0, []), (17, 5, .ireturn, [])]
/-- GoalDesk$Reader readArguments (II)Z -/
def gt_t26 : List (Nat × ai_I) := [(0, 2, .aload_n 0, []), (1, 0, .dup, []), (2, 3, .getfield 15, [4, 3]), (5, 0, .iconst 1, []), (6, 0, .iadd, []), (7, 3, .putfield 15, [4, 3]), (10, 0, .iconst 0, []), (11, 2, .istore_n 3, []), (12, 2, .iload_n 3, []), (13, 0, .iconst 3, []), (14, 1, .if_icmp .ge 85, [99]), (17, 2, .aload_n 0, []), (18, 3, .getfield 18, [4, 0]), (21, 3, .getfield 90, [1, 2]), (24, 2, .iload_n 1, []), (25, 0, .iconst 3, []), (26, 0, .imul, []), (27, 2, .iload_n 3, []), (28, 0, .iadd, []), (29, 2, .aload_n 0, []), (30, 3, .getfield 52, [4, 4]), (33, 3, .getfield 68, [3, 0]), (36, 2, .aload_n 0, []), (37, 3, .getfield 15, [4, 3]), (40, 0, .iadd, []), (41, 3, .iastore, []), (42, 2, .aload_n 0, []), (43, 3, .getfield 18, [4, 0]), (46, 3, .getfield 82, [1, 1]), (49, 2, .iload_n 1, []), (50, 2, .iload_n 3, []), (51, 0, .iconst 1, []), (52, 0, .iadd, []), (53, 3, .iastore, []), (54, 2, .aload_n 0, []), (55, 2, .iload_n 2, []), (56, 4, .invokevirtual 34, [23, 2, 4]), (59, 1, .ifCond .ne 5, [64]), (62, 0, .iconst 0, []), (63, 5, .ireturn, []), (64, 2, .aload_n 0, []), (65, 0, .bipush 41, []), (67, 4, .invokevirtual 38, [27, 2, 4]), (70, 1, .ifCond .eq 5, [75]), (73, 0, .iconst 1, []), (74, 5, .ireturn, []), (75, 2, .iload_n 3, []), (76, 0, .iconst 1, []), (77, 0, .iadd, []), (78, 0, .iconst 3, []), (79, 1, .if_icmp .eq 12, [91]), (82, 2, .aload_n 0, []), (83, 0, .bipush 44, []), (85, 4, .invokevirtual 38, [27, 2, 4]), (88, 1, .ifCond .ne 5, [93]), (91, 0, .iconst 0, []), (92, 5, .ireturn, []), (93, 2, .iinc 3 1, []), (96, 1, .goto (-84), [12]), (99, 0, .iconst 0, []), (100, 5, .ireturn, [])]
/-- GoalDesk$Reader skip (C)Z -/
def gt_t27 : List (Nat × ai_I) := [(0, 2, .aload_n 0, []), (1, 3, .getfield 15, [4, 3]), (4, 2, .aload_n 0, []), (5, 3, .getfield 9, [4, 2]), (8, 1, .if_icmp .ge 16, [24]), (11, 2, .aload_n 0, []), (12, 3, .getfield 48, [4, 1]), (15, 2, .aload_n 0, []), (16, 3, .getfield 15, [4, 3]), (19, 3, .caload, []), (20, 2, .iload_n 1, []), (21, 1, .if_icmp .eq 5, [26]), (24, 0, .iconst 0, []), (25, 5, .ireturn, []), (26, 2, .aload_n 0, []), (27, 0, .dup, []), (28, 3, .getfield 15, [4, 3]), (31, 0, .iconst 1, []), (32, 0, .iadd, []), (33, 3, .putfield 15, [4, 3]), (36, 0, .iconst 1, []), (37, 5, .ireturn, [])]
/-- GoalDesk$Reader readGoals ()Z -/
def gt_t28 : List (Nat × ai_I) := [(0, 0, .iconst 0, []), (1, 2, .istore_n 1, []), (2, 2, .iload_n 1, []), (3, 0, .bipush 24, []), (5, 1, .if_icmp .ge 42, [47]), (8, 2, .aload_n 0, []), (9, 4, .invokevirtual 61, [29, 1, 4]), (12, 1, .ifCond .ne 5, [17]), (15, 0, .iconst 0, []), (16, 5, .ireturn, []), (17, 2, .aload_n 0, []), (18, 3, .getfield 15, [4, 3]), (21, 2, .aload_n 0, []), (22, 3, .getfield 9, [4, 2]), (25, 1, .if_icmp .ne 5, [30]), (28, 0, .iconst 1, []), (29, 5, .ireturn, []), (30, 2, .aload_n 0, []), (31, 0, .bipush 44, []), (33, 4, .invokevirtual 38, [27, 2, 4]), (36, 1, .ifCond .ne 5, [41]), (39, 0, .iconst 0, []), (40, 5, .ireturn, []), (41, 2, .iinc 1 1, []), (44, 1, .goto (-42), [2]), (47, 0, .iconst 0, []), (48, 5, .ireturn, [])]
/-- GoalDesk$Reader readGoal ()Z -/
def gt_t29 : List (Nat × ai_I) := [(0, 2, .aload_n 0, []), (1, 0, .bipush 33, []), (3, 4, .invokevirtual 38, [27, 2, 4]), (6, 1, .ifCond .eq 16, [22]), (9, 2, .aload_n 0, []), (10, 3, .getfield 52, [4, 4]), (13, 0, .bipush 33, []), (15, 0, .iconst 0, []), (16, 0, .iconst 0, []), (17, 4, .invokevirtual 64, [30, 4, 3]), (20, 0, .iconst 1, []), (21, 5, .ireturn, []), (22, 2, .aload_n 0, []), (23, 3, .getfield 52, [4, 4]), (26, 3, .getfield 68, [3, 0]), (29, 2, .aload_n 0, []), (30, 3, .getfield 15, [4, 3]), (33, 0, .iadd, []), (34, 2, .istore_n 1, []), (35, 2, .aload_n 0, []), (36, 4, .invokevirtual 26, [21, 1, 4]), (39, 4, .invokestatic 30, [22, 1, 0]), (42, 2, .istore_n 2, []), (43, 2, .aload_n 0, []), (44, 0, .iconst 1, []), (45, 4, .invokevirtual 34, [23, 2, 4]), (48, 1, .ifCond .ne 5, [53]), (51, 0, .iconst 0, []), (52, 5, .ireturn, []), (53, 2, .aload_n 0, []), (54, 4, .invokevirtual 26, [21, 1, 4]), (57, 2, .istore_n 3, []), (58, 2, .iload_n 2, []), (59, 1, .ifCond .eq 33, [92]), (62, 2, .aload_n 0, []), (63, 3, .getfield 15, [4, 3]), (66, 2, .aload_n 0, []), (67, 3, .getfield 9, [4, 2]), (70, 1, .if_icmp .eq 9, [79]), (73, 2, .iload_n 3, []), (74, 0, .bipush 44, []), (76, 1, .if_icmp .ne 16, [92]), (79, 2, .aload_n 0, []), (80, 3, .getfield 52, [4, 4]), (83, 0, .bipush 40, []), (85, 2, .iload_n 1, []), (86, 2, .iload_n 1, []), (87, 4, .invokevirtual 64, [30, 4, 3]), (90, 0, .iconst 1, []), (91, 5, .ireturn, []), (92, 2, .iload_n 3, []), (93, 0, .bipush 61, []), (95, 1, .if_icmp .eq 23, [118]), (98, 2, .iload_n 3, []), (99, 0, .bipush 126, []), (101, 1, .if_icmp .eq 17, [118]), (104, 2, .iload_n 3, []), (105, 0, .bipush 60, []), (107, 1, .if_icmp .eq 11, [118]), (110, 2, .iload_n 3, []), (111, 0, .bipush 63, []), (113, 1, .if_icmp .eq 5, [118]), (116, 0, .iconst 0, []), (117, 5, .ireturn, []), (118, 2, .aload_n 0, []), (119, 0, .dup, []), (120, 3, .getfield 15, [4, 3]), (123, 0, .iconst 1, []), (124, 0, .iadd, []), (125, 3, .putfield 15, [4, 3]), (128, 2, .aload_n 0, []), (129, 3, .getfield 52, [4, 4]), (132, 3, .getfield 68, [3, 0]), (135, 2, .aload_n 0, []), (136, 3, .getfield 15, [4, 3]), (139, 0, .iadd, []), (140, 2, .istore 4, []), (142, 2, .iload_n 3, []), (143, 0, .bipush 63, []), (145, 1, .if_icmp .ne 13, [158]), (148, 2, .aload_n 0, []), (149, 4, .invokevirtual 26, [21, 1, 4]), (152, 4, .invokestatic 30, [22, 1, 0]), (155, 1, .ifCond .eq 11, [166]), (158, 2, .aload_n 0, []), (159, 0, .iconst 1, []), (160, 4, .invokevirtual 34, [23, 2, 4]), (163, 1, .ifCond .ne 5, [168]), (166, 0, .iconst 0, []), (167, 5, .ireturn, []), (168, 2, .aload_n 0, []), (169, 3, .getfield 52, [4, 4]), (172, 2, .iload_n 3, []), (173, 2, .iload_n 1, []), (174, 2, .iload 4, []), (176, 4, .invokevirtual 64, [30, 4, 3]), (179, 0, .iconst 1, []), (180, 5, .ireturn, [])]
/-- GoalDesk$Clause putGoal (CII)V -/
def gt_t30 : List (Nat × ai_I) := [(0, 2, .aload_n 0, []), (1, 3, .getfield 22, [3, 4]), (4, 0, .bipush 24, []), (6, 1, .if_icmp .ge 43, [49]), (9, 2, .aload_n 0, []), (10, 3, .getfield 9, [3, 1]), (13, 2, .aload_n 0, []), (14, 3, .getfield 22, [3, 4]), (17, 2, .iload_n 1, []), (18, 3, .castore, []), (19, 2, .aload_n 0, []), (20, 3, .getfield 15, [3, 2]), (23, 2, .aload_n 0, []), (24, 3, .getfield 22, [3, 4]), (27, 2, .iload_n 2, []), (28, 3, .iastore, []), (29, 2, .aload_n 0, []), (30, 3, .getfield 19, [3, 3]), (33, 2, .aload_n 0, []), (34, 3, .getfield 22, [3, 4]), (37, 2, .iload_n 3, []), (38, 3, .iastore, []), (39, 2, .aload_n 0, []), (40, 0, .dup, []), (41, 3, .getfield 22, [3, 4]), (44, 0, .iconst 1, []), (45, 0, .iadd, []), (46, 3, .putfield 22, [3, 4]), (49, 5, .return_, [])]
/-- GoalDesk$Reader rankVariables ()V -/
def gt_t31 : List (Nat × ai_I) := [(0, 2, .aload_n 0, []), (1, 3, .getfield 52, [4, 4]), (4, 3, .getfield 93, [3, 5]), (7, 0, .iconst (-1), []), (8, 4, .invokestatic 96, [32, 2, 0]), (11, 0, .iconst 0, []), (12, 2, .istore_n 1, []), (13, 2, .iload_n 1, []), (14, 2, .aload_n 0, []), (15, 3, .getfield 9, [4, 2]), (18, 1, .if_icmp .ge 39, [57]), (21, 2, .aload_n 0, []), (22, 3, .getfield 48, [4, 1]), (25, 2, .iload_n 1, []), (26, 3, .caload, []), (27, 4, .invokestatic 71, [24, 1, 0]), (30, 1, .ifCond .eq 21, [51]), (33, 2, .aload_n 0, []), (34, 3, .getfield 52, [4, 4]), (37, 3, .getfield 93, [3, 5]), (40, 2, .aload_n 0, []), (41, 3, .getfield 48, [4, 1]), (44, 2, .iload_n 1, []), (45, 3, .caload, []), (46, 0, .bipush 65, []), (48, 0, .isub, []), (49, 0, .iconst 0, []), (50, 3, .iastore, []), (51, 2, .iinc 1 1, []), (54, 1, .goto (-41), [13]), (57, 2, .aload_n 0, []), (58, 3, .getfield 52, [4, 4]), (61, 0, .iconst 0, []), (62, 3, .putfield 102, [3, 6]), (65, 0, .iconst 0, []), (66, 2, .istore_n 1, []), (67, 2, .iload_n 1, []), (68, 0, .bipush 26, []), (70, 1, .if_icmp .ge 51, [121]), (73, 2, .aload_n 0, []), (74, 3, .getfield 52, [4, 4]), (77, 3, .getfield 93, [3, 5]), (80, 2, .iload_n 1, []), (81, 3, .iaload, []), (82, 0, .iconst (-1), []), (83, 1, .if_icmp .eq 32, [115]), (86, 2, .aload_n 0, []), (87, 3, .getfield 52, [4, 4]), (90, 3, .getfield 93, [3, 5]), (93, 2, .iload_n 1, []), (94, 2, .aload_n 0, []), (95, 3, .getfield 52, [4, 4]), (98, 3, .getfield 102, [3, 6]), (101, 3, .iastore, []), (102, 2, .aload_n 0, []), (103, 3, .getfield 52, [4, 4]), (106, 0, .dup, []), (107, 3, .getfield 102, [3, 6]), (110, 0, .iconst 1, []), (111, 0, .iadd, []), (112, 3, .putfield 102, [3, 6]), (115, 2, .iinc 1 1, []), (118, 1, .goto (-51), [67]), (121, 0, .iconst 0, []), (122, 2, .istore_n 1, []), (123, 2, .iload_n 1, []), (124, 2, .aload_n 0, []), (125, 3, .getfield 9, [4, 2]), (128, 1, .if_icmp .ge 55, [183]), (131, 2, .aload_n 0, []), (132, 3, .getfield 48, [4, 1]), (135, 2, .iload_n 1, []), (136, 3, .caload, []), (137, 4, .invokestatic 71, [24, 1, 0]), (140, 1, .ifCond .eq 37, [177]), (143, 2, .aload_n 0, []), (144, 3, .getfield 18, [4, 0]), (147, 3, .getfield 105, [1, 3]), (150, 2, .aload_n 0, []), (151, 3, .getfield 52, [4, 4]), (154, 3, .getfield 68, [3, 0]), (157, 2, .iload_n 1, []), (158, 0, .iadd, []), (159, 2, .aload_n 0, []), (160, 3, .getfield 52, [4, 4]), (163, 3, .getfield 93, [3, 5]), (166, 2, .aload_n 0, []), (167, 3, .getfield 48, [4, 1]), (170, 2, .iload_n 1, []), (171, 3, .caload, []), (172, 0, .bipush 65, []), (174, 0, .isub, []), (175, 3, .iaload, []), (176, 3, .iastore, []), (177, 2, .iinc 1 1, []), (180, 1, .goto (-57), [123]), (183, 5, .return_, [])]
/-- java/util/Arrays fill ([II)V -/
def gt_t32 : List (Nat × ai_I) := [(0, 0, .iconst 0, []), (1, 2, .istore_n 2, []), (2, 2, .aload_n 0, []), (3, 3, .arraylength, []), (4, 2, .istore_n 3, []), (5, 2, .iload_n 2, []), (6, 2, .iload_n 3, []), (7, 1, .if_icmp .ge 13, [20]), (10, 2, .aload_n 0, []), (11, 2, .iload_n 2, []), (12, 2, .iload_n 1, []), (13, 3, .iastore, []), (14, 2, .iinc 2 1, []), (17, 1, .goto (-12), [5]), (20, 5, .return_, [])]
/-- GoalDeskLaw drop (LGoalDesk;I)I -/
def gt_t33 : List (Nat × ai_I) := [(0, 2, .aload_n 0, []), (1, 2, .iload_n 1, []), (2, 4, .invokevirtual 21, [34, 2, 0]), (5, 1, .goto 6, [11]), (8, 2, .astore_n 2, []), (9, 0, .iconst 1, []), (10, 5, .ireturn, []), (11, 0, .iconst 0, []), (12, 5, .ireturn, [])]
/-- GoalDesk drop (I)V -/
def gt_t34 : List (Nat × ai_I) := [(0, 2, .iload_n 1, []), (1, 1, .ifCond .lt 11, [12]), (4, 2, .iload_n 1, []), (5, 2, .aload_n 0, []), (6, 3, .getfield 26, [0, 4]), (9, 1, .if_icmp .lt 11, [20]), (12, 6, .new 71, [0]), (20, 2, .aload_n 0, []), (21, 3, .getfield 22, [0, 3]), (24, 2, .iload_n 1, []), (25, 3, .aaload, []), (26, 2, .astore_n 2, []), (27, 2, .aload_n 0, []), (28, 0, .dup, []), (29, 3, .getfield 26, [0, 4]), (32, 0, .iconst 1, []), (33, 0, .isub, []), (34, 3, .putfield 26, [0, 4]), (37, 2, .iload_n 1, []), (38, 2, .istore_n 3, []), (39, 2, .iload_n 3, []), (40, 2, .aload_n 0, []), (41, 3, .getfield 26, [0, 4]), (44, 1, .if_icmp .ge 23, [67]), (47, 2, .aload_n 0, []), (48, 3, .getfield 22, [0, 3]), (51, 2, .iload_n 3, []), (52, 2, .aload_n 0, []), (53, 3, .getfield 22, [0, 3]), (56, 2, .iload_n 3, []), (57, 0, .iconst 1, []), (58, 0, .iadd, []), (59, 3, .aaload, []), (60, 3, .aastore, []), (61, 2, .iinc 3 1, []), (64, 1, .goto (-25), [39]), (67, 2, .aload_n 0, []), (68, 3, .getfield 22, [0, 3]), (71, 2, .aload_n 0, []), (72, 3, .getfield 26, [0, 4]), (75, 2, .aload_n 2, []), (76, 3, .aastore, []), (77, 2, .aload_n 0, []), (78, 0, .iconst 0, []), (79, 3, .putfield 29, [0, 6]), (82, 5, .return_, [])]
/-- GoalDeskLaw ask (LGoalDesk;[J)I -/
def gt_t35 : List (Nat × ai_I) := [(0, 2, .aload_n 1, []), (1, 0, .iconst 0, []), (2, 2, .aload_n 0, []), (3, 4, .invokevirtual 25, [36, 1, 0]), (6, 0, .i2l, []), (7, 3, .lastore, []), (8, 1, .goto 15, [23]), (11, 2, .astore_n 2, []), (12, 0, .iconst 1, []), (13, 5, .ireturn, []), (14, 2, .astore_n 2, []), (15, 0, .iconst 2, []), (16, 5, .ireturn, []), (17, 2, .astore_n 2, []), (18, 0, .iconst 3, []), (19, 5, .ireturn, []), (20, 2, .astore_n 2, []), (21, 0, .iconst 4, []), (22, 5, .ireturn, []), (23, 0, .iconst 0, []), (24, 5, .ireturn, [])]
/-- GoalDesk ask ()I -/
def gt_t36 : List (Nat × ai_I) := [(0, 2, .aload_n 0, []), (1, 3, .getfield 13, [0, 1]), (4, 2, .istore_n 1, []), (5, 2, .aload_n 0, []), (6, 0, .iconst 0, []), (7, 3, .putfield 13, [0, 1]), (10, 2, .aload_n 0, []), (11, 0, .iconst 0, []), (12, 3, .putfield 29, [0, 6]), (15, 2, .aload_n 0, []), (16, 3, .getfield 51, [0, 7]), (19, 2, .aload_n 0, []), (20, 3, .getfield 9, [0, 0]), (23, 2, .iload_n 1, []), (24, 2, .aload_n 0, []), (25, 3, .getfield 44, [0, 5]), (28, 4, .invokevirtual 84, [37, 4, 4]), (31, 1, .ifCond .ne 22, [53]), (34, 2, .aload_n 0, []), (35, 2, .aload_n 0, []), (36, 3, .getfield 51, [0, 7]), (39, 3, .getfield 81, [4, 3]), (42, 3, .putfield 17, [0, 2]), (45, 6, .new 71, [0]), (53, 2, .aload_n 0, []), (54, 3, .getfield 60, [0, 8]), (57, 2, .aload_n 0, []), (58, 3, .getfield 44, [0, 5]), (61, 2, .aload_n 0, []), (62, 3, .getfield 22, [0, 3]), (65, 2, .aload_n 0, []), (66, 3, .getfield 26, [0, 4]), (69, 4, .invokevirtual 87, [38, 4, 5]), (72, 2, .aload_n 0, []), (73, 2, .aload_n 0, []), (74, 3, .getfield 60, [0, 8]), (77, 0, .iconst 1, []), (78, 4, .invokevirtual 91, [60, 2, 5]), (81, 3, .putfield 29, [0, 6]), (84, 2, .aload_n 0, []), (85, 3, .getfield 29, [0, 6]), (88, 1, .ifCond .ne 11, [99]), (91, 6, .new 95, [2]), (99, 2, .aload_n 0, []), (100, 3, .getfield 60, [0, 8]), (103, 3, .getfield 98, [5, 2]), (106, 3, .getfield 102, [7, 0]), (109, 5, .ireturn, [])]
/-- GoalDesk$Reader readQuestion ([CILGoalDesk$Clause;)Z -/
def gt_t37 : List (Nat × ai_I) := [(0, 2, .aload_n 0, []), (1, 2, .aload_n 1, []), (2, 2, .iload_n 2, []), (3, 2, .aload_n 3, []), (4, 4, .invokevirtual 22, [20, 4, 4]), (7, 2, .aload_n 0, []), (8, 4, .invokevirtual 41, [28, 1, 4]), (11, 1, .ifCond .ne 5, [16]), (14, 0, .iconst 0, []), (15, 5, .ireturn, []), (16, 2, .aload_n 0, []), (17, 4, .invokevirtual 45, [31, 1, 4]), (20, 0, .iconst 1, []), (21, 5, .ireturn, [])]
/-- GoalDesk$Search begin (LGoalDesk$Clause;[LGoalDesk$Clause;I)V -/
def gt_t38 : List (Nat × ai_I) := [(0, 2, .aload_n 0, []), (1, 2, .aload_n 2, []), (2, 3, .putfield 73, [5, 5]), (5, 2, .aload_n 0, []), (6, 2, .iload_n 3, []), (7, 3, .putfield 9, [5, 6]), (10, 2, .aload_n 0, []), (11, 3, .getfield 52, [5, 1]), (14, 4, .invokevirtual 77, [39, 1, 2]), (17, 2, .aload_n 0, []), (18, 3, .getfield 69, [5, 4]), (21, 4, .invokevirtual 82, [40, 1, 9]), (24, 2, .aload_n 0, []), (25, 3, .getfield 56, [5, 2]), (28, 0, .iconst 0, []), (29, 3, .putfield 83, [7, 0]), (32, 2, .aload_n 0, []), (33, 0, .iconst 0, []), (34, 3, .putfield 22, [5, 8]), (37, 2, .aload_n 0, []), (38, 0, .aconst_null, []), (39, 3, .putfield 86, [5, 9]), (42, 2, .aload_n 0, []), (43, 0, .iconst 0, []), (44, 3, .putfield 28, [5, 11]), (47, 2, .aload_n 0, []), (48, 0, .iconst 0, []), (49, 3, .putfield 31, [5, 12]), (52, 2, .aload_n 0, []), (53, 2, .aload_n 1, []), (54, 2, .aload_n 0, []), (55, 3, .getfield 52, [5, 1]), (58, 2, .aload_n 1, []), (59, 3, .getfield 90, [3, 6]), (62, 4, .invokevirtual 94, [41, 2, 2]), (65, 0, .iconst 0, []), (66, 4, .invokevirtual 98, [43, 4, 5]), (69, 5, .return_, [])]
/-- GoalDesk$Variables clear ()V -/
def gt_t39 : List (Nat × ai_I) := [(0, 2, .aload_n 0, []), (1, 0, .iconst 0, []), (2, 3, .putfield 21, [2, 4]), (5, 2, .aload_n 0, []), (6, 0, .iconst 0, []), (7, 3, .putfield 25, [2, 5]), (10, 2, .aload_n 0, []), (11, 0, .iconst 0, []), (12, 3, .putfield 31, [2, 7]), (15, 2, .aload_n 0, []), (16, 0, .iconst 0, []), (17, 3, .putfield 40, [2, 10]), (20, 2, .aload_n 0, []), (21, 0, .iconst 0, []), (22, 3, .putfield 49, [2, 13]), (25, 5, .return_, [])]
/-- GoalDesk$Aparts clear ()V -/
def gt_t40 : List (Nat × ai_I) := [(0, 2, .aload_n 0, []), (1, 0, .iconst 0, []), (2, 3, .putfield 22, [9, 5]), (5, 2, .aload_n 0, []), (6, 0, .iconst 0, []), (7, 3, .putfield 29, [9, 7]), (10, 5, .return_, [])]
/-- GoalDesk$Variables make (I)I -/
def gt_t41 : List (Nat × ai_I) := [(0, 2, .aload_n 0, []), (1, 3, .getfield 21, [2, 4]), (4, 2, .istore_n 2, []), (5, 2, .iload_n 2, []), (6, 2, .iload_n 1, []), (7, 0, .iadd, []), (8, 2, .aload_n 0, []), (9, 3, .getfield 9, [2, 1]), (12, 3, .arraylength, []), (13, 1, .if_icmp .le 45, [58]), (16, 0, .iconst 2, []), (17, 2, .iload_n 2, []), (18, 2, .iload_n 1, []), (19, 0, .iadd, []), (20, 0, .imul, []), (21, 2, .istore_n 3, []), (22, 2, .aload_n 0, []), (23, 2, .aload_n 0, []), (24, 3, .getfield 9, [2, 1]), (27, 2, .iload_n 3, []), (28, 4, .invokestatic 56, [42, 2, 0]), (31, 3, .putfield 9, [2, 1]), (34, 2, .aload_n 0, []), (35, 2, .aload_n 0, []), (36, 3, .getfield 15, [2, 2]), (39, 2, .iload_n 3, []), (40, 4, .invokestatic 56, [42, 2, 0]), (43, 3, .putfield 15, [2, 2]), (46, 2, .aload_n 0, []), (47, 2, .aload_n 0, []), (48, 3, .getfield 18, [2, 3]), (51, 2, .iload_n 3, []), (52, 4, .invokestatic 56, [42, 2, 0]), (55, 3, .putfield 18, [2, 3]), (58, 2, .aload_n 0, []), (59, 2, .iload_n 2, []), (60, 2, .iload_n 1, []), (61, 0, .iadd, []), (62, 3, .putfield 21, [2, 4]), (65, 2, .aload_n 0, []), (66, 0, .dup, []), (67, 3, .getfield 25, [2, 5]), (70, 2, .iload_n 1, []), (71, 0, .iadd, []), (72, 3, .putfield 25, [2, 5]), (75, 2, .iload_n 2, []), (76, 2, .istore_n 3, []), (77, 2, .iload_n 3, []), (78, 2, .aload_n 0, []), (79, 3, .getfield 21, [2, 4]), (82, 1, .if_icmp .ge 31, [113]), (85, 2, .aload_n 0, []), (86, 3, .getfield 9, [2, 1]), (89, 2, .iload_n 3, []), (90, 3, .ldc 62, [2147483648]), (92, 3, .iastore, []), (93, 2, .aload_n 0, []), (94, 3, .getfield 15, [2, 2]), (97, 2, .iload_n 3, []), (98, 0, .iconst (-1), []), (99, 3, .iastore, []), (100, 2, .aload_n 0, []), (101, 3, .getfield 18, [2, 3]), (104, 2, .iload_n 3, []), (105, 0, .iconst (-1), []), (106, 3, .iastore, []), (107, 2, .iinc 3 1, []), (110, 1, .goto (-33), [77]), (113, 2, .iload_n 2, []), (114, 5, .ireturn, [])]
/-- java/util/Arrays copyOf ([II)[I -/
def gt_t42 : List (Nat × ai_I) := [(0, 2, .iload_n 1, []), (1, 2, .aload_n 0, []), (2, 3, .arraylength, []), (3, 1, .if_icmp .ne 11, [14]), (6, 2, .aload_n 0, []), (13, 5, .areturn, []), (14, 2, .iload_n 1, []), (15, 3, .newarray .int, [0, 48]), (17, 2, .astore_n 2, []), (18, 2, .aload_n 0, []), (19, 0, .iconst 0, []), (20, 2, .aload_n 2, []), (21, 0, .iconst 0, []), (22, 2, .aload_n 0, []), (23, 3, .arraylength, []), (24, 2, .iload_n 1, []), (25, 9, .invokestatic 304, []), (28, 10, .invokestatic 150, [5]), (31, 2, .aload_n 2, []), (32, 5, .areturn, [])]
/-- GoalDesk$Search putBodyInFront (LGoalDesk$Clause;II)V -/
def gt_t43 : List (Nat × ai_I) := [(0, 2, .aload_n 1, []), (1, 3, .getfield 277, [3, 4]), (4, 0, .iconst 1, []), (5, 0, .isub, []), (6, 2, .istore 4, []), (8, 2, .iload 4, []), (10, 1, .ifCond .lt 55, [65]), (13, 2, .aload_n 0, []), (14, 3, .getfield 48, [5, 0]), (17, 2, .aload_n 1, []), (18, 3, .getfield 280, [3, 2]), (21, 2, .iload 4, []), (23, 3, .iaload, []), (24, 2, .iload_n 2, []), (25, 4, .invokevirtual 264, [44, 3, 1]), (28, 2, .istore 5, []), (30, 2, .aload_n 0, []), (31, 2, .aload_n 1, []), (32, 3, .getfield 282, [3, 1]), (35, 2, .iload 4, []), (37, 3, .caload, []), (38, 2, .iload 5, []), (40, 2, .aload_n 0, []), (41, 3, .getfield 48, [5, 0]), (44, 2, .aload_n 1, []), (45, 3, .getfield 285, [3, 3]), (48, 2, .iload 4, []), (50, 3, .iaload, []), (51, 2, .iload_n 2, []), (52, 4, .invokevirtual 264, [44, 3, 1]), (55, 2, .iload_n 3, []), (56, 4, .invokevirtual 201, [45, 5, 5]), (59, 2, .iinc 4 (-1), []), (62, 1, .goto (-54), [8]), (65, 5, .return_, [])]
/-- GoalDesk$Terms termOf (II)I -/
def gt_t44 : List (Nat × ai_I) := [(0, 2, .iload_n 2, []), (1, 0, .sipush 624, []), (4, 0, .imul, []), (5, 2, .iload_n 1, []), (6, 0, .iadd, []), (7, 5, .ireturn, [])]
/-- GoalDesk$Search putGoalInFront (CIII)V -/
def gt_t45 : List (Nat × ai_I) := [(0, 2, .aload_n 0, []), (1, 3, .getfield 22, [5, 8]), (4, 2, .aload_n 0, []), (5, 3, .getfield 18, [5, 7]), (8, 4, .invokevirtual 221, [46, 1, 6]), (11, 1, .if_icmp .lt 18, [29]), (14, 2, .aload_n 0, []), (15, 3, .getfield 18, [5, 7]), (18, 3, .new 142, [11, 49]), (21, 0, .dup, []), (22, 4, .invokespecial 287, [47, 1, 0]), (25, 4, .invokevirtual 226, [48, 2, 6]), (28, 0, .pop, []), (29, 2, .aload_n 0, []), (30, 3, .getfield 18, [5, 7]), (33, 2, .aload_n 0, []), (34, 3, .getfield 22, [5, 8]), (37, 4, .invokevirtual 114, [56, 2, 6]), (40, 3, .checkcast 142, [11]), (43, 2, .astore 5, []), (45, 2, .aload_n 0, []), (46, 0, .dup, []), (47, 3, .getfield 22, [5, 8]), (50, 0, .iconst 1, []), (51, 0, .iadd, []), (52, 3, .putfield 22, [5, 8]), (55, 2, .aload 5, []), (57, 2, .iload_n 1, []), (58, 3, .putfield 146, [11, 0]), (61, 2, .aload 5, []), (63, 2, .iload_n 2, []), (64, 3, .putfield 159, [11, 1]), (67, 2, .aload 5, []), (69, 2, .iload_n 3, []), (70, 3, .putfield 165, [11, 2]), (73, 2, .aload 5, []), (75, 2, .iload 4, []), (77, 3, .putfield 150, [11, 3]), (80, 2, .aload 5, []), (82, 2, .aload_n 0, []), (83, 3, .getfield 86, [5, 9]), (86, 3, .putfield 141, [11, 4]), (89, 2, .aload_n 0, []), (90, 2, .aload 5, []), (92, 3, .putfield 86, [5, 9]), (95, 5, .return_, [])]
/-- java/util/ArrayList size ()I -/
def gt_t46 : List (Nat × ai_I) := [(0, 2, .aload_n 0, []), (1, 3, .getfield 48, [6, 1]), (4, 5, .ireturn, [])]
/-- GoalDesk$ToDo <init> ()V -/
def gt_t47 : List (Nat × ai_I) := [(0, 2, .aload_n 0, []), (1, 7, .invokespecial 1, []), (4, 5, .return_, [])]
/-- java/util/ArrayList add (Ljava/lang/Object;)Z -/
def gt_t48 : List (Nat × ai_I) := [(0, 2, .aload_n 0, []), (1, 0, .dup, []), (2, 3, .getfield 63, [6, 2]), (5, 0, .iconst 1, []), (6, 0, .iadd, []), (7, 3, .putfield 63, [6, 2]), (10, 2, .aload_n 0, []), (11, 2, .aload_n 1, []), (12, 2, .aload_n 0, []), (13, 3, .getfield 9, [6, 0]), (16, 2, .aload_n 0, []), (17, 3, .getfield 48, [6, 1]), (20, 4, .invokevirtual 131, [49, 4, 6]), (23, 0, .iconst 1, []), (24, 5, .ireturn, [])]
/-- java/util/ArrayList add (Ljava/lang/Object;[Ljava/lang/Object;I)V -/
def gt_t49 : List (Nat × ai_I) := [(0, 2, .iload_n 3, []), (1, 2, .aload_n 2, []), (2, 3, .arraylength, []), (3, 1, .if_icmp .ne 8, [11]), (6, 2, .aload_n 0, []), (7, 4, .invokevirtual 129, [50, 1, 6]), (10, 2, .astore_n 2, []), (11, 2, .aload_n 2, []), (12, 2, .iload_n 3, []), (13, 2, .aload_n 1, []), (14, 3, .aastore, []), (15, 2, .aload_n 0, []), (16, 2, .iload_n 3, []), (17, 0, .iconst 1, []), (18, 0, .iadd, []), (19, 3, .putfield 48, [6, 1]), (22, 5, .return_, [])]
/-- java/util/ArrayList grow ()[Ljava/lang/Object; -/
def gt_t50 : List (Nat × ai_I) := [(0, 2, .aload_n 0, []), (1, 2, .aload_n 0, []), (2, 3, .getfield 48, [6, 1]), (5, 0, .iconst 1, []), (6, 0, .iadd, []), (7, 4, .invokevirtual 69, [51, 2, 6]), (10, 5, .areturn, [])]
/-- java/util/ArrayList grow (I)[Ljava/lang/Object; -/
def gt_t51 : List (Nat × ai_I) := [(0, 2, .aload_n 0, []), (1, 3, .getfield 9, [6, 0]), (4, 3, .arraylength, []), (5, 2, .istore_n 2, []), (6, 2, .iload_n 2, []), (7, 1, .ifCond .gt 13, [20]), (10, 2, .aload_n 0, []), (11, 3, .getfield 9, [6, 0]), (14, 10, .getstatic 39, [0]), (17, 10, .if_acmp .eq 28, [3, 45]), (20, 2, .iload_n 2, []), (21, 2, .iload_n 1, []), (22, 2, .iload_n 2, []), (23, 0, .isub, []), (24, 2, .iload_n 2, []), (25, 0, .iconst 1, []), (26, 0, .ishr, []), (27, 4, .invokestatic 73, [52, 3, 0]), (30, 2, .istore_n 3, []), (31, 2, .aload_n 0, []), (32, 2, .aload_n 0, []), (33, 3, .getfield 9, [6, 0]), (36, 2, .iload_n 3, []), (37, 4, .invokestatic 66, [54, 2, 0]), (40, 0, .dup_x1, []), (41, 3, .putfield 9, [6, 0]), (44, 5, .areturn, []), (45, 2, .aload_n 0, []), (46, 0, .bipush 10, []), (48, 2, .iload_n 1, []), (49, 8, .invokestatic 79, []), (52, 3, .anewarray 7, [5, 50]), (55, 0, .dup_x1, []), (56, 3, .putfield 9, [6, 0]), (59, 5, .areturn, [])]
/-- jdk/internal/util/ArraysSupport newLength (III)I -/
def gt_t52 : List (Nat × ai_I) := [(0, 2, .iload_n 0, []), (1, 2, .iload_n 1, []), (2, 2, .iload_n 2, []), (3, 8, .invokestatic 194, []), (6, 0, .iadd, []), (7, 2, .istore_n 3, []), (8, 0, .iconst 0, []), (9, 2, .iload_n 3, []), (10, 1, .if_icmp .ge 11, [21]), (13, 2, .iload_n 3, []), (14, 3, .ldc 200, [2147483639]), (16, 1, .if_icmp .gt 5, [21]), (19, 2, .iload_n 3, []), (20, 5, .ireturn, []), (21, 2, .iload_n 0, []), (22, 2, .iload_n 1, []), (23, 4, .invokestatic 201, [53, 2, 0]), (26, 5, .ireturn, [])]
/-- jdk/internal/util/ArraysSupport hugeLength (II)I -/
def gt_t53 : List (Nat × ai_I) := [(0, 2, .iload_n 0, []), (1, 2, .iload_n 1, []), (2, 0, .iadd, []), (3, 2, .istore_n 2, []), (4, 2, .iload_n 2, []), (5, 1, .ifCond .ge 44, [49]), (11, 0, .dup, []), (15, 0, .dup, []), (24, 2, .iload_n 0, []), (33, 2, .iload_n 1, []), (49, 2, .iload_n 2, []), (50, 3, .ldc 200, [2147483639]), (52, 1, .if_icmp .gt 6, [58]), (55, 3, .ldc 200, [2147483639]), (57, 5, .ireturn, []), (58, 2, .iload_n 2, []), (59, 5, .ireturn, [])]
/-- java/util/Arrays copyOf ([Ljava/lang/Object;I)[Ljava/lang/Object; -/
def gt_t54 : List (Nat × ai_I) := [(0, 2, .aload_n 0, []), (1, 2, .iload_n 1, []), (2, 2, .aload_n 0, []), (3, 10, .invokevirtual 86, [2]), (6, 4, .invokestatic 300, [55, 3, 0]), (9, 5, .areturn, [])]
/-- java/util/Arrays copyOf ([Ljava/lang/Object;ILjava/lang/Class;)[Ljava/lang/Object; -/
def gt_t55 : List (Nat × ai_I) := [(0, 2, .aload_n 2, []), (1, 10, .ldc 110, [1]), (3, 10, .if_acmp .ne 10, [4, 13]), (6, 2, .iload_n 1, []), (7, 3, .anewarray 2, [5, 51]), (10, 1, .goto 14, [24]), (13, 2, .aload_n 2, []), (17, 2, .iload_n 1, []), (24, 2, .astore_n 3, []), (25, 2, .aload_n 0, []), (26, 0, .iconst 0, []), (27, 2, .aload_n 3, []), (28, 0, .iconst 0, []), (29, 2, .aload_n 0, []), (30, 3, .arraylength, []), (31, 2, .iload_n 1, []), (32, 9, .invokestatic 304, []), (35, 10, .invokestatic 150, [6]), (38, 2, .aload_n 3, []), (39, 5, .areturn, [])]
/-- java/util/ArrayList get (I)Ljava/lang/Object; -/
def gt_t56 : List (Nat × ai_I) := [(0, 2, .iload_n 1, []), (1, 2, .aload_n 0, []), (2, 3, .getfield 48, [6, 1]), (5, 4, .invokestatic 118, [57, 2, 0]), (8, 0, .pop, []), (9, 2, .aload_n 0, []), (10, 2, .iload_n 1, []), (11, 4, .invokevirtual 123, [59, 2, 6]), (14, 5, .areturn, [])]
/-- java/util/Objects checkIndex (II)I -/
def gt_t57 : List (Nat × ai_I) := [(0, 2, .iload_n 0, []), (1, 2, .iload_n 1, []), (2, 0, .aconst_null, []), (3, 4, .invokestatic 105, [58, 3, 0]), (6, 5, .ireturn, [])]
/-- jdk/internal/util/Preconditions checkIndex (IILjava/util/function/BiFunction;)I -/
def gt_t58 : List (Nat × ai_I) := [(0, 2, .iload_n 0, []), (1, 1, .ifCond .lt 8, [9]), (4, 2, .iload_n 0, []), (5, 2, .iload_n 1, []), (6, 1, .if_icmp .lt 10, [16]), (9, 2, .aload_n 2, []), (10, 2, .iload_n 0, []), (11, 2, .iload_n 1, []), (16, 2, .iload_n 0, []), (17, 5, .ireturn, [])]
/-- java/util/ArrayList elementData (I)Ljava/lang/Object; -/
def gt_t59 : List (Nat × ai_I) := [(0, 2, .aload_n 0, []), (1, 3, .getfield 9, [6, 0]), (4, 2, .iload_n 1, []), (5, 3, .aaload, []), (6, 5, .areturn, [])]
/-- GoalDesk$Search seek (Z)Z -/
def gt_t60 : List (Nat × ai_I) := [(0, 2, .iload_n 1, []), (1, 2, .istore_n 2, []), (2, 0, .iconst 0, []), (3, 2, .istore_n 3, []), (4, 2, .iload_n 3, []), (5, 3, .ldc 102, [1000000]), (7, 1, .if_icmp .ge 180, [187]), (10, 2, .iload_n 2, []), (11, 1, .ifCond .eq 22, [33]), (14, 2, .aload_n 0, []), (15, 3, .getfield 86, [5, 9]), (18, 1, .ifnonnull 15, [33]), (21, 2, .aload_n 0, []), (22, 0, .dup, []), (23, 3, .getfield 31, [5, 12]), (26, 0, .iconst 1, []), (27, 0, .iadd, []), (28, 3, .putfield 31, [5, 12]), (31, 0, .iconst 1, []), (32, 5, .ireturn, []), (33, 2, .iload_n 2, []), (34, 1, .ifCond .ne 12, [46]), (37, 2, .aload_n 0, []), (38, 3, .getfield 28, [5, 11]), (41, 1, .ifCond .ne 5, [46]), (44, 0, .iconst 0, []), (45, 5, .ireturn, []), (46, 2, .aload_n 0, []), (47, 3, .getfield 60, [5, 3]), (50, 4, .invokevirtual 103, [61, 1, 8]), (53, 2, .aload_n 0, []), (54, 0, .aconst_null, []), (55, 3, .putfield 104, [5, 13]), (58, 2, .aload_n 0, []), (59, 3, .getfield 69, [5, 4]), (62, 3, .getfield 107, [9, 5]), (65, 2, .istore 4, []), (67, 2, .iload_n 2, []), (68, 1, .ifCond .eq 15, [83]), (71, 2, .aload_n 0, []), (72, 2, .aload_n 0, []), (73, 3, .getfield 86, [5, 9]), (76, 4, .invokevirtual 110, [62, 2, 5]), (79, 2, .istore_n 2, []), (80, 1, .goto 25, [105]), (83, 2, .aload_n 0, []), (84, 2, .aload_n 0, []), (85, 3, .getfield 25, [5, 10]), (88, 2, .aload_n 0, []), (89, 3, .getfield 28, [5, 11]), (92, 0, .iconst 1, []), (93, 0, .isub, []), (94, 4, .invokevirtual 114, [56, 2, 6]), (97, 3, .checkcast 118, [12]), (100, 4, .invokevirtual 120, [81, 2, 5]), (103, 0, .iconst 1, []), (104, 2, .istore_n 2, []), (105, 2, .aload_n 0, []), (106, 3, .getfield 52, [5, 1]), (109, 3, .getfield 124, [2, 7]), (112, 2, .istore 5, []), (114, 2, .iload_n 2, []), (115, 1, .ifCond .eq 18, [133]), (118, 2, .aload_n 0, []), (119, 3, .getfield 60, [5, 3]), (122, 0, .iconst 0, []), (123, 4, .invokevirtual 127, [85, 2, 8]), (126, 1, .ifCond .eq 7, [133]), (129, 0, .iconst 1, []), (130, 1, .goto 4, [134]), (133, 0, .iconst 0, []), (134, 2, .istore_n 2, []), (135, 2, .iload_n 2, []), (136, 1, .ifCond .eq 35, [171]), (139, 2, .aload_n 0, []), (140, 3, .getfield 69, [5, 4]), (143, 2, .aload_n 0, []), (144, 3, .getfield 52, [5, 1]), (147, 3, .getfield 124, [2, 7]), (150, 2, .iload 5, []), (152, 1, .if_icmp .le 7, [159]), (155, 0, .iconst 0, []), (156, 1, .goto 5, [161]), (159, 2, .iload 4, []), (161, 4, .invokevirtual 131, [89, 2, 9]), (164, 1, .ifCond .eq 7, [171]), (167, 0, .iconst 1, []), (168, 1, .goto 4, [172]), (171, 0, .iconst 0, []), (172, 2, .istore_n 2, []), (173, 2, .iload_n 2, []), (174, 1, .ifCond .eq 7, [181]), (177, 2, .aload_n 0, []), (178, 4, .invokevirtual 135, [91, 1, 5]), (181, 2, .iinc 3 1, []), (184, 1, .goto (-180), [4]), (187, 0, .iconst 0, []), (188, 5, .ireturn, [])]
/-- GoalDesk$Pairs clear ()V -/
def gt_t61 : List (Nat × ai_I) := [(0, 2, .aload_n 0, []), (1, 0, .iconst 0, []), (2, 3, .putfield 18, [8, 5]), (5, 2, .aload_n 0, []), (6, 0, .iconst 0, []), (7, 3, .putfield 25, [8, 7]), (10, 5, .return_, [])]
/-- GoalDesk$Search doFirst (LGoalDesk$ToDo;)Z -/
def gt_t62 : List (Nat × ai_I) := [(0, 2, .aload_n 0, []), (1, 3, .getfield 56, [5, 2]), (4, 4, .invokevirtual 138, [63, 1, 7]), (7, 2, .aload_n 0, []), (8, 2, .aload_n 1, []), (9, 3, .getfield 141, [11, 4]), (12, 3, .putfield 86, [5, 9]), (15, 2, .aload_n 1, []), (16, 3, .getfield 146, [11, 0]), (19, 1, .lookupswitch 136 #[(33, 49), (40, 66), (60, 109), (61, 75), (126, 92)], [155, 68, 85, 128, 94, 111]), (68, 2, .aload_n 0, []), (69, 2, .aload_n 0, []), (70, 3, .getfield 28, [5, 11]), (73, 2, .aload_n 1, []), (74, 3, .getfield 150, [11, 3]), (77, 9, .invokestatic 153, []), (80, 3, .putfield 28, [5, 11]), (83, 0, .iconst 1, []), (84, 5, .ireturn, []), (85, 2, .aload_n 0, []), (86, 2, .aload_n 1, []), (87, 3, .getfield 159, [11, 1]), (90, 4, .invokevirtual 162, [64, 2, 5]), (93, 5, .ireturn, []), (94, 2, .aload_n 0, []), (95, 3, .getfield 60, [5, 3]), (98, 2, .aload_n 1, []), (99, 3, .getfield 159, [11, 1]), (102, 2, .aload_n 1, []), (103, 3, .getfield 165, [11, 2]), (106, 4, .invokevirtual 168, [73, 3, 8]), (109, 0, .iconst 1, []), (110, 5, .ireturn, []), (111, 2, .aload_n 0, []), (112, 3, .getfield 69, [5, 4]), (115, 2, .aload_n 1, []), (116, 3, .getfield 159, [11, 1]), (119, 2, .aload_n 1, []), (120, 3, .getfield 165, [11, 2]), (123, 4, .invokevirtual 172, [74, 3, 9]), (126, 0, .iconst 1, []), (127, 5, .ireturn, []), (128, 2, .aload_n 0, []), (129, 2, .aload_n 0, []), (130, 3, .getfield 52, [5, 1]), (133, 2, .aload_n 1, []), (134, 3, .getfield 159, [11, 1]), (137, 4, .invokevirtual 175, [75, 2, 2]), (140, 2, .aload_n 0, []), (141, 3, .getfield 52, [5, 1]), (144, 2, .aload_n 1, []), (145, 3, .getfield 165, [11, 2]), (148, 4, .invokevirtual 175, [75, 2, 2]), (151, 4, .invokevirtual 178, [77, 3, 5]), (154, 5, .ireturn, []), (155, 2, .aload_n 0, []), (156, 2, .aload_n 0, []), (157, 3, .getfield 52, [5, 1]), (160, 2, .aload_n 1, []), (161, 3, .getfield 159, [11, 1]), (164, 4, .invokevirtual 175, [75, 2, 2]), (167, 2, .aload_n 1, []), (168, 3, .getfield 165, [11, 2]), (171, 4, .invokevirtual 182, [78, 3, 5]), (174, 0, .iconst 1, []), (175, 5, .ireturn, [])]
/-- GoalDesk$Steps takeOne ()V -/
def gt_t63 : List (Nat × ai_I) := [(0, 2, .aload_n 0, []), (1, 3, .getfield 9, [7, 0]), (4, 0, .sipush 500, []), (7, 1, .if_icmp .lt 11, [18]), (10, 6, .new 15, [1]), (18, 2, .aload_n 0, []), (19, 0, .dup, []), (20, 3, .getfield 9, [7, 0]), (23, 0, .iconst 1, []), (24, 0, .iadd, []), (25, 3, .putfield 9, [7, 0]), (28, 5, .return_, [])]
/-- GoalDesk$Search beginCall (I)Z -/
def gt_t64 : List (Nat × ai_I) := [(0, 2, .aload_n 0, []), (1, 2, .iload_n 1, []), (2, 0, .iconst 0, []), (3, 4, .invokevirtual 205, [65, 3, 5]), (6, 2, .istore_n 2, []), (7, 2, .iload_n 2, []), (8, 0, .iconst (-1), []), (9, 1, .if_icmp .ne 5, [14]), (12, 0, .iconst 0, []), (13, 5, .ireturn, []), (14, 2, .aload_n 0, []), (15, 3, .getfield 28, [5, 11]), (18, 2, .istore_n 3, []), (19, 2, .aload_n 0, []), (20, 2, .iload_n 1, []), (21, 2, .iload_n 2, []), (22, 0, .iconst 1, []), (23, 0, .iadd, []), (24, 4, .invokevirtual 205, [65, 3, 5]), (27, 2, .istore 4, []), (29, 2, .iload 4, []), (31, 0, .iconst (-1), []), (32, 1, .if_icmp .eq 10, [42]), (35, 2, .aload_n 0, []), (36, 2, .iload_n 1, []), (37, 2, .iload 4, []), (39, 4, .invokevirtual 208, [68, 3, 5]), (42, 2, .aload_n 0, []), (43, 2, .iload_n 1, []), (44, 2, .iload_n 2, []), (45, 2, .iload_n 3, []), (46, 4, .invokevirtual 211, [70, 4, 5]), (49, 0, .iconst 1, []), (50, 5, .ireturn, [])]
/-- GoalDesk$Search findClause (II)I -/
def gt_t65 : List (Nat × ai_I) := [(0, 2, .iload_n 2, []), (1, 2, .istore_n 3, []), (2, 2, .iload_n 3, []), (3, 2, .aload_n 0, []), (4, 3, .getfield 9, [5, 6]), (7, 1, .if_icmp .ge 62, [69]), (10, 2, .aload_n 0, []), (11, 3, .getfield 73, [5, 5]), (14, 2, .iload_n 3, []), (15, 3, .aaload, []), (16, 3, .getfield 215, [3, 0]), (19, 2, .istore 4, []), (21, 2, .aload_n 0, []), (22, 3, .getfield 48, [5, 0]), (25, 2, .iload 4, []), (27, 4, .invokevirtual 185, [66, 2, 1]), (30, 2, .aload_n 0, []), (31, 3, .getfield 48, [5, 0]), (34, 2, .iload_n 1, []), (35, 4, .invokevirtual 185, [66, 2, 1]), (38, 1, .if_icmp .ne 25, [63]), (41, 2, .aload_n 0, []), (42, 3, .getfield 48, [5, 0]), (45, 2, .iload 4, []), (47, 4, .invokevirtual 218, [67, 2, 1]), (50, 2, .aload_n 0, []), (51, 3, .getfield 48, [5, 0]), (54, 2, .iload_n 1, []), (55, 4, .invokevirtual 218, [67, 2, 1]), (58, 1, .if_icmp .ne 5, [63]), (61, 2, .iload_n 3, []), (62, 5, .ireturn, []), (63, 2, .iinc 3 1, []), (66, 1, .goto (-64), [2]), (69, 0, .iconst (-1), []), (70, 5, .ireturn, [])]
/-- GoalDesk$Terms letterOf (I)C -/
def gt_t66 : List (Nat × ai_I) := [(0, 2, .aload_n 0, []), (1, 3, .getfield 9, [1, 0]), (4, 2, .iload_n 1, []), (5, 0, .sipush 624, []), (8, 0, .irem, []), (9, 3, .caload, []), (10, 5, .ireturn, [])]
/-- GoalDesk$Terms arityOf (I)I -/
def gt_t67 : List (Nat × ai_I) := [(0, 2, .aload_n 0, []), (1, 3, .getfield 15, [1, 1]), (4, 2, .iload_n 1, []), (5, 0, .sipush 624, []), (8, 0, .irem, []), (9, 3, .iaload, []), (10, 5, .ireturn, [])]
/-- GoalDesk$Search leaveChoice (II)V -/
def gt_t68 : List (Nat × ai_I) := [(0, 2, .aload_n 0, []), (1, 3, .getfield 28, [5, 11]), (4, 2, .aload_n 0, []), (5, 3, .getfield 25, [5, 10]), (8, 4, .invokevirtual 221, [46, 1, 6]), (11, 1, .if_icmp .lt 18, [29]), (14, 2, .aload_n 0, []), (15, 3, .getfield 25, [5, 10]), (18, 3, .new 118, [12, 52]), (21, 0, .dup, []), (22, 4, .invokespecial 225, [69, 1, 0]), (25, 4, .invokevirtual 226, [48, 2, 6]), (28, 0, .pop, []), (29, 2, .aload_n 0, []), (30, 3, .getfield 25, [5, 10]), (33, 2, .aload_n 0, []), (34, 3, .getfield 28, [5, 11]), (37, 4, .invokevirtual 114, [56, 2, 6]), (40, 3, .checkcast 118, [12]), (43, 2, .astore_n 3, []), (44, 2, .aload_n 0, []), (45, 0, .dup, []), (46, 3, .getfield 28, [5, 11]), (49, 0, .iconst 1, []), (50, 0, .iadd, []), (51, 3, .putfield 28, [5, 11]), (54, 2, .aload_n 3, []), (55, 2, .iload_n 1, []), (56, 3, .putfield 230, [12, 0]), (59, 2, .aload_n 3, []), (60, 2, .iload_n 2, []), (61, 3, .putfield 233, [12, 1]), (64, 2, .aload_n 3, []), (65, 2, .aload_n 0, []), (66, 3, .getfield 86, [5, 9]), (69, 3, .putfield 236, [12, 2]), (72, 2, .aload_n 3, []), (73, 2, .aload_n 0, []), (74, 3, .getfield 22, [5, 8]), (77, 3, .putfield 237, [12, 3]), (80, 2, .aload_n 3, []), (81, 2, .aload_n 0, []), (82, 3, .getfield 52, [5, 1]), (85, 3, .getfield 238, [2, 4]), (88, 3, .putfield 239, [12, 4]), (91, 2, .aload_n 3, []), (92, 2, .aload_n 0, []), (93, 3, .getfield 52, [5, 1]), (96, 3, .getfield 124, [2, 7]), (99, 3, .putfield 240, [12, 5]), (102, 2, .aload_n 3, []), (103, 2, .aload_n 0, []), (104, 3, .getfield 52, [5, 1]), (107, 3, .getfield 241, [2, 10]), (110, 3, .putfield 244, [12, 6]), (113, 2, .aload_n 3, []), (114, 2, .aload_n 0, []), (115, 3, .getfield 52, [5, 1]), (118, 3, .getfield 245, [2, 13]), (121, 3, .putfield 248, [12, 7]), (124, 2, .aload_n 3, []), (125, 2, .aload_n 0, []), (126, 3, .getfield 69, [5, 4]), (129, 3, .getfield 107, [9, 5]), (132, 3, .putfield 249, [12, 8]), (135, 2, .aload_n 3, []), (136, 2, .aload_n 0, []), (137, 3, .getfield 69, [5, 4]), (140, 3, .getfield 251, [9, 7]), (143, 3, .putfield 254, [12, 9]), (146, 5, .return_, [])]
/-- GoalDesk$Choice <init> ()V -/
def gt_t69 : List (Nat × ai_I) := [(0, 2, .aload_n 0, []), (1, 7, .invokespecial 1, []), (4, 5, .return_, [])]
/-- GoalDesk$Search takeClause (III)V -/
def gt_t70 : List (Nat × ai_I) := [(0, 2, .aload_n 0, []), (1, 2, .aload_n 0, []), (2, 3, .getfield 73, [5, 5]), (5, 2, .iload_n 2, []), (6, 3, .aaload, []), (7, 3, .putfield 104, [5, 13]), (10, 2, .aload_n 0, []), (11, 2, .aload_n 0, []), (12, 3, .getfield 52, [5, 1]), (15, 2, .aload_n 0, []), (16, 3, .getfield 104, [5, 13]), (19, 3, .getfield 90, [3, 6]), (22, 4, .invokevirtual 94, [41, 2, 2]), (25, 3, .putfield 34, [5, 14]), (28, 2, .aload_n 0, []), (29, 2, .iload_n 3, []), (30, 3, .putfield 37, [5, 15]), (33, 2, .aload_n 0, []), (34, 3, .getfield 60, [5, 3]), (37, 2, .aload_n 0, []), (38, 3, .getfield 48, [5, 0]), (41, 2, .aload_n 0, []), (42, 3, .getfield 104, [5, 13]), (45, 3, .getfield 215, [3, 0]), (48, 2, .aload_n 0, []), (49, 3, .getfield 34, [5, 14]), (52, 4, .invokevirtual 264, [44, 3, 1]), (55, 2, .iload_n 1, []), (56, 4, .invokevirtual 267, [71, 3, 8]), (59, 5, .return_, [])]
/-- GoalDesk$Pairs putArguments (II)V -/
def gt_t71 : List (Nat × ai_I) := [(0, 2, .aload_n 0, []), (1, 3, .getfield 28, [8, 0]), (4, 2, .iload_n 1, []), (5, 4, .invokevirtual 40, [67, 2, 1]), (8, 0, .iconst 1, []), (9, 0, .isub, []), (10, 2, .istore_n 3, []), (11, 2, .iload_n 3, []), (12, 1, .ifCond .lt 31, [43]), (15, 2, .aload_n 0, []), (16, 2, .aload_n 0, []), (17, 3, .getfield 28, [8, 0]), (20, 2, .iload_n 1, []), (21, 2, .iload_n 3, []), (22, 4, .invokevirtual 46, [72, 3, 1]), (25, 2, .aload_n 0, []), (26, 3, .getfield 28, [8, 0]), (29, 2, .iload_n 2, []), (30, 2, .iload_n 3, []), (31, 4, .invokevirtual 46, [72, 3, 1]), (34, 4, .invokevirtual 50, [73, 3, 8]), (37, 2, .iinc 3 (-1), []), (40, 1, .goto (-29), [11]), (43, 5, .return_, [])]
/-- GoalDesk$Terms argumentOf (II)I -/
def gt_t72 : List (Nat × ai_I) := [(0, 2, .iload_n 1, []), (1, 0, .sipush 624, []), (4, 0, .irem, []), (5, 2, .istore_n 3, []), (6, 2, .iload_n 1, []), (7, 2, .iload_n 3, []), (8, 0, .isub, []), (9, 2, .aload_n 0, []), (10, 3, .getfield 19, [1, 2]), (13, 2, .iload_n 3, []), (14, 0, .iconst 3, []), (15, 0, .imul, []), (16, 2, .iload_n 2, []), (17, 0, .iadd, []), (18, 3, .iaload, []), (19, 0, .iadd, []), (20, 5, .ireturn, [])]
/-- GoalDesk$Pairs put (II)V -/
def gt_t73 : List (Nat × ai_I) := [(0, 2, .aload_n 0, []), (1, 3, .getfield 18, [8, 5]), (4, 0, .sipush 1003, []), (7, 1, .if_icmp .ge 33, [40]), (10, 2, .aload_n 0, []), (11, 3, .getfield 11, [8, 3]), (14, 2, .aload_n 0, []), (15, 3, .getfield 18, [8, 5]), (18, 2, .iload_n 1, []), (19, 3, .iastore, []), (20, 2, .aload_n 0, []), (21, 3, .getfield 15, [8, 4]), (24, 2, .aload_n 0, []), (25, 3, .getfield 18, [8, 5]), (28, 2, .iload_n 2, []), (29, 3, .iastore, []), (30, 2, .aload_n 0, []), (31, 0, .dup, []), (32, 3, .getfield 18, [8, 5]), (35, 0, .iconst 1, []), (36, 0, .iadd, []), (37, 3, .putfield 18, [8, 5]), (40, 5, .return_, [])]
/-- GoalDesk$Aparts putNewest (II)V -/
def gt_t74 : List (Nat × ai_I) := [(0, 2, .aload_n 0, []), (1, 3, .getfield 22, [9, 5]), (4, 0, .sipush 500, []), (7, 1, .if_icmp .ge 43, [50]), (10, 2, .aload_n 0, []), (11, 3, .getfield 9, [9, 2]), (14, 2, .aload_n 0, []), (15, 3, .getfield 22, [9, 5]), (18, 2, .iload_n 1, []), (19, 3, .iastore, []), (20, 2, .aload_n 0, []), (21, 3, .getfield 15, [9, 3]), (24, 2, .aload_n 0, []), (25, 3, .getfield 22, [9, 5]), (28, 2, .iload_n 2, []), (29, 3, .iastore, []), (30, 2, .aload_n 0, []), (31, 3, .getfield 18, [9, 4]), (34, 2, .aload_n 0, []), (35, 3, .getfield 22, [9, 5]), (38, 0, .iconst 1, []), (39, 3, .bastore, []), (40, 2, .aload_n 0, []), (41, 0, .dup, []), (42, 3, .getfield 22, [9, 5]), (45, 0, .iconst 1, []), (46, 0, .iadd, []), (47, 3, .putfield 22, [9, 5]), (50, 5, .return_, [])]
/-- GoalDesk$Variables valueOf (I)I -/
def gt_t75 : List (Nat × ai_I) := [(0, 2, .iload_n 1, []), (1, 2, .istore_n 2, []), (2, 0, .iconst 0, []), (3, 2, .istore_n 3, []), (4, 2, .iload_n 3, []), (5, 2, .aload_n 0, []), (6, 3, .getfield 21, [2, 4]), (9, 1, .if_icmp .gt 64, [73]), (12, 2, .iload_n 2, []), (13, 1, .ifCond .lt 30, [43]), (16, 2, .aload_n 0, []), (17, 3, .getfield 52, [2, 0]), (20, 2, .iload_n 2, []), (21, 4, .invokevirtual 63, [66, 2, 1]), (24, 4, .invokestatic 69, [24, 1, 0]), (27, 1, .ifCond .ne 5, [32]), (30, 2, .iload_n 2, []), (31, 5, .ireturn, []), (32, 2, .aload_n 0, []), (33, 3, .getfield 52, [2, 0]), (36, 2, .iload_n 2, []), (37, 4, .invokevirtual 73, [76, 2, 1]), (40, 0, .iconst (-1), []), (41, 0, .ixor, []), (42, 2, .istore_n 2, []), (43, 2, .aload_n 0, []), (44, 3, .getfield 9, [2, 1]), (47, 2, .iload_n 2, []), (48, 0, .iconst (-1), []), (49, 0, .ixor, []), (50, 3, .iaload, []), (51, 3, .ldc 62, [2147483648]), (53, 1, .if_icmp .ne 5, [58]), (56, 2, .iload_n 2, []), (57, 5, .ireturn, []), (58, 2, .aload_n 0, []), (59, 3, .getfield 9, [2, 1]), (62, 2, .iload_n 2, []), (63, 0, .iconst (-1), []), (64, 0, .ixor, []), (65, 3, .iaload, []), (66, 2, .istore_n 2, []), (67, 2, .iinc 3 1, []), (70, 1, .goto (-66), [4]), (73, 2, .iload_n 2, []), (74, 5, .ireturn, [])]
/-- GoalDesk$Terms variableOf (I)I -/
def gt_t76 : List (Nat × ai_I) := [(0, 2, .iload_n 1, []), (1, 0, .sipush 624, []), (4, 0, .idiv, []), (5, 2, .aload_n 0, []), (6, 3, .getfield 22, [1, 3]), (9, 2, .iload_n 1, []), (10, 0, .sipush 624, []), (13, 0, .irem, []), (14, 3, .iaload, []), (15, 0, .iadd, []), (16, 5, .ireturn, [])]
/-- GoalDesk$Search isLess (II)Z -/
def gt_t77 : List (Nat × ai_I) := [(0, 2, .iload_n 1, []), (1, 1, .ifCond .lt 35, [36]), (4, 2, .iload_n 2, []), (5, 1, .ifCond .lt 31, [36]), (8, 2, .aload_n 0, []), (9, 3, .getfield 48, [5, 0]), (12, 2, .iload_n 1, []), (13, 4, .invokevirtual 185, [66, 2, 1]), (16, 4, .invokestatic 191, [25, 1, 0]), (19, 1, .ifCond .eq 17, [36]), (22, 2, .aload_n 0, []), (23, 3, .getfield 48, [5, 0]), (26, 2, .iload_n 2, []), (27, 4, .invokevirtual 185, [66, 2, 1]), (30, 4, .invokestatic 191, [25, 1, 0]), (33, 1, .ifCond .ne 11, [44]), (36, 6, .new 195, [3]), (44, 2, .aload_n 0, []), (45, 3, .getfield 48, [5, 0]), (48, 2, .iload_n 1, []), (49, 4, .invokevirtual 185, [66, 2, 1]), (52, 2, .aload_n 0, []), (53, 3, .getfield 48, [5, 0]), (56, 2, .iload_n 2, []), (57, 4, .invokevirtual 185, [66, 2, 1]), (60, 1, .if_icmp .ge 7, [67]), (63, 0, .iconst 1, []), (64, 1, .goto 4, [68]), (67, 0, .iconst 0, []), (68, 5, .ireturn, [])]
/-- GoalDesk$Search sleepOn (II)V -/
def gt_t78 : List (Nat × ai_I) := [(0, 2, .iload_n 1, []), (1, 1, .ifCond .ge 17, [18]), (4, 2, .aload_n 0, []), (5, 3, .getfield 52, [5, 1]), (8, 2, .iload_n 1, []), (9, 0, .iconst (-1), []), (10, 0, .ixor, []), (11, 2, .iload_n 2, []), (12, 4, .invokevirtual 198, [79, 3, 2]), (15, 1, .goto 12, [27]), (18, 2, .aload_n 0, []), (19, 0, .bipush 40, []), (21, 2, .iload_n 2, []), (22, 2, .iload_n 2, []), (23, 0, .iconst 0, []), (24, 4, .invokevirtual 201, [45, 5, 5]), (27, 5, .return_, [])]
/-- GoalDesk$Variables putToSleep (II)V -/
def gt_t79 : List (Nat × ai_I) := [(0, 2, .aload_n 0, []), (1, 3, .getfield 40, [2, 10]), (4, 0, .sipush 500, []), (7, 1, .if_icmp .ge 39, [46]), (10, 2, .aload_n 0, []), (11, 3, .getfield 40, [2, 10]), (14, 2, .istore_n 3, []), (15, 2, .aload_n 0, []), (16, 0, .dup, []), (17, 3, .getfield 40, [2, 10]), (20, 0, .iconst 1, []), (21, 0, .iadd, []), (22, 3, .putfield 40, [2, 10]), (25, 2, .aload_n 0, []), (26, 3, .getfield 34, [2, 8]), (29, 2, .iload_n 3, []), (30, 2, .iload_n 2, []), (31, 3, .iastore, []), (32, 2, .aload_n 0, []), (33, 3, .getfield 37, [2, 9]), (36, 2, .iload_n 3, []), (37, 0, .iconst (-1), []), (38, 3, .iastore, []), (39, 2, .aload_n 0, []), (40, 2, .iload_n 1, []), (41, 2, .iload_n 3, []), (42, 2, .iload_n 3, []), (43, 4, .invokevirtual 77, [80, 4, 2]), (46, 5, .return_, [])]
/-- GoalDesk$Variables linkBehind (III)V -/
def gt_t80 : List (Nat × ai_I) := [(0, 2, .iload_n 2, []), (1, 0, .iconst (-1), []), (2, 1, .if_icmp .eq 13, [15]), (5, 2, .aload_n 0, []), (6, 3, .getfield 49, [2, 13]), (9, 0, .sipush 500, []), (12, 1, .if_icmp .lt 4, [16]), (15, 5, .return_, []), (16, 2, .aload_n 0, []), (17, 3, .getfield 43, [2, 11]), (20, 2, .aload_n 0, []), (21, 3, .getfield 49, [2, 13]), (24, 2, .iload_n 1, []), (25, 3, .iastore, []), (26, 2, .aload_n 0, []), (27, 3, .getfield 46, [2, 12]), (30, 2, .aload_n 0, []), (31, 3, .getfield 49, [2, 13]), (34, 2, .aload_n 0, []), (35, 3, .getfield 18, [2, 3]), (38, 2, .iload_n 1, []), (39, 3, .iaload, []), (40, 3, .iastore, []), (41, 2, .aload_n 0, []), (42, 0, .dup, []), (43, 3, .getfield 49, [2, 13]), (46, 0, .iconst 1, []), (47, 0, .iadd, []), (48, 3, .putfield 49, [2, 13]), (51, 2, .aload_n 0, []), (52, 3, .getfield 18, [2, 3]), (55, 2, .iload_n 1, []), (56, 3, .iaload, []), (57, 0, .iconst (-1), []), (58, 1, .if_icmp .ne 13, [71]), (61, 2, .aload_n 0, []), (62, 3, .getfield 15, [2, 2]), (65, 2, .iload_n 1, []), (66, 2, .iload_n 2, []), (67, 3, .iastore, []), (68, 1, .goto 15, [83]), (71, 2, .aload_n 0, []), (72, 3, .getfield 37, [2, 9]), (75, 2, .aload_n 0, []), (76, 3, .getfield 18, [2, 3]), (79, 2, .iload_n 1, []), (80, 3, .iaload, []), (81, 2, .iload_n 2, []), (82, 3, .iastore, []), (83, 2, .aload_n 0, []), (84, 3, .getfield 18, [2, 3]), (87, 2, .iload_n 1, []), (88, 2, .iload_n 3, []), (89, 3, .iastore, []), (90, 5, .return_, [])]
/-- GoalDesk$Search goBack (LGoalDesk$Choice;)V -/
def gt_t81 : List (Nat × ai_I) := [(0, 2, .aload_n 0, []), (1, 2, .aload_n 1, []), (2, 3, .getfield 236, [12, 2]), (5, 3, .putfield 86, [5, 9]), (8, 2, .aload_n 0, []), (9, 2, .aload_n 1, []), (10, 3, .getfield 237, [12, 3]), (13, 3, .putfield 22, [5, 8]), (16, 2, .aload_n 0, []), (17, 3, .getfield 52, [5, 1]), (20, 2, .aload_n 1, []), (21, 3, .getfield 240, [12, 5]), (24, 4, .invokevirtual 255, [82, 2, 2]), (27, 2, .aload_n 0, []), (28, 3, .getfield 52, [5, 1]), (31, 2, .aload_n 1, []), (32, 3, .getfield 244, [12, 6]), (35, 2, .aload_n 1, []), (36, 3, .getfield 248, [12, 7]), (39, 4, .invokevirtual 259, [83, 3, 2]), (42, 2, .aload_n 0, []), (43, 3, .getfield 52, [5, 1]), (46, 2, .aload_n 1, []), (47, 3, .getfield 239, [12, 4]), (50, 3, .putfield 238, [2, 4]), (53, 2, .aload_n 0, []), (54, 3, .getfield 69, [5, 4]), (57, 2, .aload_n 1, []), (58, 3, .getfield 249, [12, 8]), (61, 2, .aload_n 1, []), (62, 3, .getfield 254, [12, 9]), (65, 4, .invokevirtual 262, [84, 3, 9]), (68, 2, .aload_n 0, []), (69, 3, .getfield 28, [5, 11]), (72, 0, .iconst 1, []), (73, 0, .isub, []), (74, 2, .istore_n 2, []), (75, 2, .aload_n 1, []), (76, 3, .getfield 233, [12, 1]), (79, 2, .istore_n 3, []), (80, 2, .aload_n 1, []), (81, 2, .aload_n 0, []), (82, 2, .aload_n 1, []), (83, 3, .getfield 230, [12, 0]), (86, 2, .iload_n 3, []), (87, 0, .iconst 1, []), (88, 0, .iadd, []), (89, 4, .invokevirtual 205, [65, 3, 5]), (92, 3, .putfield 233, [12, 1]), (95, 2, .aload_n 1, []), (96, 3, .getfield 233, [12, 1]), (99, 0, .iconst (-1), []), (100, 1, .if_icmp .ne 8, [108]), (103, 2, .aload_n 0, []), (104, 2, .iload_n 2, []), (105, 3, .putfield 28, [5, 11]), (108, 2, .aload_n 0, []), (109, 2, .aload_n 1, []), (110, 3, .getfield 230, [12, 0]), (113, 2, .iload_n 3, []), (114, 2, .iload_n 2, []), (115, 4, .invokevirtual 211, [70, 4, 5]), (118, 5, .return_, [])]
/-- GoalDesk$Variables free (I)V -/
def gt_t82 : List (Nat × ai_I) := [(0, 2, .iload_n 1, []), (1, 2, .istore_n 2, []), (2, 2, .iload_n 2, []), (3, 2, .aload_n 0, []), (4, 3, .getfield 31, [2, 7]), (7, 1, .if_icmp .ge 22, [29]), (10, 2, .aload_n 0, []), (11, 3, .getfield 9, [2, 1]), (14, 2, .aload_n 0, []), (15, 3, .getfield 28, [2, 6]), (18, 2, .iload_n 2, []), (19, 3, .iaload, []), (20, 3, .ldc 62, [2147483648]), (22, 3, .iastore, []), (23, 2, .iinc 2 1, []), (26, 1, .goto (-24), [2]), (29, 2, .aload_n 0, []), (30, 2, .iload_n 1, []), (31, 3, .putfield 31, [2, 7]), (34, 5, .return_, [])]
/-- GoalDesk$Variables unlink (II)V -/
def gt_t83 : List (Nat × ai_I) := [(0, 2, .aload_n 0, []), (1, 3, .getfield 49, [2, 13]), (4, 0, .iconst 1, []), (5, 0, .isub, []), (6, 2, .istore_n 3, []), (7, 2, .iload_n 3, []), (8, 2, .iload_n 2, []), (9, 1, .if_icmp .lt 63, [72]), (12, 2, .aload_n 0, []), (13, 3, .getfield 43, [2, 11]), (16, 2, .iload_n 3, []), (17, 3, .iaload, []), (18, 2, .istore 4, []), (20, 2, .aload_n 0, []), (21, 3, .getfield 18, [2, 3]), (24, 2, .iload 4, []), (26, 2, .aload_n 0, []), (27, 3, .getfield 46, [2, 12]), (30, 2, .iload_n 3, []), (31, 3, .iaload, []), (32, 3, .iastore, []), (33, 2, .aload_n 0, []), (34, 3, .getfield 46, [2, 12]), (37, 2, .iload_n 3, []), (38, 3, .iaload, []), (39, 0, .iconst (-1), []), (40, 1, .if_icmp .ne 14, [54]), (43, 2, .aload_n 0, []), (44, 3, .getfield 15, [2, 2]), (47, 2, .iload 4, []), (49, 0, .iconst (-1), []), (50, 3, .iastore, []), (51, 1, .goto 15, [66]), (54, 2, .aload_n 0, []), (55, 3, .getfield 37, [2, 9]), (58, 2, .aload_n 0, []), (59, 3, .getfield 46, [2, 12]), (62, 2, .iload_n 3, []), (63, 3, .iaload, []), (64, 0, .iconst (-1), []), (65, 3, .iastore, []), (66, 2, .iinc 3 (-1), []), (69, 1, .goto (-62), [7]), (72, 2, .aload_n 0, []), (73, 2, .iload_n 2, []), (74, 3, .putfield 49, [2, 13]), (77, 2, .aload_n 0, []), (78, 2, .iload_n 1, []), (79, 3, .putfield 40, [2, 10]), (82, 5, .return_, [])]
/-- GoalDesk$Aparts goBack (II)V -/
def gt_t84 : List (Nat × ai_I) := [(0, 2, .iload_n 2, []), (1, 2, .istore_n 3, []), (2, 2, .iload_n 3, []), (3, 2, .aload_n 0, []), (4, 3, .getfield 29, [9, 7]), (7, 1, .if_icmp .ge 21, [28]), (10, 2, .aload_n 0, []), (11, 3, .getfield 18, [9, 4]), (14, 2, .aload_n 0, []), (15, 3, .getfield 26, [9, 6]), (18, 2, .iload_n 3, []), (19, 3, .iaload, []), (20, 0, .iconst 1, []), (21, 3, .bastore, []), (22, 2, .iinc 3 1, []), (25, 1, .goto (-23), [2]), (28, 2, .aload_n 0, []), (29, 2, .iload_n 2, []), (30, 3, .putfield 29, [9, 7]), (33, 2, .aload_n 0, []), (34, 2, .iload_n 1, []), (35, 3, .putfield 22, [9, 5]), (38, 5, .return_, [])]
/-- GoalDesk$Pairs makeSame (Z)Z -/
def gt_t85 : List (Nat × ai_I) := [(0, 0, .iconst 0, []), (1, 2, .istore_n 2, []), (2, 2, .iload_n 2, []), (3, 0, .sipush 500, []), (6, 1, .if_icmp .gt 75, [81]), (9, 2, .aload_n 0, []), (10, 3, .getfield 18, [8, 5]), (13, 1, .ifCond .le 68, [81]), (16, 2, .aload_n 0, []), (17, 3, .getfield 36, [8, 2]), (20, 4, .invokevirtual 54, [63, 1, 7]), (23, 2, .aload_n 0, []), (24, 0, .dup, []), (25, 3, .getfield 18, [8, 5]), (28, 0, .iconst 1, []), (29, 0, .isub, []), (30, 3, .putfield 18, [8, 5]), (33, 2, .aload_n 0, []), (34, 2, .aload_n 0, []), (35, 3, .getfield 32, [8, 1]), (38, 2, .aload_n 0, []), (39, 3, .getfield 11, [8, 3]), (42, 2, .aload_n 0, []), (43, 3, .getfield 18, [8, 5]), (46, 3, .iaload, []), (47, 4, .invokevirtual 59, [75, 2, 2]), (50, 2, .aload_n 0, []), (51, 3, .getfield 32, [8, 1]), (54, 2, .aload_n 0, []), (55, 3, .getfield 15, [8, 4]), (58, 2, .aload_n 0, []), (59, 3, .getfield 18, [8, 5]), (62, 3, .iaload, []), (63, 4, .invokevirtual 59, [75, 2, 2]), (66, 2, .iload_n 1, []), (67, 4, .invokevirtual 64, [86, 4, 8]), (70, 1, .ifCond .ne 5, [75]), (73, 0, .iconst 0, []), (74, 5, .ireturn, []), (75, 2, .iinc 2 1, []), (78, 1, .goto (-76), [2]), (81, 0, .iconst 1, []), (82, 5, .ireturn, [])]
/-- GoalDesk$Pairs makePairSame (IIZ)Z -/
def gt_t86 : List (Nat × ai_I) := [(0, 2, .iload_n 1, []), (1, 1, .ifCond .lt 56, [57]), (4, 2, .iload_n 2, []), (5, 1, .ifCond .lt 52, [57]), (8, 2, .aload_n 0, []), (9, 3, .getfield 28, [8, 0]), (12, 2, .iload_n 1, []), (13, 4, .invokevirtual 68, [66, 2, 1]), (16, 2, .aload_n 0, []), (17, 3, .getfield 28, [8, 0]), (20, 2, .iload_n 2, []), (21, 4, .invokevirtual 68, [66, 2, 1]), (24, 1, .if_icmp .ne 22, [46]), (27, 2, .aload_n 0, []), (28, 3, .getfield 28, [8, 0]), (31, 2, .iload_n 1, []), (32, 4, .invokevirtual 40, [67, 2, 1]), (35, 2, .aload_n 0, []), (36, 3, .getfield 28, [8, 0]), (39, 2, .iload_n 2, []), (40, 4, .invokevirtual 40, [67, 2, 1]), (43, 1, .if_icmp .eq 5, [48]), (46, 0, .iconst 0, []), (47, 5, .ireturn, []), (48, 2, .aload_n 0, []), (49, 2, .iload_n 1, []), (50, 2, .iload_n 2, []), (51, 4, .invokevirtual 72, [71, 3, 8]), (54, 1, .goto 139, [193]), (57, 2, .iload_n 1, []), (58, 1, .ifCond .ge 92, [150]), (61, 2, .iload_n 2, []), (62, 1, .ifCond .ge 88, [150]), (65, 2, .iload_n 1, []), (66, 0, .iconst (-1), []), (67, 0, .ixor, []), (68, 2, .iload_n 2, []), (69, 0, .iconst (-1), []), (70, 0, .ixor, []), (71, 8, .invokestatic 75, []), (74, 2, .istore 4, []), (76, 2, .iload_n 1, []), (77, 0, .iconst (-1), []), (78, 0, .ixor, []), (79, 2, .iload_n 2, []), (80, 0, .iconst (-1), []), (81, 0, .ixor, []), (82, 9, .invokestatic 80, []), (85, 2, .istore 5, []), (87, 2, .iload 4, []), (89, 2, .iload 5, []), (91, 1, .if_icmp .eq 16, [107]), (94, 2, .aload_n 0, []), (95, 3, .getfield 32, [8, 1]), (98, 2, .iload 4, []), (100, 2, .iload 5, []), (102, 0, .iconst (-1), []), (103, 0, .ixor, []), (104, 4, .invokevirtual 83, [87, 3, 2]), (107, 2, .iload 4, []), (109, 2, .iload 5, []), (111, 1, .if_icmp .eq 36, [147]), (114, 2, .iload_n 3, []), (115, 1, .ifCond .ne 32, [147]), (118, 2, .aload_n 0, []), (119, 3, .getfield 32, [8, 1]), (122, 2, .iload 5, []), (124, 2, .aload_n 0, []), (125, 3, .getfield 32, [8, 1]), (128, 3, .getfield 86, [2, 2]), (131, 2, .iload 4, []), (133, 3, .iaload, []), (134, 2, .aload_n 0, []), (135, 3, .getfield 32, [8, 1]), (138, 3, .getfield 89, [2, 3]), (141, 2, .iload 4, []), (143, 3, .iaload, []), (144, 4, .invokevirtual 92, [80, 4, 2]), (147, 1, .goto 46, [193]), (150, 2, .iload_n 1, []), (151, 1, .ifCond .ge 9, [160]), (154, 2, .iload_n 1, []), (155, 0, .iconst (-1), []), (156, 0, .ixor, []), (157, 1, .goto 6, [163]), (160, 2, .iload_n 2, []), (161, 0, .iconst (-1), []), (162, 0, .ixor, []), (163, 2, .istore 4, []), (165, 2, .aload_n 0, []), (166, 3, .getfield 32, [8, 1]), (169, 2, .iload 4, []), (171, 2, .iload_n 1, []), (172, 1, .ifCond .ge 7, [179]), (175, 2, .iload_n 2, []), (176, 1, .goto 4, [180]), (179, 2, .iload_n 1, []), (180, 4, .invokevirtual 83, [87, 3, 2]), (183, 2, .iload_n 3, []), (184, 1, .ifCond .ne 9, [193]), (187, 2, .aload_n 0, []), (188, 2, .iload 4, []), (190, 4, .invokevirtual 96, [88, 2, 8]), (193, 0, .iconst 1, []), (194, 5, .ireturn, [])]
/-- GoalDesk$Variables bind (II)V -/
def gt_t87 : List (Nat × ai_I) := [(0, 2, .aload_n 0, []), (1, 3, .getfield 31, [2, 7]), (4, 0, .sipush 500, []), (7, 1, .if_icmp .ge 30, [37]), (10, 2, .aload_n 0, []), (11, 3, .getfield 9, [2, 1]), (14, 2, .iload_n 1, []), (15, 2, .iload_n 2, []), (16, 3, .iastore, []), (17, 2, .aload_n 0, []), (18, 3, .getfield 28, [2, 6]), (21, 2, .aload_n 0, []), (22, 3, .getfield 31, [2, 7]), (25, 2, .iload_n 1, []), (26, 3, .iastore, []), (27, 2, .aload_n 0, []), (28, 0, .dup, []), (29, 3, .getfield 31, [2, 7]), (32, 0, .iconst 1, []), (33, 0, .iadd, []), (34, 3, .putfield 31, [2, 7]), (37, 5, .return_, [])]
/-- GoalDesk$Pairs wake (I)V -/
def gt_t88 : List (Nat × ai_I) := [(0, 2, .aload_n 0, []), (1, 3, .getfield 32, [8, 1]), (4, 3, .getfield 86, [2, 2]), (7, 2, .iload_n 1, []), (8, 3, .iaload, []), (9, 2, .istore_n 2, []), (10, 2, .iload_n 2, []), (11, 0, .iconst (-1), []), (12, 1, .if_icmp .eq 54, [66]), (15, 2, .aload_n 0, []), (16, 3, .getfield 25, [8, 7]), (19, 0, .sipush 500, []), (22, 1, .if_icmp .ge 44, [66]), (25, 2, .aload_n 0, []), (26, 3, .getfield 22, [8, 6]), (29, 2, .aload_n 0, []), (30, 3, .getfield 25, [8, 7]), (33, 2, .aload_n 0, []), (34, 3, .getfield 32, [8, 1]), (37, 3, .getfield 100, [2, 8]), (40, 2, .iload_n 2, []), (41, 3, .iaload, []), (42, 3, .iastore, []), (43, 2, .aload_n 0, []), (44, 0, .dup, []), (45, 3, .getfield 25, [8, 7]), (48, 0, .iconst 1, []), (49, 0, .iadd, []), (50, 3, .putfield 25, [8, 7]), (53, 2, .aload_n 0, []), (54, 3, .getfield 32, [8, 1]), (57, 3, .getfield 103, [2, 9]), (60, 2, .iload_n 2, []), (61, 3, .iaload, []), (62, 2, .istore_n 2, []), (63, 1, .goto (-53), [10]), (66, 5, .return_, [])]
/-- GoalDesk$Aparts hold (I)Z -/
def gt_t89 : List (Nat × ai_I) := [(0, 0, .iconst 1, []), (1, 2, .istore_n 2, []), (2, 2, .iload_n 1, []), (3, 2, .istore_n 3, []), (4, 2, .iload_n 3, []), (5, 2, .aload_n 0, []), (6, 3, .getfield 22, [9, 5]), (9, 1, .if_icmp .ge 110, [119]), (12, 2, .iload_n 2, []), (13, 1, .ifCond .eq 106, [119]), (16, 2, .aload_n 0, []), (17, 3, .getfield 18, [9, 4]), (20, 2, .iload_n 3, []), (21, 3, .baload, []), (22, 1, .ifCond .eq 91, [113]), (25, 2, .aload_n 0, []), (26, 3, .getfield 32, [9, 0]), (29, 3, .getfield 40, [2, 7]), (32, 2, .istore 4, []), (34, 2, .aload_n 0, []), (35, 3, .getfield 36, [9, 1]), (38, 0, .iconst 0, []), (39, 3, .putfield 45, [8, 5]), (42, 2, .aload_n 0, []), (43, 3, .getfield 36, [9, 1]), (46, 2, .aload_n 0, []), (47, 3, .getfield 9, [9, 2]), (50, 2, .iload_n 3, []), (51, 3, .iaload, []), (52, 2, .aload_n 0, []), (53, 3, .getfield 15, [9, 3]), (56, 2, .iload_n 3, []), (57, 3, .iaload, []), (58, 4, .invokevirtual 50, [73, 3, 8]), (61, 2, .aload_n 0, []), (62, 3, .getfield 36, [9, 1]), (65, 0, .iconst 1, []), (66, 4, .invokevirtual 54, [85, 2, 8]), (69, 2, .istore 5, []), (71, 2, .iload 5, []), (73, 1, .ifCond .eq 15, [88]), (76, 2, .aload_n 0, []), (77, 3, .getfield 32, [9, 0]), (80, 3, .getfield 40, [2, 7]), (83, 2, .iload 4, []), (85, 1, .if_icmp .le 7, [92]), (88, 0, .iconst 1, []), (89, 1, .goto 4, [93]), (92, 0, .iconst 0, []), (93, 2, .istore_n 2, []), (94, 2, .aload_n 0, []), (95, 3, .getfield 32, [9, 0]), (98, 2, .iload 4, []), (100, 4, .invokevirtual 58, [82, 2, 2]), (103, 2, .iload 5, []), (105, 1, .ifCond .ne 8, [113]), (108, 2, .aload_n 0, []), (109, 2, .iload_n 3, []), (110, 4, .invokevirtual 62, [90, 2, 9]), (113, 2, .iinc 3 1, []), (116, 1, .goto (-112), [4]), (119, 2, .iload_n 2, []), (120, 5, .ireturn, [])]
/-- GoalDesk$Aparts settle (I)V -/
def gt_t90 : List (Nat × ai_I) := [(0, 2, .aload_n 0, []), (1, 3, .getfield 29, [9, 7]), (4, 0, .sipush 500, []), (7, 1, .if_icmp .ge 30, [37]), (10, 2, .aload_n 0, []), (11, 3, .getfield 18, [9, 4]), (14, 2, .iload_n 1, []), (15, 0, .iconst 0, []), (16, 3, .bastore, []), (17, 2, .aload_n 0, []), (18, 3, .getfield 26, [9, 6]), (21, 2, .aload_n 0, []), (22, 3, .getfield 29, [9, 7]), (25, 2, .iload_n 1, []), (26, 3, .iastore, []), (27, 2, .aload_n 0, []), (28, 0, .dup, []), (29, 3, .getfield 29, [9, 7]), (32, 0, .iconst 1, []), (33, 0, .iadd, []), (34, 3, .putfield 29, [9, 7]), (37, 5, .return_, [])]
/-- GoalDesk$Search putInFront ()V -/
def gt_t91 : List (Nat × ai_I) := [(0, 2, .aload_n 0, []), (1, 3, .getfield 104, [5, 13]), (4, 1, .ifnull 19, [23]), (7, 2, .aload_n 0, []), (8, 2, .aload_n 0, []), (9, 3, .getfield 104, [5, 13]), (12, 2, .aload_n 0, []), (13, 3, .getfield 34, [5, 14]), (16, 2, .aload_n 0, []), (17, 3, .getfield 37, [5, 15]), (20, 4, .invokevirtual 98, [43, 4, 5]), (23, 2, .aload_n 0, []), (24, 3, .getfield 60, [5, 3]), (27, 3, .getfield 270, [8, 7]), (30, 0, .iconst 1, []), (31, 0, .isub, []), (32, 2, .istore_n 1, []), (33, 2, .iload_n 1, []), (34, 1, .ifCond .lt 34, [68]), (37, 2, .aload_n 0, []), (38, 0, .bipush 40, []), (40, 2, .aload_n 0, []), (41, 3, .getfield 60, [5, 3]), (44, 3, .getfield 273, [8, 6]), (47, 2, .iload_n 1, []), (48, 3, .iaload, []), (49, 2, .aload_n 0, []), (50, 3, .getfield 60, [5, 3]), (53, 3, .getfield 273, [8, 6]), (56, 2, .iload_n 1, []), (57, 3, .iaload, []), (58, 0, .iconst 0, []), (59, 4, .invokevirtual 201, [45, 5, 5]), (62, 2, .iinc 1 (-1), []), (65, 1, .goto (-32), [33]), (68, 5, .return_, [])]
/-- GoalDeskLaw next (LGoalDesk;[J)I -/
def gt_t92 : List (Nat × ai_I) := [(0, 2, .aload_n 1, []), (1, 0, .iconst 0, []), (2, 2, .aload_n 0, []), (3, 4, .invokevirtual 32, [93, 1, 0]), (6, 0, .i2l, []), (7, 3, .lastore, []), (8, 1, .goto 12, [20]), (11, 2, .astore_n 2, []), (12, 0, .iconst 1, []), (13, 5, .ireturn, []), (14, 2, .astore_n 2, []), (15, 0, .iconst 2, []), (16, 5, .ireturn, []), (17, 2, .astore_n 2, []), (18, 0, .iconst 3, []), (19, 5, .ireturn, []), (20, 0, .iconst 0, []), (21, 5, .ireturn, [])]
/-- GoalDesk next ()I -/
def gt_t93 : List (Nat × ai_I) := [(0, 2, .aload_n 0, []), (1, 3, .getfield 29, [0, 6]), (4, 1, .ifCond .ne 11, [15]), (7, 6, .new 95, [2]), (15, 2, .aload_n 0, []), (16, 0, .iconst 0, []), (17, 3, .putfield 29, [0, 6]), (20, 2, .aload_n 0, []), (21, 2, .aload_n 0, []), (22, 3, .getfield 60, [0, 8]), (25, 0, .iconst 0, []), (26, 4, .invokevirtual 91, [60, 2, 5]), (29, 3, .putfield 29, [0, 6]), (32, 2, .aload_n 0, []), (33, 3, .getfield 29, [0, 6]), (36, 1, .ifCond .ne 11, [47]), (39, 6, .new 95, [2]), (47, 2, .aload_n 0, []), (48, 3, .getfield 60, [0, 8]), (51, 3, .getfield 98, [5, 2]), (54, 3, .getfield 102, [7, 0]), (57, 5, .ireturn, [])]
/-- GoalDeskLaw letter (LGoalDesk;II[J)I -/
def gt_t94 : List (Nat × ai_I) := [(0, 2, .aload_n 3, []), (1, 0, .iconst 0, []), (2, 2, .aload_n 0, []), (3, 2, .iload_n 1, []), (4, 2, .iload_n 2, []), (5, 4, .invokevirtual 35, [95, 3, 0]), (8, 0, .i2l, []), (9, 3, .lastore, []), (10, 1, .goto 11, [21]), (13, 2, .astore 4, []), (15, 0, .iconst 1, []), (16, 5, .ireturn, []), (17, 2, .astore 4, []), (19, 0, .iconst 2, []), (20, 5, .ireturn, []), (21, 0, .iconst 0, []), (22, 5, .ireturn, [])]
/-- GoalDesk letter (II)I -/
def gt_t95 : List (Nat × ai_I) := [(0, 2, .iload_n 1, []), (1, 1, .ifCond .lt 9, [10]), (4, 2, .iload_n 1, []), (5, 0, .bipush 26, []), (7, 1, .if_icmp .lt 11, [18]), (10, 6, .new 71, [0]), (18, 2, .aload_n 0, []), (19, 3, .getfield 29, [0, 6]), (22, 1, .ifCond .eq 16, [38]), (25, 2, .aload_n 0, []), (26, 3, .getfield 44, [0, 5]), (29, 3, .getfield 107, [3, 5]), (32, 2, .iload_n 1, []), (33, 3, .iaload, []), (34, 0, .iconst (-1), []), (35, 1, .if_icmp .ne 11, [46]), (38, 6, .new 95, [2]), (46, 2, .aload_n 0, []), (47, 3, .getfield 67, [0, 9]), (50, 2, .aload_n 0, []), (51, 3, .getfield 44, [0, 5]), (54, 3, .getfield 107, [3, 5]), (57, 2, .iload_n 1, []), (58, 3, .iaload, []), (59, 4, .invokevirtual 111, [96, 2, 10]), (62, 2, .istore_n 3, []), (63, 2, .iload_n 2, []), (64, 0, .iconst (-1), []), (65, 1, .if_icmp .ne 5, [70]), (68, 2, .iload_n 3, []), (69, 5, .ireturn, []), (70, 2, .iload_n 2, []), (71, 1, .ifCond .lt 8, [79]), (74, 2, .iload_n 2, []), (75, 2, .iload_n 3, []), (76, 1, .if_icmp .lt 11, [87]), (79, 6, .new 95, [2]), (87, 2, .aload_n 0, []), (88, 3, .getfield 67, [0, 9]), (91, 3, .getfield 115, [10, 2]), (94, 2, .iload_n 2, []), (95, 3, .caload, []), (96, 5, .ireturn, [])]
/-- GoalDesk$Writer write (I)I -/
def gt_t96 : List (Nat × ai_I) := [(0, 2, .aload_n 0, []), (1, 0, .iconst 0, []), (2, 3, .putfield 15, [10, 3]), (5, 2, .aload_n 0, []), (6, 2, .iload_n 1, []), (7, 0, .iconst (-1), []), (8, 0, .ixor, []), (9, 0, .iconst 0, []), (10, 4, .invokevirtual 27, [97, 3, 10]), (13, 2, .aload_n 0, []), (14, 3, .getfield 15, [10, 3]), (17, 5, .ireturn, [])]
/-- GoalDesk$Writer writeTerm (II)V -/
def gt_t97 : List (Nat × ai_I) := [(0, 2, .iload_n 2, []), (1, 0, .bipush 40, []), (3, 1, .if_icmp .ge 12, [15]), (6, 2, .aload_n 0, []), (7, 3, .getfield 15, [10, 3]), (10, 0, .bipush 80, []), (12, 1, .if_icmp .lt 4, [16]), (15, 5, .return_, []), (16, 2, .aload_n 0, []), (17, 3, .getfield 23, [10, 1]), (20, 2, .iload_n 1, []), (21, 4, .invokevirtual 31, [75, 2, 2]), (24, 2, .istore_n 3, []), (25, 2, .iload_n 3, []), (26, 1, .ifCond .ge 10, [36]), (29, 2, .aload_n 0, []), (30, 0, .bipush 95, []), (32, 4, .invokevirtual 37, [98, 2, 10]), (35, 5, .return_, []), (36, 2, .aload_n 0, []), (37, 2, .aload_n 0, []), (38, 3, .getfield 19, [10, 0]), (41, 2, .iload_n 3, []), (42, 4, .invokevirtual 41, [66, 2, 1]), (45, 4, .invokevirtual 37, [98, 2, 10]), (48, 2, .aload_n 0, []), (49, 3, .getfield 19, [10, 0]), (52, 2, .iload_n 3, []), (53, 4, .invokevirtual 47, [67, 2, 1]), (56, 2, .istore 4, []), (58, 0, .iconst 0, []), (59, 2, .istore 5, []), (61, 2, .iload 5, []), (63, 2, .iload 4, []), (65, 1, .if_icmp .ge 42, [107]), (68, 2, .aload_n 0, []), (69, 2, .iload 5, []), (71, 1, .ifCond .ne 8, [79]), (74, 0, .bipush 40, []), (76, 1, .goto 5, [81]), (79, 0, .bipush 44, []), (81, 4, .invokevirtual 37, [98, 2, 10]), (84, 2, .aload_n 0, []), (85, 2, .aload_n 0, []), (86, 3, .getfield 19, [10, 0]), (89, 2, .iload_n 3, []), (90, 2, .iload 5, []), (92, 4, .invokevirtual 50, [72, 3, 1]), (95, 2, .iload_n 2, []), (96, 0, .iconst 1, []), (97, 0, .iadd, []), (98, 4, .invokevirtual 27, [97, 3, 10]), (101, 2, .iinc 5 1, []), (104, 1, .goto (-43), [61]), (107, 2, .iload 4, []), (109, 1, .ifCond .le 9, [118]), (112, 2, .aload_n 0, []), (113, 0, .bipush 41, []), (115, 4, .invokevirtual 37, [98, 2, 10]), (118, 5, .return_, [])]
/-- GoalDesk$Writer put (C)V -/
def gt_t98 : List (Nat × ai_I) := [(0, 2, .aload_n 0, []), (1, 3, .getfield 15, [10, 3]), (4, 0, .bipush 80, []), (6, 1, .if_icmp .ge 23, [29]), (9, 2, .aload_n 0, []), (10, 3, .getfield 9, [10, 2]), (13, 2, .aload_n 0, []), (14, 3, .getfield 15, [10, 3]), (17, 2, .iload_n 1, []), (18, 3, .castore, []), (19, 2, .aload_n 0, []), (20, 0, .dup, []), (21, 3, .getfield 15, [10, 3]), (24, 0, .iconst 1, []), (25, 0, .iadd, []), (26, 3, .putfield 15, [10, 3]), (29, 5, .return_, [])]
/-- GoalDeskLaw sleeping (LGoalDesk;I[J)I -/
def gt_t99 : List (Nat × ai_I) := [(0, 2, .aload_n 2, []), (1, 0, .iconst 0, []), (2, 2, .aload_n 0, []), (3, 2, .iload_n 1, []), (4, 4, .invokevirtual 39, [100, 2, 0]), (7, 0, .i2l, []), (8, 3, .lastore, []), (9, 1, .goto 6, [15]), (12, 2, .astore_n 3, []), (13, 0, .iconst 1, []), (14, 5, .ireturn, []), (15, 0, .iconst 0, []), (16, 5, .ireturn, [])]
/-- GoalDesk sleeping (I)I -/
def gt_t100 : List (Nat × ai_I) := [(0, 2, .iload_n 1, []), (1, 1, .ifCond .lt 9, [10]), (4, 2, .iload_n 1, []), (5, 0, .bipush 26, []), (7, 1, .if_icmp .lt 11, [18]), (10, 6, .new 71, [0]), (18, 2, .aload_n 0, []), (19, 3, .getfield 29, [0, 6]), (22, 1, .ifCond .eq 16, [38]), (25, 2, .aload_n 0, []), (26, 3, .getfield 44, [0, 5]), (29, 3, .getfield 107, [3, 5]), (32, 2, .iload_n 1, []), (33, 3, .iaload, []), (34, 0, .iconst (-1), []), (35, 1, .if_icmp .ne 5, [40]), (38, 0, .iconst (-1), []), (39, 5, .ireturn, []), (40, 2, .aload_n 0, []), (41, 3, .getfield 60, [0, 8]), (44, 3, .getfield 118, [5, 1]), (47, 2, .aload_n 0, []), (48, 3, .getfield 44, [0, 5]), (51, 3, .getfield 107, [3, 5]), (54, 2, .iload_n 1, []), (55, 3, .iaload, []), (56, 4, .invokevirtual 122, [101, 2, 2]), (59, 5, .ireturn, [])]
/-- GoalDesk$Variables asleepOn (I)I -/
def gt_t101 : List (Nat × ai_I) := [(0, 2, .aload_n 0, []), (1, 2, .iload_n 1, []), (2, 0, .iconst (-1), []), (3, 0, .ixor, []), (4, 4, .invokevirtual 81, [75, 2, 2]), (7, 2, .istore_n 2, []), (8, 0, .iconst 0, []), (9, 2, .istore_n 3, []), (10, 2, .iload_n 2, []), (11, 1, .ifCond .ge 41, [52]), (14, 2, .aload_n 0, []), (15, 3, .getfield 15, [2, 2]), (18, 2, .iload_n 2, []), (19, 0, .iconst (-1), []), (20, 0, .ixor, []), (21, 3, .iaload, []), (22, 2, .istore 4, []), (24, 2, .iload 4, []), (26, 0, .iconst (-1), []), (27, 1, .if_icmp .eq 25, [52]), (30, 2, .iload_n 3, []), (31, 0, .sipush 500, []), (34, 1, .if_icmp .ge 18, [52]), (37, 2, .iinc 3 1, []), (40, 2, .aload_n 0, []), (41, 3, .getfield 37, [2, 9]), (44, 2, .iload 4, []), (46, 3, .iaload, []), (47, 2, .istore 4, []), (49, 1, .goto (-25), [24]), (52, 2, .iload_n 3, []), (53, 5, .ireturn, [])]
/-- GoalDeskModel <init> ()V -/
def gt_t102 : List (Nat × ai_I) := [(0, 2, .aload_n 0, []), (1, 7, .invokespecial 1, []), (4, 2, .aload_n 0, []), (5, 0, .bipush 48, []), (7, 3, .newarray .int, [0, 53]), (9, 3, .putfield 7, [13, 0]), (12, 2, .aload_n 0, []), (13, 0, .sipush 624, []), (16, 3, .newarray .int, [0, 54]), (18, 3, .putfield 13, [13, 1]), (21, 2, .aload_n 0, []), (22, 0, .bipush 12, []), (24, 3, .newarray .int, [0, 55]), (26, 3, .putfield 16, [13, 2]), (29, 2, .aload_n 0, []), (30, 0, .bipush 8, []), (32, 3, .newarray .int, [0, 56]), (34, 3, .putfield 19, [13, 3]), (37, 2, .aload_n 0, []), (38, 0, .bipush 8, []), (40, 3, .newarray .int, [0, 57]), (42, 3, .putfield 22, [13, 4]), (45, 2, .aload_n 0, []), (46, 0, .bipush 26, []), (48, 3, .newarray .int, [0, 58]), (50, 3, .putfield 25, [13, 5]), (53, 2, .aload_n 0, []), (54, 0, .bipush 26, []), (56, 3, .newarray .int, [0, 59]), (58, 3, .putfield 28, [13, 6]), (61, 2, .aload_n 0, []), (62, 0, .iconst (-1), []), (63, 3, .putfield 31, [13, 9]), (66, 2, .aload_n 0, []), (67, 0, .sipush 24000, []), (70, 3, .newarray .int, [0, 60]), (72, 3, .putfield 35, [13, 14]), (75, 2, .aload_n 0, []), (76, 0, .sipush 24000, []), (79, 3, .newarray .int, [0, 61]), (81, 3, .putfield 38, [13, 15]), (84, 2, .aload_n 0, []), (85, 3, .ldc 41, [72000]), (87, 3, .newarray .int, [0, 62]), (89, 3, .putfield 42, [13, 16]), (92, 2, .aload_n 0, []), (93, 0, .sipush 13000, []), (96, 3, .newarray .int, [0, 63]), (98, 3, .putfield 45, [13, 17]), (101, 2, .aload_n 0, []), (102, 0, .sipush 13000, []), (105, 3, .newarray .int, [0, 64]), (107, 3, .putfield 48, [13, 18]), (110, 2, .aload_n 0, []), (111, 0, .sipush 13000, []), (114, 3, .newarray .int, [0, 65]), (116, 3, .putfield 51, [13, 19]), (119, 2, .aload_n 0, []), (120, 0, .sipush 14000, []), (123, 3, .newarray .int, [0, 66]), (125, 3, .putfield 54, [13, 20]), (128, 2, .aload_n 0, []), (129, 0, .sipush 14000, []), (132, 3, .newarray .int, [0, 67]), (134, 3, .putfield 57, [13, 21]), (137, 2, .aload_n 0, []), (138, 0, .sipush 14000, []), (141, 3, .newarray .int, [0, 68]), (143, 3, .putfield 60, [13, 22]), (146, 2, .aload_n 0, []), (147, 0, .sipush 14000, []), (150, 3, .newarray .int, [0, 69]), (152, 3, .putfield 63, [13, 23]), (155, 2, .aload_n 0, []), (156, 0, .sipush 14000, []), (159, 3, .newarray .int, [0, 70]), (161, 3, .putfield 66, [13, 24]), (164, 2, .aload_n 0, []), (165, 0, .sipush 6000, []), (168, 3, .newarray .int, [0, 71]), (170, 3, .putfield 69, [13, 41]), (173, 2, .aload_n 0, []), (174, 0, .sipush 6000, []), (177, 3, .newarray .int, [0, 72]), (179, 3, .putfield 72, [13, 42]), (182, 2, .aload_n 0, []), (183, 0, .sipush 1200, []), (186, 3, .newarray .int, [0, 73]), (188, 3, .putfield 75, [13, 43]), (191, 2, .aload_n 0, []), (192, 0, .sipush 1200, []), (195, 3, .newarray .int, [0, 74]), (197, 3, .putfield 78, [13, 44]), (200, 2, .aload_n 0, []), (201, 0, .sipush 600, []), (204, 3, .newarray .int, [0, 75]), (206, 3, .putfield 81, [13, 45]), (209, 2, .aload_n 0, []), (210, 0, .sipush 600, []), (213, 3, .newarray .int, [0, 76]), (215, 3, .putfield 84, [13, 46]), (218, 2, .aload_n 0, []), (219, 0, .sipush 600, []), (222, 3, .newarray .int, [0, 77]), (224, 3, .putfield 87, [13, 47]), (227, 2, .aload_n 0, []), (228, 0, .sipush 2200, []), (231, 3, .newarray .int, [0, 78]), (233, 3, .putfield 90, [13, 48]), (236, 2, .aload_n 0, []), (237, 0, .sipush 2200, []), (240, 3, .newarray .int, [0, 79]), (242, 3, .putfield 93, [13, 49]), (245, 2, .aload_n 0, []), (246, 0, .sipush 600, []), (249, 3, .newarray .int, [0, 80]), (251, 3, .putfield 96, [13, 50]), (254, 2, .aload_n 0, []), (255, 0, .sipush 1200, []), (258, 3, .newarray .int, [0, 81]), (260, 3, .putfield 99, [13, 51]), (263, 2, .aload_n 0, []), (264, 0, .sipush 600, []), (267, 3, .newarray .int, [0, 82]), (269, 3, .putfield 102, [13, 52]), (272, 2, .aload_n 0, []), (273, 0, .sipush 600, []), (276, 3, .newarray .int, [0, 83]), (278, 3, .putfield 105, [13, 53]), (281, 2, .aload_n 0, []), (282, 0, .sipush 600, []), (285, 3, .newarray .int, [0, 84]), (287, 3, .putfield 108, [13, 54]), (290, 2, .aload_n 0, []), (291, 0, .sipush 600, []), (294, 3, .newarray .int, [0, 85]), (296, 3, .putfield 111, [13, 55]), (299, 2, .aload_n 0, []), (300, 0, .sipush 600, []), (303, 3, .newarray .int, [0, 86]), (305, 3, .putfield 114, [13, 56]), (308, 2, .aload_n 0, []), (309, 0, .sipush 600, []), (312, 3, .newarray .int, [0, 87]), (314, 3, .putfield 117, [13, 57]), (317, 2, .aload_n 0, []), (318, 0, .sipush 600, []), (321, 3, .newarray .int, [0, 88]), (323, 3, .putfield 120, [13, 58]), (326, 2, .aload_n 0, []), (327, 0, .sipush 600, []), (330, 3, .newarray .int, [0, 89]), (332, 3, .putfield 123, [13, 59]), (335, 2, .aload_n 0, []), (336, 0, .sipush 600, []), (339, 3, .newarray .int, [0, 90]), (341, 3, .putfield 126, [13, 60]), (344, 2, .aload_n 0, []), (345, 0, .bipush 80, []), (347, 3, .newarray .int, [0, 91]), (349, 3, .putfield 129, [13, 61]), (352, 2, .aload_n 0, []), (353, 0, .sipush 800, []), (356, 3, .newarray .int, [0, 92]), (358, 3, .putfield 132, [13, 62]), (361, 5, .return_, [])]
/-- GoalDeskModel thrown ()I -/
def gt_t103 : List (Nat × ai_I) := [(0, 2, .aload_n 0, []), (1, 3, .getfield 135, [13, 11]), (4, 5, .ireturn, [])]
/-- GoalDeskModel type (J)I -/
def gt_t104 : List (Nat × ai_I) := [(0, 0, .iconst 0, []), (1, 2, .istore_n 3, []), (2, 0, .iconst 1, []), (3, 2, .istore 4, []), (5, 0, .bipush 56, []), (7, 2, .istore 5, []), (9, 2, .iload 5, []), (11, 1, .ifCond .lt 48, [59]), (14, 2, .lload_n 1, []), (15, 2, .iload 5, []), (17, 0, .lushr, []), (18, 0, .l2i, []), (19, 0, .sipush 255, []), (22, 0, .iand, []), (23, 2, .istore 6, []), (25, 2, .iload 6, []), (27, 1, .ifCond .eq 6, [33]), (30, 2, .iinc 3 1, []), (33, 2, .iload 6, []), (35, 1, .ifCond .eq 18, [53]), (38, 2, .iload 6, []), (40, 0, .bipush 33, []), (42, 0, .bipush 126, []), (44, 4, .invokestatic 138, [105, 3, 0]), (47, 1, .ifCond .ne 6, [53]), (50, 0, .iconst 0, []), (51, 2, .istore 4, []), (53, 2, .iinc 5 (-8), []), (56, 1, .goto (-47), [9]), (59, 2, .aload_n 0, []), (60, 2, .iload 4, []), (62, 4, .invokevirtual 142, [106, 2, 13]), (65, 1, .ifCond .eq 5, [70]), (68, 0, .iconst 0, []), (69, 5, .ireturn, []), (70, 2, .aload_n 0, []), (71, 3, .getfield 146, [13, 7]), (74, 2, .iload_n 3, []), (75, 0, .iadd, []), (76, 0, .bipush 48, []), (78, 1, .if_icmp .le 9, [87]), (81, 2, .aload_n 0, []), (82, 0, .iconst 2, []), (83, 4, .invokevirtual 149, [107, 2, 13]), (86, 5, .ireturn, []), (87, 0, .bipush 56, []), (89, 2, .istore 5, []), (91, 2, .iload 5, []), (93, 1, .ifCond .lt 49, [142]), (96, 2, .lload_n 1, []), (97, 2, .iload 5, []), (99, 0, .lushr, []), (100, 0, .l2i, []), (101, 0, .sipush 255, []), (104, 0, .iand, []), (105, 2, .istore 6, []), (107, 2, .iload 6, []), (109, 1, .ifCond .ne 6, [115]), (112, 1, .goto 24, [136]), (115, 2, .aload_n 0, []), (116, 3, .getfield 7, [13, 0]), (119, 2, .aload_n 0, []), (120, 3, .getfield 146, [13, 7]), (123, 2, .iload 6, []), (125, 3, .iastore, []), (126, 2, .aload_n 0, []), (127, 0, .dup, []), (128, 3, .getfield 146, [13, 7]), (131, 0, .iconst 1, []), (132, 0, .iadd, []), (133, 3, .putfield 146, [13, 7]), (136, 2, .iinc 5 (-8), []), (139, 1, .goto (-48), [91]), (142, 2, .aload_n 0, []), (143, 3, .getfield 146, [13, 7]), (146, 5, .ireturn, [])]
/-- GoalDeskModel in (III)Z -/
def gt_t105 : List (Nat × ai_I) := [(0, 2, .iload_n 0, []), (1, 2, .iload_n 1, []), (2, 1, .if_icmp .lt 12, [14]), (5, 2, .iload_n 0, []), (6, 2, .iload_n 2, []), (7, 1, .if_icmp .gt 7, [14]), (10, 0, .iconst 1, []), (11, 1, .goto 4, [15]), (14, 0, .iconst 0, []), (15, 5, .ireturn, [])]
/-- GoalDeskModel bad (Z)Z -/
def gt_t106 : List (Nat × ai_I) := [(0, 2, .aload_n 0, []), (1, 2, .iload_n 1, []), (2, 1, .ifCond .eq 7, [9]), (5, 0, .iconst 0, []), (6, 1, .goto 4, [10]), (9, 0, .iconst 1, []), (10, 3, .putfield 135, [13, 11]), (13, 2, .iload_n 1, []), (14, 1, .ifCond .ne 7, [21]), (17, 0, .iconst 1, []), (18, 1, .goto 4, [22]), (21, 0, .iconst 0, []), (22, 5, .ireturn, [])]
/-- GoalDeskModel fail (I)I -/
def gt_t107 : List (Nat × ai_I) := [(0, 2, .aload_n 0, []), (1, 2, .iload_n 1, []), (2, 3, .putfield 135, [13, 11]), (5, 0, .iconst 0, []), (6, 5, .ireturn, [])]
/-- GoalDeskModel add ()I -/
def gt_t108 : List (Nat × ai_I) := [(0, 2, .aload_n 0, []), (1, 3, .getfield 171, [13, 8]), (4, 0, .bipush 12, []), (6, 1, .if_icmp .ne 14, [20]), (9, 2, .aload_n 0, []), (10, 0, .iconst 0, []), (11, 3, .putfield 146, [13, 7]), (14, 2, .aload_n 0, []), (15, 0, .iconst 2, []), (16, 4, .invokevirtual 149, [107, 2, 13]), (19, 5, .ireturn, []), (20, 2, .aload_n 0, []), (21, 0, .iconst 0, []), (22, 3, .putfield 153, [13, 10]), (25, 2, .aload_n 0, []), (26, 4, .invokevirtual 174, [109, 1, 13]), (29, 2, .istore_n 1, []), (30, 2, .iload_n 1, []), (31, 1, .ifCond .ne 11, [42]), (34, 2, .aload_n 0, []), (35, 2, .aload_n 0, []), (36, 3, .getfield 153, [13, 10]), (39, 3, .putfield 31, [13, 9]), (42, 0, .iconst 0, []), (43, 2, .istore_n 2, []), (44, 2, .iload_n 2, []), (45, 2, .aload_n 0, []), (46, 3, .getfield 146, [13, 7]), (49, 1, .if_icmp .ge 29, [78]), (52, 2, .aload_n 0, []), (53, 3, .getfield 13, [13, 1]), (56, 2, .aload_n 0, []), (57, 3, .getfield 171, [13, 8]), (60, 0, .bipush 48, []), (62, 0, .imul, []), (63, 2, .iload_n 2, []), (64, 0, .iadd, []), (65, 2, .aload_n 0, []), (66, 3, .getfield 7, [13, 0]), (69, 2, .iload_n 2, []), (70, 3, .iaload, []), (71, 3, .iastore, []), (72, 2, .iinc 2 1, []), (75, 1, .goto (-31), [44]), (78, 2, .aload_n 0, []), (79, 3, .getfield 16, [13, 2]), (82, 2, .aload_n 0, []), (83, 3, .getfield 171, [13, 8]), (86, 2, .aload_n 0, []), (87, 3, .getfield 146, [13, 7]), (90, 3, .iastore, []), (91, 2, .aload_n 0, []), (92, 0, .iconst 0, []), (93, 3, .putfield 146, [13, 7]), (96, 2, .aload_n 0, []), (97, 2, .iload_n 1, []), (98, 4, .invokevirtual 142, [106, 2, 13]), (101, 1, .ifCond .eq 5, [106]), (104, 0, .iconst 0, []), (105, 5, .ireturn, []), (106, 2, .aload_n 0, []), (107, 0, .iconst 0, []), (108, 3, .putfield 177, [13, 38]), (111, 2, .aload_n 0, []), (112, 0, .dup, []), (113, 3, .getfield 171, [13, 8]), (116, 0, .iconst 1, []), (117, 0, .iadd, []), (118, 3, .putfield 171, [13, 8]), (121, 2, .aload_n 0, []), (122, 3, .getfield 171, [13, 8]), (125, 5, .ireturn, [])]
/-- GoalDeskModel readClause ()Z -/
def gt_t109 : List (Nat × ai_I) := [(0, 2, .aload_n 0, []), (1, 0, .iconst 1, []), (2, 4, .invokevirtual 164, [110, 2, 13]), (5, 1, .ifCond .ne 5, [10]), (8, 0, .iconst 0, []), (9, 5, .ireturn, []), (10, 2, .aload_n 0, []), (11, 0, .bipush 58, []), (13, 4, .invokevirtual 160, [112, 2, 13]), (16, 1, .ifCond .eq 10, [26]), (19, 2, .aload_n 0, []), (20, 4, .invokevirtual 167, [113, 1, 13]), (23, 1, .goto 19, [42]), (26, 2, .aload_n 0, []), (27, 3, .getfield 153, [13, 10]), (30, 2, .aload_n 0, []), (31, 3, .getfield 146, [13, 7]), (34, 1, .if_icmp .ne 7, [41]), (37, 0, .iconst 1, []), (38, 1, .goto 4, [42]), (41, 0, .iconst 0, []), (42, 5, .ireturn, [])]
/-- GoalDeskModel readTerm (Z)Z -/
def gt_t110 : List (Nat × ai_I) := [(0, 0, .iconst 1, []), (1, 2, .istore_n 2, []), (2, 0, .iconst 1, []), (3, 2, .istore_n 3, []), (4, 2, .iload_n 2, []), (5, 1, .ifCond .le 194, [199]), (8, 2, .iload_n 3, []), (9, 1, .ifCond .eq 119, [128]), (12, 2, .aload_n 0, []), (13, 4, .invokevirtual 156, [111, 1, 13]), (16, 2, .istore 4, []), (18, 2, .iload 4, []), (20, 0, .bipush 97, []), (22, 0, .bipush 122, []), (24, 4, .invokestatic 138, [105, 3, 0]), (27, 2, .istore 5, []), (29, 2, .iload 5, []), (31, 1, .ifCond .ne 38, [69]), (34, 2, .iload_n 1, []), (35, 1, .ifCond .eq 8, [43]), (38, 2, .iload_n 2, []), (39, 0, .iconst 1, []), (40, 1, .if_icmp .eq 27, [67]), (43, 2, .iload 4, []), (45, 0, .bipush 65, []), (47, 0, .bipush 90, []), (49, 4, .invokestatic 138, [105, 3, 0]), (52, 1, .ifCond .ne 17, [69]), (55, 2, .iload 4, []), (57, 0, .bipush 48, []), (59, 0, .bipush 57, []), (61, 4, .invokestatic 138, [105, 3, 0]), (64, 1, .ifCond .ne 5, [69]), (67, 0, .iconst 0, []), (68, 5, .ireturn, []), (69, 2, .aload_n 0, []), (70, 0, .dup, []), (71, 3, .getfield 153, [13, 10]), (74, 0, .iconst 1, []), (75, 0, .iadd, []), (76, 3, .putfield 153, [13, 10]), (79, 0, .iconst 0, []), (80, 2, .istore_n 3, []), (81, 2, .iload 5, []), (83, 1, .ifCond .eq 42, [125]), (86, 2, .aload_n 0, []), (87, 4, .invokevirtual 156, [111, 1, 13]), (90, 0, .bipush 40, []), (92, 1, .if_icmp .ne 33, [125]), (95, 2, .iload_n 2, []), (96, 0, .bipush 6, []), (98, 1, .if_icmp .ne 5, [103]), (101, 0, .iconst 0, []), (102, 5, .ireturn, []), (103, 2, .aload_n 0, []), (104, 0, .dup, []), (105, 3, .getfield 153, [13, 10]), (108, 0, .iconst 1, []), (109, 0, .iadd, []), (110, 3, .putfield 153, [13, 10]), (113, 2, .iinc 2 1, []), (116, 2, .aload_n 0, []), (117, 3, .getfield 22, [13, 4]), (120, 2, .iload_n 2, []), (121, 0, .iconst 1, []), (122, 3, .iastore, []), (123, 0, .iconst 1, []), (124, 2, .istore_n 3, []), (125, 1, .goto (-121), [4]), (128, 2, .iload_n 2, []), (129, 0, .iconst 1, []), (130, 1, .if_icmp .ne 8, [138]), (133, 0, .iconst 0, []), (134, 2, .istore_n 2, []), (135, 1, .goto (-131), [4]), (138, 2, .aload_n 0, []), (139, 4, .invokevirtual 156, [111, 1, 13]), (142, 0, .bipush 44, []), (144, 1, .if_icmp .ne 38, [182]), (147, 2, .aload_n 0, []), (148, 3, .getfield 22, [13, 4]), (151, 2, .iload_n 2, []), (152, 3, .iaload, []), (153, 0, .iconst 3, []), (154, 1, .if_icmp .ge 28, [182]), (157, 2, .aload_n 0, []), (158, 0, .dup, []), (159, 3, .getfield 153, [13, 10]), (162, 0, .iconst 1, []), (163, 0, .iadd, []), (164, 3, .putfield 153, [13, 10]), (167, 2, .aload_n 0, []), (168, 3, .getfield 22, [13, 4]), (171, 2, .iload_n 2, []), (172, 0, .dup2, []), (173, 3, .iaload, []), (174, 0, .iconst 1, []), (175, 0, .iadd, []), (176, 3, .iastore, []), (177, 0, .iconst 1, []), (178, 2, .istore_n 3, []), (179, 1, .goto (-175), [4]), (182, 2, .aload_n 0, []), (183, 0, .bipush 41, []), (185, 4, .invokevirtual 160, [112, 2, 13]), (188, 1, .ifCond .eq 9, [197]), (191, 2, .iinc 2 (-1), []), (194, 1, .goto (-190), [4]), (197, 0, .iconst 0, []), (198, 5, .ireturn, []), (199, 0, .iconst 1, []), (200, 5, .ireturn, [])]
/-- GoalDeskModel look ()I -/
def gt_t111 : List (Nat × ai_I) := [(0, 2, .aload_n 0, []), (1, 3, .getfield 153, [13, 10]), (4, 2, .aload_n 0, []), (5, 3, .getfield 146, [13, 7]), (8, 1, .if_icmp .ge 15, [23]), (11, 2, .aload_n 0, []), (12, 3, .getfield 7, [13, 0]), (15, 2, .aload_n 0, []), (16, 3, .getfield 153, [13, 10]), (19, 3, .iaload, []), (20, 1, .goto 4, [24]), (23, 0, .iconst 0, []), (24, 5, .ireturn, [])]
/-- GoalDeskModel passes (I)Z -/
def gt_t112 : List (Nat × ai_I) := [(0, 2, .aload_n 0, []), (1, 4, .invokevirtual 156, [111, 1, 13]), (4, 2, .iload_n 1, []), (5, 1, .if_icmp .eq 5, [10]), (8, 0, .iconst 0, []), (9, 5, .ireturn, []), (10, 2, .aload_n 0, []), (11, 0, .dup, []), (12, 3, .getfield 153, [13, 10]), (15, 0, .iconst 1, []), (16, 0, .iadd, []), (17, 3, .putfield 153, [13, 10]), (20, 0, .iconst 1, []), (21, 5, .ireturn, [])]
/-- GoalDeskModel readGoals ()Z -/
def gt_t113 : List (Nat × ai_I) := [(0, 2, .aload_n 0, []), (1, 0, .bipush 33, []), (3, 4, .invokevirtual 160, [112, 2, 13]), (6, 1, .ifCond .eq 6, [12]), (9, 1, .goto 90, [99]), (12, 2, .aload_n 0, []), (13, 4, .invokevirtual 156, [111, 1, 13]), (16, 0, .bipush 97, []), (18, 0, .bipush 122, []), (20, 4, .invokestatic 138, [105, 3, 0]), (23, 2, .istore_n 1, []), (24, 2, .aload_n 0, []), (25, 0, .iconst 0, []), (26, 4, .invokevirtual 164, [110, 2, 13]), (29, 1, .ifCond .ne 5, [34]), (32, 0, .iconst 0, []), (33, 5, .ireturn, []), (34, 2, .aload_n 0, []), (35, 4, .invokevirtual 156, [111, 1, 13]), (38, 2, .istore_n 2, []), (39, 2, .iload_n 2, []), (40, 0, .bipush 61, []), (42, 1, .if_icmp .eq 21, [63]), (45, 2, .iload_n 2, []), (46, 0, .bipush 126, []), (48, 1, .if_icmp .eq 15, [63]), (51, 2, .iload_n 2, []), (52, 0, .bipush 60, []), (54, 1, .if_icmp .eq 9, [63]), (57, 2, .iload_n 2, []), (58, 0, .bipush 63, []), (60, 1, .if_icmp .ne 33, [93]), (63, 2, .aload_n 0, []), (64, 0, .dup, []), (65, 3, .getfield 153, [13, 10]), (68, 0, .iconst 1, []), (69, 0, .iadd, []), (70, 3, .putfield 153, [13, 10]), (73, 2, .aload_n 0, []), (74, 2, .iload_n 2, []), (75, 0, .bipush 63, []), (77, 1, .if_icmp .ne 7, [84]), (80, 0, .iconst 1, []), (81, 1, .goto 4, [85]), (84, 0, .iconst 0, []), (85, 4, .invokevirtual 164, [110, 2, 13]), (88, 1, .ifCond .ne 11, [99]), (91, 0, .iconst 0, []), (92, 5, .ireturn, []), (93, 2, .iload_n 1, []), (94, 1, .ifCond .ne 5, [99]), (97, 0, .iconst 0, []), (98, 5, .ireturn, []), (99, 2, .aload_n 0, []), (100, 0, .bipush 44, []), (102, 4, .invokevirtual 160, [112, 2, 13]), (105, 1, .ifCond .ne (-105), [0]), (108, 2, .aload_n 0, []), (109, 3, .getfield 153, [13, 10]), (112, 2, .aload_n 0, []), (113, 3, .getfield 146, [13, 7]), (116, 1, .if_icmp .ne 7, [123]), (119, 0, .iconst 1, []), (120, 1, .goto 4, [124]), (123, 0, .iconst 0, []), (124, 5, .ireturn, [])]
/-- GoalDeskModel drop (I)V -/
def gt_t114 : List (Nat × ai_I) := [(0, 2, .aload_n 0, []), (1, 2, .iload_n 1, []), (2, 0, .iconst 0, []), (3, 2, .aload_n 0, []), (4, 3, .getfield 171, [13, 8]), (7, 0, .iconst 1, []), (8, 0, .isub, []), (9, 4, .invokestatic 138, [105, 3, 0]), (12, 4, .invokevirtual 142, [106, 2, 13]), (15, 1, .ifCond .eq 4, [19]), (18, 5, .return_, []), (19, 2, .aload_n 0, []), (20, 0, .iconst 0, []), (21, 3, .putfield 177, [13, 38]), (24, 2, .aload_n 0, []), (25, 0, .dup, []), (26, 3, .getfield 171, [13, 8]), (29, 0, .iconst 1, []), (30, 0, .isub, []), (31, 3, .putfield 171, [13, 8]), (34, 2, .iload_n 1, []), (35, 2, .istore_n 2, []), (36, 2, .iload_n 2, []), (37, 2, .aload_n 0, []), (38, 3, .getfield 171, [13, 8]), (41, 1, .if_icmp .ge 62, [103]), (44, 2, .aload_n 0, []), (45, 3, .getfield 16, [13, 2]), (48, 2, .iload_n 2, []), (49, 2, .aload_n 0, []), (50, 3, .getfield 16, [13, 2]), (53, 2, .iload_n 2, []), (54, 0, .iconst 1, []), (55, 0, .iadd, []), (56, 3, .iaload, []), (57, 3, .iastore, []), (58, 0, .iconst 0, []), (59, 2, .istore_n 3, []), (60, 2, .iload_n 3, []), (61, 0, .bipush 48, []), (63, 1, .if_icmp .ge 34, [97]), (66, 2, .aload_n 0, []), (67, 3, .getfield 13, [13, 1]), (70, 2, .iload_n 2, []), (71, 0, .bipush 48, []), (73, 0, .imul, []), (74, 2, .iload_n 3, []), (75, 0, .iadd, []), (76, 2, .aload_n 0, []), (77, 3, .getfield 13, [13, 1]), (80, 2, .iload_n 2, []), (81, 0, .bipush 48, []), (83, 0, .imul, []), (84, 0, .bipush 48, []), (86, 0, .iadd, []), (87, 2, .iload_n 3, []), (88, 0, .iadd, []), (89, 3, .iaload, []), (90, 3, .iastore, []), (91, 2, .iinc 3 1, []), (94, 1, .goto (-34), [60]), (97, 2, .iinc 2 1, []), (100, 1, .goto (-64), [36]), (103, 5, .return_, [])]
/-- GoalDeskModel ask ()I -/
def gt_t115 : List (Nat × ai_I) := [(0, 2, .aload_n 0, []), (1, 0, .iconst 0, []), (2, 3, .putfield 153, [13, 10]), (5, 2, .aload_n 0, []), (6, 4, .invokevirtual 167, [113, 1, 13]), (9, 2, .istore_n 1, []), (10, 2, .iload_n 1, []), (11, 1, .ifCond .ne 11, [22]), (14, 2, .aload_n 0, []), (15, 2, .aload_n 0, []), (16, 3, .getfield 153, [13, 10]), (19, 3, .putfield 31, [13, 9]), (22, 2, .aload_n 0, []), (23, 3, .getfield 146, [13, 7]), (26, 2, .istore_n 2, []), (27, 2, .aload_n 0, []), (28, 0, .iconst 0, []), (29, 3, .putfield 146, [13, 7]), (32, 2, .aload_n 0, []), (33, 2, .iload_n 1, []), (34, 3, .putfield 177, [13, 38]), (37, 2, .aload_n 0, []), (38, 2, .iload_n 1, []), (39, 4, .invokevirtual 142, [106, 2, 13]), (42, 1, .ifCond .eq 5, [47]), (45, 0, .iconst 0, []), (46, 5, .ireturn, []), (47, 2, .aload_n 0, []), (48, 2, .aload_n 0, []), (49, 2, .aload_n 0, []), (50, 2, .aload_n 0, []), (51, 2, .aload_n 0, []), (52, 2, .aload_n 0, []), (53, 2, .aload_n 0, []), (54, 2, .aload_n 0, []), (55, 2, .aload_n 0, []), (56, 2, .aload_n 0, []), (57, 0, .iconst 0, []), (58, 0, .dup_x1, []), (59, 3, .putfield 263, [13, 35]), (62, 0, .dup_x1, []), (63, 3, .putfield 292, [13, 34]), (66, 0, .dup_x1, []), (67, 3, .putfield 289, [13, 33]), (70, 0, .dup_x1, []), (71, 3, .putfield 219, [13, 32]), (74, 0, .dup_x1, []), (75, 3, .putfield 317, [13, 31]), (78, 0, .dup_x1, []), (79, 3, .putfield 222, [13, 30]), (82, 0, .dup_x1, []), (83, 3, .putfield 209, [13, 28]), (86, 0, .dup_x1, []), (87, 3, .putfield 194, [13, 27]), (90, 0, .dup_x1, []), (91, 3, .putfield 190, [13, 26]), (94, 3, .putfield 196, [13, 25]), (97, 0, .iconst 0, []), (98, 2, .istore_n 3, []), (99, 2, .iload_n 3, []), (100, 2, .iload_n 2, []), (101, 1, .if_icmp .ge 25, [126]), (104, 2, .aload_n 0, []), (105, 3, .getfield 13, [13, 1]), (108, 0, .sipush 576, []), (111, 2, .iload_n 3, []), (112, 0, .iadd, []), (113, 2, .aload_n 0, []), (114, 3, .getfield 7, [13, 0]), (117, 2, .iload_n 3, []), (118, 3, .iaload, []), (119, 3, .iastore, []), (120, 2, .iinc 3 1, []), (123, 1, .goto (-24), [99]), (126, 2, .aload_n 0, []), (127, 0, .sipush 576, []), (130, 3, .putfield 184, [13, 12]), (133, 2, .aload_n 0, []), (134, 0, .sipush 576, []), (137, 2, .iload_n 2, []), (138, 0, .iadd, []), (139, 3, .putfield 181, [13, 13]), (142, 2, .aload_n 0, []), (143, 4, .invokevirtual 277, [116, 1, 13]), (146, 0, .iconst 0, []), (147, 2, .istore_n 3, []), (148, 2, .iload_n 3, []), (149, 0, .bipush 26, []), (151, 1, .if_icmp .ge 21, [172]), (154, 2, .aload_n 0, []), (155, 3, .getfield 28, [13, 6]), (158, 2, .iload_n 3, []), (159, 2, .aload_n 0, []), (160, 3, .getfield 25, [13, 5]), (163, 2, .iload_n 3, []), (164, 3, .iaload, []), (165, 3, .iastore, []), (166, 2, .iinc 3 1, []), (169, 1, .goto (-21), [148]), (172, 2, .aload_n 0, []), (173, 2, .aload_n 0, []), (174, 0, .iconst 0, []), (175, 0, .iconst (-1), []), (176, 4, .invokevirtual 280, [118, 3, 13]), (179, 3, .putfield 270, [13, 29]), (182, 2, .aload_n 0, []), (183, 0, .iconst 0, []), (184, 4, .invokevirtual 320, [124, 2, 13]), (187, 5, .ireturn, [])]
/-- GoalDeskModel number ()V -/
def gt_t116 : List (Nat × ai_I) := [(0, 0, .iconst 0, []), (1, 2, .istore_n 1, []), (2, 2, .iload_n 1, []), (3, 0, .bipush 26, []), (5, 1, .if_icmp .ge 67, [72]), (8, 2, .aload_n 0, []), (9, 3, .getfield 25, [13, 5]), (12, 2, .iload_n 1, []), (13, 0, .iconst (-1), []), (14, 3, .iastore, []), (15, 2, .aload_n 0, []), (16, 3, .getfield 184, [13, 12]), (19, 2, .istore_n 2, []), (20, 2, .iload_n 2, []), (21, 2, .aload_n 0, []), (22, 3, .getfield 181, [13, 13]), (25, 1, .if_icmp .ge 41, [66]), (28, 2, .aload_n 0, []), (29, 3, .getfield 25, [13, 5]), (32, 2, .iload_n 1, []), (33, 3, .iaload, []), (34, 1, .ifCond .ge 32, [66]), (37, 2, .aload_n 0, []), (38, 3, .getfield 13, [13, 1]), (41, 2, .iload_n 2, []), (42, 3, .iaload, []), (43, 0, .bipush 65, []), (45, 2, .iload_n 1, []), (46, 0, .iadd, []), (47, 1, .if_icmp .ne 13, [60]), (50, 2, .aload_n 0, []), (51, 3, .getfield 25, [13, 5]), (54, 2, .iload_n 1, []), (55, 2, .aload_n 0, []), (56, 4, .invokevirtual 187, [117, 1, 13]), (59, 3, .iastore, []), (60, 2, .iinc 2 1, []), (63, 1, .goto (-43), [20]), (66, 2, .iinc 1 1, []), (69, 1, .goto (-67), [2]), (72, 5, .return_, [])]
/-- GoalDeskModel born ()I -/
def gt_t117 : List (Nat × ai_I) := [(0, 2, .aload_n 0, []), (1, 3, .getfield 190, [13, 26]), (4, 2, .istore_n 1, []), (5, 2, .aload_n 0, []), (6, 3, .getfield 45, [13, 17]), (9, 2, .iload_n 1, []), (10, 3, .ldc 193, [2147483647]), (12, 3, .iastore, []), (13, 2, .aload_n 0, []), (14, 3, .getfield 48, [13, 18]), (17, 2, .iload_n 1, []), (18, 0, .iconst (-1), []), (19, 3, .iastore, []), (20, 2, .aload_n 0, []), (21, 3, .getfield 51, [13, 19]), (24, 2, .iload_n 1, []), (25, 0, .iconst (-1), []), (26, 3, .iastore, []), (27, 2, .aload_n 0, []), (28, 0, .dup, []), (29, 3, .getfield 190, [13, 26]), (32, 0, .iconst 1, []), (33, 0, .iadd, []), (34, 3, .putfield 190, [13, 26]), (37, 2, .aload_n 0, []), (38, 0, .dup, []), (39, 3, .getfield 194, [13, 27]), (42, 0, .iconst 1, []), (43, 0, .iadd, []), (44, 3, .putfield 194, [13, 27]), (47, 2, .iload_n 1, []), (48, 5, .ireturn, [])]
/-- GoalDeskModel buildGoals (II)I -/
def gt_t118 : List (Nat × ai_I) := [(0, 0, .iconst (-1), []), (1, 2, .istore_n 3, []), (2, 0, .iconst (-1), []), (3, 2, .istore 4, []), (5, 2, .aload_n 0, []), (6, 3, .getfield 184, [13, 12]), (9, 2, .aload_n 0, []), (10, 3, .getfield 181, [13, 13]), (13, 1, .if_icmp .ge 182, [195]), (16, 2, .aload_n 0, []), (17, 2, .aload_n 0, []), (18, 3, .getfield 184, [13, 12]), (21, 4, .invokevirtual 199, [119, 2, 13]), (24, 0, .bipush 33, []), (26, 1, .if_icmp .ne 27, [53]), (29, 2, .aload_n 0, []), (30, 0, .dup, []), (31, 3, .getfield 184, [13, 12]), (34, 0, .iconst 1, []), (35, 0, .iadd, []), (36, 3, .putfield 184, [13, 12]), (39, 2, .aload_n 0, []), (40, 0, .iconst 0, []), (41, 0, .iconst 0, []), (42, 0, .iconst 0, []), (43, 2, .iload_n 1, []), (44, 2, .iload_n 2, []), (45, 4, .invokevirtual 212, [120, 6, 13]), (48, 2, .istore 5, []), (50, 1, .goto 108, [158]), (53, 2, .aload_n 0, []), (54, 4, .invokevirtual 216, [121, 1, 13]), (57, 2, .istore 6, []), (59, 2, .aload_n 0, []), (60, 2, .aload_n 0, []), (61, 3, .getfield 184, [13, 12]), (64, 4, .invokevirtual 199, [119, 2, 13]), (67, 2, .istore 7, []), (69, 2, .iload 7, []), (71, 0, .bipush 61, []), (73, 1, .if_icmp .ne 7, [80]), (76, 0, .iconst 2, []), (77, 1, .goto 37, [114]), (80, 2, .iload 7, []), (82, 0, .bipush 126, []), (84, 1, .if_icmp .ne 7, [91]), (87, 0, .iconst 3, []), (88, 1, .goto 26, [114]), (91, 2, .iload 7, []), (93, 0, .bipush 60, []), (95, 1, .if_icmp .ne 7, [102]), (98, 0, .iconst 4, []), (99, 1, .goto 15, [114]), (102, 2, .iload 7, []), (104, 0, .bipush 63, []), (106, 1, .if_icmp .ne 7, [113]), (109, 0, .iconst 5, []), (110, 1, .goto 4, [114]), (113, 0, .iconst 1, []), (114, 2, .istore 8, []), (116, 2, .iload 8, []), (118, 0, .iconst 1, []), (119, 1, .if_icmp .eq 13, [132]), (122, 2, .aload_n 0, []), (123, 0, .dup, []), (124, 3, .getfield 184, [13, 12]), (127, 0, .iconst 1, []), (128, 0, .iadd, []), (129, 3, .putfield 184, [13, 12]), (132, 2, .aload_n 0, []), (133, 2, .iload 8, []), (135, 2, .iload 6, []), (137, 2, .iload 8, []), (139, 0, .iconst 1, []), (140, 1, .if_icmp .ne 7, [147]), (143, 0, .iconst 0, []), (144, 1, .goto 7, [151]), (147, 2, .aload_n 0, []), (148, 4, .invokevirtual 216, [121, 1, 13]), (151, 2, .iload_n 1, []), (152, 2, .iload_n 2, []), (153, 4, .invokevirtual 212, [120, 6, 13]), (156, 2, .istore 5, []), (158, 2, .aload_n 0, []), (159, 0, .dup, []), (160, 3, .getfield 184, [13, 12]), (163, 0, .iconst 1, []), (164, 0, .iadd, []), (165, 3, .putfield 184, [13, 12]), (168, 2, .iload 4, []), (170, 1, .ifCond .lt 15, [185]), (173, 2, .aload_n 0, []), (174, 3, .getfield 66, [13, 24]), (177, 2, .iload 4, []), (179, 2, .iload 5, []), (181, 3, .iastore, []), (182, 1, .goto 6, [188]), (185, 2, .iload 5, []), (187, 2, .istore_n 3, []), (188, 2, .iload 5, []), (190, 2, .istore 4, []), (192, 1, .goto (-187), [5]), (195, 2, .iload_n 3, []), (196, 1, .ifCond .ge 7, [203]), (199, 2, .iload_n 2, []), (200, 1, .goto 4, [204]), (203, 2, .iload_n 3, []), (204, 5, .ireturn, [])]
/-- GoalDeskModel at (I)I -/
def gt_t119 : List (Nat × ai_I) := [(0, 2, .iload_n 1, []), (1, 2, .aload_n 0, []), (2, 3, .getfield 181, [13, 13]), (5, 1, .if_icmp .ge 12, [17]), (8, 2, .aload_n 0, []), (9, 3, .getfield 13, [13, 1]), (12, 2, .iload_n 1, []), (13, 3, .iaload, []), (14, 1, .goto 4, [18]), (17, 0, .iconst 0, []), (18, 5, .ireturn, [])]
/-- GoalDeskModel goal (IIIII)I -/
def gt_t120 : List (Nat × ai_I) := [(0, 2, .aload_n 0, []), (1, 3, .getfield 54, [13, 20]), (4, 2, .aload_n 0, []), (5, 3, .getfield 209, [13, 28]), (8, 2, .iload_n 1, []), (9, 3, .iastore, []), (10, 2, .aload_n 0, []), (11, 3, .getfield 57, [13, 21]), (14, 2, .aload_n 0, []), (15, 3, .getfield 209, [13, 28]), (18, 2, .iload_n 2, []), (19, 3, .iastore, []), (20, 2, .aload_n 0, []), (21, 3, .getfield 60, [13, 22]), (24, 2, .aload_n 0, []), (25, 3, .getfield 209, [13, 28]), (28, 2, .iload_n 3, []), (29, 3, .iastore, []), (30, 2, .aload_n 0, []), (31, 3, .getfield 63, [13, 23]), (34, 2, .aload_n 0, []), (35, 3, .getfield 209, [13, 28]), (38, 2, .iload 4, []), (40, 3, .iastore, []), (41, 2, .aload_n 0, []), (42, 3, .getfield 66, [13, 24]), (45, 2, .aload_n 0, []), (46, 3, .getfield 209, [13, 28]), (49, 2, .iload 5, []), (51, 3, .iastore, []), (52, 2, .aload_n 0, []), (53, 0, .dup, []), (54, 3, .getfield 209, [13, 28]), (57, 0, .iconst 1, []), (58, 0, .iadd, []), (59, 3, .putfield 209, [13, 28]), (62, 2, .aload_n 0, []), (63, 3, .getfield 209, [13, 28]), (66, 0, .iconst 1, []), (67, 0, .isub, []), (68, 5, .ireturn, [])]
/-- GoalDeskModel build ()I -/
def gt_t121 : List (Nat × ai_I) := [(0, 0, .iconst 0, []), (1, 2, .istore_n 1, []), (2, 2, .aload_n 0, []), (3, 2, .aload_n 0, []), (4, 3, .getfield 184, [13, 12]), (7, 4, .invokevirtual 199, [119, 2, 13]), (10, 2, .istore_n 2, []), (11, 2, .iload_n 2, []), (12, 0, .bipush 65, []), (14, 0, .bipush 90, []), (16, 4, .invokestatic 138, [105, 3, 0]), (19, 1, .ifCond .eq 17, [36]), (22, 0, .iconst (-1), []), (23, 2, .aload_n 0, []), (24, 3, .getfield 25, [13, 5]), (27, 2, .iload_n 2, []), (28, 0, .bipush 65, []), (30, 0, .isub, []), (31, 3, .iaload, []), (32, 0, .isub, []), (33, 1, .goto 8, [41]), (36, 2, .aload_n 0, []), (37, 2, .iload_n 2, []), (38, 4, .invokevirtual 202, [122, 2, 13]), (41, 2, .istore_n 3, []), (42, 2, .aload_n 0, []), (43, 0, .dup, []), (44, 3, .getfield 184, [13, 12]), (47, 0, .iconst 1, []), (48, 0, .iadd, []), (49, 3, .putfield 184, [13, 12]), (52, 2, .iload_n 1, []), (53, 1, .ifCond .le 9, [62]), (56, 2, .aload_n 0, []), (57, 2, .iload_n 1, []), (58, 2, .iload_n 3, []), (59, 4, .invokevirtual 205, [123, 3, 13]), (62, 2, .iload_n 3, []), (63, 1, .ifCond .lt 39, [102]), (66, 2, .aload_n 0, []), (67, 2, .aload_n 0, []), (68, 3, .getfield 184, [13, 12]), (71, 4, .invokevirtual 199, [119, 2, 13]), (74, 0, .bipush 40, []), (76, 1, .if_icmp .ne 26, [102]), (79, 2, .aload_n 0, []), (80, 0, .dup, []), (81, 3, .getfield 184, [13, 12]), (84, 0, .iconst 1, []), (85, 0, .iadd, []), (86, 3, .putfield 184, [13, 12]), (89, 2, .iinc 1 1, []), (92, 2, .aload_n 0, []), (93, 3, .getfield 19, [13, 3]), (96, 2, .iload_n 1, []), (97, 2, .iload_n 3, []), (98, 3, .iastore, []), (99, 1, .goto (-97), [2]), (102, 2, .iload_n 1, []), (103, 1, .ifCond .le 39, [142]), (106, 2, .aload_n 0, []), (107, 2, .aload_n 0, []), (108, 3, .getfield 184, [13, 12]), (111, 4, .invokevirtual 199, [119, 2, 13]), (114, 0, .bipush 41, []), (116, 1, .if_icmp .ne 26, [142]), (119, 2, .aload_n 0, []), (120, 0, .dup, []), (121, 3, .getfield 184, [13, 12]), (124, 0, .iconst 1, []), (125, 0, .iadd, []), (126, 3, .putfield 184, [13, 12]), (129, 2, .aload_n 0, []), (130, 3, .getfield 19, [13, 3]), (133, 2, .iload_n 1, []), (134, 3, .iaload, []), (135, 2, .istore_n 3, []), (136, 2, .iinc 1 (-1), []), (139, 1, .goto (-37), [102]), (142, 2, .iload_n 1, []), (143, 1, .ifCond .ne 5, [148]), (146, 2, .iload_n 3, []), (147, 5, .ireturn, []), (148, 2, .aload_n 0, []), (149, 0, .dup, []), (150, 3, .getfield 184, [13, 12]), (153, 0, .iconst 1, []), (154, 0, .iadd, []), (155, 3, .putfield 184, [13, 12]), (158, 1, .goto (-156), [2])]
/-- GoalDeskModel cell (I)I -/
def gt_t122 : List (Nat × ai_I) := [(0, 2, .aload_n 0, []), (1, 3, .getfield 35, [13, 14]), (4, 2, .aload_n 0, []), (5, 3, .getfield 196, [13, 25]), (8, 2, .iload_n 1, []), (9, 3, .iastore, []), (10, 2, .aload_n 0, []), (11, 3, .getfield 38, [13, 15]), (14, 2, .aload_n 0, []), (15, 3, .getfield 196, [13, 25]), (18, 0, .iconst 0, []), (19, 3, .iastore, []), (20, 2, .aload_n 0, []), (21, 0, .dup, []), (22, 3, .getfield 196, [13, 25]), (25, 0, .iconst 1, []), (26, 0, .iadd, []), (27, 3, .putfield 196, [13, 25]), (30, 2, .aload_n 0, []), (31, 3, .getfield 196, [13, 25]), (34, 0, .iconst 1, []), (35, 0, .isub, []), (36, 5, .ireturn, [])]
/-- GoalDeskModel hang (II)V -/
def gt_t123 : List (Nat × ai_I) := [(0, 2, .aload_n 0, []), (1, 3, .getfield 19, [13, 3]), (4, 2, .iload_n 1, []), (5, 3, .iaload, []), (6, 2, .istore_n 3, []), (7, 2, .aload_n 0, []), (8, 3, .getfield 42, [13, 16]), (11, 2, .iload_n 3, []), (12, 0, .iconst 3, []), (13, 0, .imul, []), (14, 2, .aload_n 0, []), (15, 3, .getfield 38, [13, 15]), (18, 2, .iload_n 3, []), (19, 3, .iaload, []), (20, 0, .iadd, []), (21, 2, .iload_n 2, []), (22, 3, .iastore, []), (23, 2, .aload_n 0, []), (24, 3, .getfield 38, [13, 15]), (27, 2, .iload_n 3, []), (28, 0, .dup2, []), (29, 3, .iaload, []), (30, 0, .iconst 1, []), (31, 0, .iadd, []), (32, 3, .iastore, []), (33, 5, .return_, [])]
/-- GoalDeskModel seek (Z)I -/
def gt_t124 : List (Nat × ai_I) := [(0, 2, .iload_n 1, []), (1, 1, .ifCond .eq 10, [11]), (4, 2, .aload_n 0, []), (5, 4, .invokevirtual 311, [125, 1, 13]), (8, 1, .ifCond .eq 7, [15]), (11, 0, .iconst 1, []), (12, 1, .goto 4, [16]), (15, 0, .iconst 0, []), (16, 2, .istore_n 2, []), (17, 2, .iload_n 2, []), (18, 1, .ifCond .eq 61, [79]), (21, 2, .aload_n 0, []), (22, 3, .getfield 270, [13, 29]), (25, 1, .ifCond .lt 54, [79]), (28, 2, .aload_n 0, []), (29, 3, .getfield 135, [13, 11]), (32, 1, .ifCond .ne 47, [79]), (35, 2, .aload_n 0, []), (36, 4, .invokevirtual 237, [133, 1, 13]), (39, 1, .ifCond .ne 6, [45]), (42, 1, .goto 37, [79]), (45, 2, .aload_n 0, []), (46, 2, .aload_n 0, []), (47, 3, .getfield 270, [13, 29]), (50, 4, .invokevirtual 314, [139, 2, 13]), (53, 1, .ifCond .ne 17, [70]), (56, 2, .aload_n 0, []), (57, 3, .getfield 135, [13, 11]), (60, 1, .ifCond .ne 14, [74]), (63, 2, .aload_n 0, []), (64, 4, .invokevirtual 311, [125, 1, 13]), (67, 1, .ifCond .eq 7, [74]), (70, 0, .iconst 1, []), (71, 1, .goto 4, [75]), (74, 0, .iconst 0, []), (75, 2, .istore_n 2, []), (76, 1, .goto (-59), [17]), (79, 2, .aload_n 0, []), (80, 3, .getfield 135, [13, 11]), (83, 1, .ifCond .ne 12, [95]), (86, 2, .iload_n 2, []), (87, 1, .ifCond .ne 8, [95]), (90, 2, .aload_n 0, []), (91, 0, .iconst 2, []), (92, 3, .putfield 135, [13, 11]), (95, 2, .aload_n 0, []), (96, 3, .getfield 135, [13, 11]), (99, 1, .ifCond .le 10, [109]), (102, 2, .aload_n 0, []), (103, 0, .iconst 0, []), (104, 3, .putfield 177, [13, 38]), (107, 0, .iconst 0, []), (108, 5, .ireturn, []), (109, 2, .aload_n 0, []), (110, 0, .dup, []), (111, 3, .getfield 317, [13, 31]), (114, 0, .iconst 1, []), (115, 0, .iadd, []), (116, 3, .putfield 317, [13, 31]), (119, 2, .aload_n 0, []), (120, 3, .getfield 222, [13, 30]), (123, 5, .ireturn, [])]
/-- GoalDeskModel back ()Z -/
def gt_t125 : List (Nat × ai_I) := [(0, 2, .aload_n 0, []), (1, 3, .getfield 289, [13, 33]), (4, 1, .ifCond .le 149, [153]), (7, 2, .aload_n 0, []), (8, 3, .getfield 135, [13, 11]), (11, 1, .ifCond .ne 142, [153]), (14, 2, .aload_n 0, []), (15, 3, .getfield 289, [13, 33]), (18, 0, .iconst 1, []), (19, 0, .isub, []), (20, 2, .istore_n 1, []), (21, 2, .aload_n 0, []), (22, 3, .getfield 105, [13, 53]), (25, 2, .iload_n 1, []), (26, 3, .iaload, []), (27, 2, .istore_n 2, []), (28, 2, .aload_n 0, []), (29, 3, .getfield 102, [13, 52]), (32, 2, .iload_n 1, []), (33, 3, .iaload, []), (34, 2, .istore_n 3, []), (35, 2, .aload_n 0, []), (36, 2, .iload_n 2, []), (37, 0, .iconst 1, []), (38, 0, .iadd, []), (39, 2, .iload_n 3, []), (40, 4, .invokevirtual 286, [126, 3, 13]), (43, 2, .istore 4, []), (45, 2, .aload_n 0, []), (46, 2, .aload_n 0, []), (47, 3, .getfield 120, [13, 58]), (50, 2, .iload_n 1, []), (51, 3, .iaload, []), (52, 4, .invokevirtual 259, [128, 2, 13]), (55, 2, .aload_n 0, []), (56, 2, .aload_n 0, []), (57, 3, .getfield 111, [13, 55]), (60, 2, .iload_n 1, []), (61, 3, .iaload, []), (62, 3, .putfield 196, [13, 25]), (65, 2, .aload_n 0, []), (66, 2, .aload_n 0, []), (67, 3, .getfield 114, [13, 56]), (70, 2, .iload_n 1, []), (71, 3, .iaload, []), (72, 3, .putfield 190, [13, 26]), (75, 2, .aload_n 0, []), (76, 2, .aload_n 0, []), (77, 3, .getfield 117, [13, 57]), (80, 2, .iload_n 1, []), (81, 3, .iaload, []), (82, 3, .putfield 209, [13, 28]), (85, 2, .aload_n 0, []), (86, 2, .aload_n 0, []), (87, 3, .getfield 123, [13, 59]), (90, 2, .iload_n 1, []), (91, 3, .iaload, []), (92, 3, .putfield 292, [13, 34]), (95, 2, .aload_n 0, []), (96, 2, .aload_n 0, []), (97, 3, .getfield 126, [13, 60]), (100, 2, .iload_n 1, []), (101, 3, .iaload, []), (102, 3, .putfield 263, [13, 35]), (105, 2, .aload_n 0, []), (106, 3, .getfield 105, [13, 53]), (109, 2, .iload_n 1, []), (110, 2, .iload 4, []), (112, 3, .iastore, []), (113, 2, .iload 4, []), (115, 2, .aload_n 0, []), (116, 3, .getfield 171, [13, 8]), (119, 1, .if_icmp .ne 13, [132]), (122, 2, .aload_n 0, []), (123, 0, .dup, []), (124, 3, .getfield 289, [13, 33]), (127, 0, .iconst 1, []), (128, 0, .isub, []), (129, 3, .putfield 289, [13, 33]), (132, 2, .aload_n 0, []), (133, 2, .iload_n 2, []), (134, 2, .iload_n 3, []), (135, 2, .aload_n 0, []), (136, 3, .getfield 108, [13, 54]), (139, 2, .iload_n 1, []), (140, 3, .iaload, []), (141, 2, .iload_n 1, []), (142, 4, .invokevirtual 295, [129, 5, 13]), (145, 1, .ifCond .eq 5, [150]), (148, 0, .iconst 1, []), (149, 5, .ireturn, []), (150, 1, .goto (-150), [0]), (153, 0, .iconst 0, []), (154, 5, .ireturn, [])]
/-- GoalDeskModel nextFit (II)I -/
def gt_t126 : List (Nat × ai_I) := [(0, 2, .iload_n 1, []), (1, 2, .istore_n 3, []), (2, 2, .iload_n 3, []), (3, 2, .aload_n 0, []), (4, 3, .getfield 171, [13, 8]), (7, 1, .if_icmp .ge 18, [25]), (10, 2, .aload_n 0, []), (11, 2, .iload_n 3, []), (12, 2, .iload_n 2, []), (13, 4, .invokevirtual 273, [127, 3, 13]), (16, 1, .ifCond .ne 9, [25]), (19, 2, .iinc 3 1, []), (22, 1, .goto (-20), [2]), (25, 2, .iload_n 3, []), (26, 5, .ireturn, [])]
/-- GoalDeskModel fits (II)Z -/
def gt_t127 : List (Nat × ai_I) := [(0, 2, .aload_n 0, []), (1, 3, .getfield 13, [13, 1]), (4, 2, .iload_n 1, []), (5, 0, .bipush 48, []), (7, 0, .imul, []), (8, 3, .iaload, []), (9, 2, .aload_n 0, []), (10, 3, .getfield 35, [13, 14]), (13, 2, .iload_n 2, []), (14, 3, .iaload, []), (15, 1, .if_icmp .eq 5, [20]), (18, 0, .iconst 0, []), (19, 5, .ireturn, []), (20, 0, .iconst 0, []), (21, 2, .istore_n 3, []), (22, 0, .iconst 0, []), (23, 2, .istore 4, []), (25, 0, .iconst 1, []), (26, 2, .istore 5, []), (28, 2, .iload 5, []), (30, 2, .aload_n 0, []), (31, 3, .getfield 16, [13, 2]), (34, 2, .iload_n 1, []), (35, 3, .iaload, []), (36, 1, .if_icmp .ge 93, [129]), (39, 2, .aload_n 0, []), (40, 3, .getfield 13, [13, 1]), (43, 2, .iload_n 1, []), (44, 0, .bipush 48, []), (46, 0, .imul, []), (47, 2, .iload 5, []), (49, 0, .iadd, []), (50, 3, .iaload, []), (51, 2, .istore 6, []), (53, 2, .iload 5, []), (55, 0, .iconst 1, []), (56, 1, .if_icmp .ne 13, [69]), (59, 2, .iload 6, []), (61, 0, .bipush 40, []), (63, 1, .if_icmp .eq 6, [69]), (66, 1, .goto 63, [129]), (69, 2, .iload 6, []), (71, 0, .bipush 40, []), (73, 1, .if_icmp .ne 6, [79]), (76, 2, .iinc 3 1, []), (79, 2, .iload 6, []), (81, 0, .bipush 40, []), (83, 1, .if_icmp .ne 8, [91]), (86, 2, .iload_n 3, []), (87, 0, .iconst 1, []), (88, 1, .if_icmp .eq 15, [103]), (91, 2, .iload 6, []), (93, 0, .bipush 44, []), (95, 1, .if_icmp .ne 11, [106]), (98, 2, .iload_n 3, []), (99, 0, .iconst 1, []), (100, 1, .if_icmp .ne 6, [106]), (103, 2, .iinc 4 1, []), (106, 2, .iload 6, []), (108, 0, .bipush 41, []), (110, 1, .if_icmp .ne 6, [116]), (113, 2, .iinc 3 (-1), []), (116, 2, .iload_n 3, []), (117, 1, .ifCond .ne 6, [123]), (120, 1, .goto 9, [129]), (123, 2, .iinc 5 1, []), (126, 1, .goto (-98), [28]), (129, 2, .iload 4, []), (131, 2, .aload_n 0, []), (132, 3, .getfield 38, [13, 15]), (135, 2, .iload_n 2, []), (136, 3, .iaload, []), (137, 1, .if_icmp .ne 7, [144]), (140, 0, .iconst 1, []), (141, 1, .goto 4, [145]), (144, 0, .iconst 0, []), (145, 5, .ireturn, [])]
/-- GoalDeskModel undo (I)V -/
def gt_t128 : List (Nat × ai_I) := [(0, 2, .aload_n 0, []), (1, 3, .getfield 219, [13, 32]), (4, 2, .iload_n 1, []), (5, 1, .if_icmp .le 115, [120]), (8, 2, .aload_n 0, []), (9, 0, .dup, []), (10, 3, .getfield 219, [13, 32]), (13, 0, .iconst 1, []), (14, 0, .isub, []), (15, 3, .putfield 219, [13, 32]), (18, 2, .aload_n 0, []), (19, 3, .getfield 69, [13, 41]), (22, 2, .aload_n 0, []), (23, 3, .getfield 219, [13, 32]), (26, 3, .iaload, []), (27, 0, .iconst 5, []), (28, 0, .idiv, []), (29, 2, .istore_n 2, []), (30, 2, .aload_n 0, []), (31, 3, .getfield 69, [13, 41]), (34, 2, .aload_n 0, []), (35, 3, .getfield 219, [13, 32]), (38, 3, .iaload, []), (39, 0, .iconst 5, []), (40, 0, .irem, []), (41, 2, .istore_n 3, []), (42, 2, .aload_n 0, []), (43, 3, .getfield 72, [13, 42]), (46, 2, .aload_n 0, []), (47, 3, .getfield 219, [13, 32]), (50, 3, .iaload, []), (51, 2, .istore 4, []), (53, 2, .iload_n 3, []), (54, 1, .ifCond .ne 11, [65]), (57, 2, .aload_n 0, []), (58, 3, .getfield 45, [13, 17]), (61, 2, .iload_n 2, []), (62, 2, .iload 4, []), (64, 3, .iastore, []), (65, 2, .iload_n 3, []), (66, 0, .iconst 1, []), (67, 1, .if_icmp .ne 11, [78]), (70, 2, .aload_n 0, []), (71, 3, .getfield 48, [13, 18]), (74, 2, .iload_n 2, []), (75, 2, .iload 4, []), (77, 3, .iastore, []), (78, 2, .iload_n 3, []), (79, 0, .iconst 2, []), (80, 1, .if_icmp .ne 11, [91]), (83, 2, .aload_n 0, []), (84, 3, .getfield 51, [13, 19]), (87, 2, .iload_n 2, []), (88, 2, .iload 4, []), (90, 3, .iastore, []), (91, 2, .iload_n 3, []), (92, 0, .iconst 3, []), (93, 1, .if_icmp .ne 11, [104]), (96, 2, .aload_n 0, []), (97, 3, .getfield 78, [13, 44]), (100, 2, .iload_n 2, []), (101, 2, .iload 4, []), (103, 3, .iastore, []), (104, 2, .iload_n 3, []), (105, 0, .iconst 4, []), (106, 1, .if_icmp .ne 11, [117]), (109, 2, .aload_n 0, []), (110, 3, .getfield 87, [13, 47]), (113, 2, .iload_n 2, []), (114, 2, .iload 4, []), (116, 3, .iastore, []), (117, 1, .goto (-117), [0]), (120, 5, .return_, [])]
/-- GoalDeskModel take (IIII)Z -/
def gt_t129 : List (Nat × ai_I) := [(0, 2, .aload_n 0, []), (1, 2, .iload_n 1, []), (2, 0, .bipush 48, []), (4, 0, .imul, []), (5, 3, .putfield 184, [13, 12]), (8, 2, .aload_n 0, []), (9, 2, .aload_n 0, []), (10, 3, .getfield 184, [13, 12]), (13, 2, .aload_n 0, []), (14, 3, .getfield 16, [13, 2]), (17, 2, .iload_n 1, []), (18, 3, .iaload, []), (19, 0, .iadd, []), (20, 3, .putfield 181, [13, 13]), (23, 2, .aload_n 0, []), (24, 4, .invokevirtual 277, [116, 1, 13]), (27, 2, .aload_n 0, []), (28, 4, .invokevirtual 216, [121, 1, 13]), (31, 2, .istore 5, []), (33, 2, .iload_n 3, []), (34, 2, .istore 6, []), (36, 2, .aload_n 0, []), (37, 2, .aload_n 0, []), (38, 3, .getfield 184, [13, 12]), (41, 4, .invokevirtual 199, [119, 2, 13]), (44, 0, .bipush 58, []), (46, 1, .if_icmp .ne 22, [68]), (49, 2, .aload_n 0, []), (50, 0, .dup, []), (51, 3, .getfield 184, [13, 12]), (54, 0, .iconst 1, []), (55, 0, .iadd, []), (56, 3, .putfield 184, [13, 12]), (59, 2, .aload_n 0, []), (60, 2, .iload 4, []), (62, 2, .iload_n 3, []), (63, 4, .invokevirtual 280, [118, 3, 13]), (66, 2, .istore 6, []), (68, 2, .aload_n 0, []), (69, 0, .iconst 0, []), (70, 3, .putfield 231, [13, 36]), (73, 2, .aload_n 0, []), (74, 3, .getfield 38, [13, 15]), (77, 2, .iload 5, []), (79, 3, .iaload, []), (80, 0, .iconst 1, []), (81, 0, .isub, []), (82, 2, .istore 7, []), (84, 2, .iload 7, []), (86, 1, .ifCond .lt 36, [122]), (89, 2, .aload_n 0, []), (90, 2, .aload_n 0, []), (91, 3, .getfield 42, [13, 16]), (94, 2, .iload 5, []), (96, 0, .iconst 3, []), (97, 0, .imul, []), (98, 2, .iload 7, []), (100, 0, .iadd, []), (101, 3, .iaload, []), (102, 2, .aload_n 0, []), (103, 3, .getfield 42, [13, 16]), (106, 2, .iload_n 2, []), (107, 0, .iconst 3, []), (108, 0, .imul, []), (109, 2, .iload 7, []), (111, 0, .iadd, []), (112, 3, .iaload, []), (113, 4, .invokevirtual 253, [130, 3, 13]), (116, 2, .iinc 7 (-1), []), (119, 1, .goto (-35), [84]), (122, 2, .aload_n 0, []), (123, 2, .iload 6, []), (125, 4, .invokevirtual 283, [131, 2, 13]), (128, 5, .ireturn, [])]
/-- GoalDeskModel pair (II)V -/
def gt_t130 : List (Nat × ai_I) := [(0, 2, .aload_n 0, []), (1, 3, .getfield 90, [13, 48]), (4, 2, .aload_n 0, []), (5, 3, .getfield 231, [13, 36]), (8, 2, .iload_n 1, []), (9, 3, .iastore, []), (10, 2, .aload_n 0, []), (11, 3, .getfield 93, [13, 49]), (14, 2, .aload_n 0, []), (15, 3, .getfield 231, [13, 36]), (18, 2, .iload_n 2, []), (19, 3, .iastore, []), (20, 2, .aload_n 0, []), (21, 0, .dup, []), (22, 3, .getfield 231, [13, 36]), (25, 0, .iconst 1, []), (26, 0, .iadd, []), (27, 3, .putfield 231, [13, 36]), (30, 5, .return_, [])]
/-- GoalDeskModel unify (I)Z -/
def gt_t131 : List (Nat × ai_I) := [(0, 2, .aload_n 0, []), (1, 4, .invokevirtual 256, [132, 1, 13]), (4, 1, .ifCond .ne 5, [9]), (7, 0, .iconst 0, []), (8, 5, .ireturn, []), (9, 0, .iconst 0, []), (10, 2, .istore_n 2, []), (11, 0, .iconst 0, []), (12, 2, .istore_n 3, []), (13, 2, .iload_n 3, []), (14, 2, .aload_n 0, []), (15, 3, .getfield 234, [13, 37]), (18, 1, .if_icmp .ge 50, [68]), (21, 2, .aload_n 0, []), (22, 3, .getfield 96, [13, 50]), (25, 2, .iload_n 3, []), (26, 3, .iaload, []), (27, 2, .istore 4, []), (29, 2, .iload 4, []), (31, 1, .ifCond .lt 31, [62]), (34, 2, .aload_n 0, []), (35, 3, .getfield 99, [13, 51]), (38, 2, .iload_n 2, []), (39, 2, .aload_n 0, []), (40, 3, .getfield 75, [13, 43]), (43, 2, .iload 4, []), (45, 3, .iaload, []), (46, 3, .iastore, []), (47, 2, .iinc 2 1, []), (50, 2, .aload_n 0, []), (51, 3, .getfield 78, [13, 44]), (54, 2, .iload 4, []), (56, 3, .iaload, []), (57, 2, .istore 4, []), (59, 1, .goto (-30), [29]), (62, 2, .iinc 3 1, []), (65, 1, .goto (-52), [13]), (68, 2, .aload_n 0, []), (69, 3, .getfield 228, [13, 39]), (72, 1, .ifCond .eq 84, [156]), (75, 0, .iconst 0, []), (76, 2, .istore_n 3, []), (77, 2, .iload_n 3, []), (78, 2, .aload_n 0, []), (79, 3, .getfield 263, [13, 35]), (82, 1, .if_icmp .ge 74, [156]), (85, 2, .aload_n 0, []), (86, 3, .getfield 87, [13, 47]), (89, 2, .iload_n 3, []), (90, 3, .iaload, []), (91, 0, .iconst 1, []), (92, 1, .if_icmp .ne 6, [98]), (95, 1, .goto 55, [150]), (98, 2, .aload_n 0, []), (99, 2, .aload_n 0, []), (100, 3, .getfield 81, [13, 45]), (103, 2, .iload_n 3, []), (104, 3, .iaload, []), (105, 2, .aload_n 0, []), (106, 3, .getfield 84, [13, 46]), (109, 2, .iload_n 3, []), (110, 3, .iaload, []), (111, 4, .invokevirtual 266, [138, 3, 13]), (114, 2, .istore 4, []), (116, 2, .iload 4, []), (118, 0, .iconst 2, []), (119, 1, .if_icmp .ne 5, [124]), (122, 0, .iconst 0, []), (123, 5, .ireturn, []), (124, 2, .iload 4, []), (126, 0, .iconst 1, []), (127, 1, .if_icmp .ne 6, [133]), (130, 1, .goto 20, [150]), (133, 2, .aload_n 0, []), (134, 2, .iload_n 3, []), (135, 0, .iconst 5, []), (136, 0, .imul, []), (137, 0, .iconst 4, []), (138, 0, .iadd, []), (139, 0, .iconst 0, []), (140, 4, .invokevirtual 225, [136, 3, 13]), (143, 2, .aload_n 0, []), (144, 3, .getfield 87, [13, 47]), (147, 2, .iload_n 3, []), (148, 0, .iconst 1, []), (149, 3, .iastore, []), (150, 2, .iinc 3 1, []), (153, 1, .goto (-76), [77]), (156, 2, .iload_n 1, []), (157, 2, .istore_n 3, []), (158, 2, .iload_n 2, []), (159, 0, .iconst 1, []), (160, 0, .isub, []), (161, 2, .istore 4, []), (163, 2, .iload 4, []), (165, 1, .ifCond .lt 25, [190]), (168, 2, .aload_n 0, []), (169, 0, .iconst 1, []), (170, 2, .aload_n 0, []), (171, 3, .getfield 99, [13, 51]), (174, 2, .iload 4, []), (176, 3, .iaload, []), (177, 0, .iconst 0, []), (178, 0, .iconst 0, []), (179, 2, .iload_n 3, []), (180, 4, .invokevirtual 212, [120, 6, 13]), (183, 2, .istore_n 3, []), (184, 2, .iinc 4 (-1), []), (187, 1, .goto (-24), [163]), (190, 2, .aload_n 0, []), (191, 2, .iload_n 3, []), (192, 3, .putfield 270, [13, 29]), (195, 0, .iconst 1, []), (196, 5, .ireturn, [])]
/-- GoalDeskModel same ()Z -/
def gt_t132 : List (Nat × ai_I) := [(0, 2, .aload_n 0, []), (1, 0, .iconst 0, []), (2, 3, .putfield 228, [13, 39]), (5, 2, .aload_n 0, []), (6, 0, .iconst 0, []), (7, 3, .putfield 234, [13, 37]), (10, 2, .aload_n 0, []), (11, 3, .getfield 231, [13, 36]), (14, 1, .ifCond .le 305, [319]), (17, 2, .aload_n 0, []), (18, 4, .invokevirtual 237, [133, 1, 13]), (21, 1, .ifCond .ne 5, [26]), (24, 0, .iconst 0, []), (25, 5, .ireturn, []), (26, 2, .aload_n 0, []), (27, 0, .dup, []), (28, 3, .getfield 231, [13, 36]), (31, 0, .iconst 1, []), (32, 0, .isub, []), (33, 3, .putfield 231, [13, 36]), (36, 2, .aload_n 0, []), (37, 2, .aload_n 0, []), (38, 3, .getfield 90, [13, 48]), (41, 2, .aload_n 0, []), (42, 3, .getfield 231, [13, 36]), (45, 3, .iaload, []), (46, 4, .invokevirtual 240, [134, 2, 13]), (49, 2, .istore_n 1, []), (50, 2, .aload_n 0, []), (51, 2, .aload_n 0, []), (52, 3, .getfield 93, [13, 49]), (55, 2, .aload_n 0, []), (56, 3, .getfield 231, [13, 36]), (59, 3, .iaload, []), (60, 4, .invokevirtual 240, [134, 2, 13]), (63, 2, .istore_n 2, []), (64, 2, .iload_n 1, []), (65, 1, .ifCond .ge 93, [158]), (68, 2, .iload_n 2, []), (69, 1, .ifCond .ge 89, [158]), (72, 0, .iconst (-1), []), (73, 2, .iload_n 1, []), (74, 0, .isub, []), (75, 2, .istore_n 3, []), (76, 0, .iconst (-1), []), (77, 2, .iload_n 2, []), (78, 0, .isub, []), (79, 2, .istore 4, []), (81, 2, .iload_n 3, []), (82, 2, .iload 4, []), (84, 1, .if_icmp .ge 7, [91]), (87, 2, .iload_n 3, []), (88, 1, .goto 5, [93]), (91, 2, .iload 4, []), (93, 2, .istore 5, []), (95, 2, .iload_n 3, []), (96, 2, .iload 4, []), (98, 1, .if_icmp .ge 8, [106]), (101, 2, .iload 4, []), (103, 1, .goto 4, [107]), (106, 2, .iload_n 3, []), (107, 2, .istore 6, []), (109, 2, .iload_n 3, []), (110, 2, .iload 4, []), (112, 1, .if_icmp .ne 6, [118]), (115, 1, .goto (-105), [10]), (118, 2, .aload_n 0, []), (119, 2, .iload 6, []), (121, 0, .iconst (-1), []), (122, 2, .iload 5, []), (124, 0, .isub, []), (125, 4, .invokevirtual 243, [135, 3, 13]), (128, 2, .aload_n 0, []), (129, 3, .getfield 246, [13, 40]), (132, 1, .ifCond .ne 23, [155]), (135, 2, .aload_n 0, []), (136, 2, .iload 5, []), (138, 2, .aload_n 0, []), (139, 3, .getfield 48, [13, 18]), (142, 2, .iload 6, []), (144, 3, .iaload, []), (145, 2, .aload_n 0, []), (146, 3, .getfield 51, [13, 19]), (149, 2, .iload 6, []), (151, 3, .iaload, []), (152, 4, .invokevirtual 249, [137, 4, 13]), (155, 1, .goto 161, [316]), (158, 2, .iload_n 1, []), (159, 1, .ifCond .lt 7, [166]), (162, 2, .iload_n 2, []), (163, 1, .ifCond .ge 78, [241]), (166, 2, .iload_n 1, []), (167, 1, .ifCond .ge 9, [176]), (170, 0, .iconst (-1), []), (171, 2, .iload_n 1, []), (172, 0, .isub, []), (173, 1, .goto 6, [179]), (176, 0, .iconst (-1), []), (177, 2, .iload_n 2, []), (178, 0, .isub, []), (179, 2, .istore_n 3, []), (180, 2, .aload_n 0, []), (181, 2, .iload_n 3, []), (182, 2, .iload_n 1, []), (183, 1, .ifCond .ge 7, [190]), (186, 2, .iload_n 2, []), (187, 1, .goto 4, [191]), (190, 2, .iload_n 1, []), (191, 4, .invokevirtual 243, [135, 3, 13]), (194, 2, .aload_n 0, []), (195, 3, .getfield 246, [13, 40]), (198, 1, .ifCond .ne (-188), [10]), (201, 2, .aload_n 0, []), (202, 3, .getfield 48, [13, 18]), (205, 2, .iload_n 3, []), (206, 3, .iaload, []), (207, 1, .ifCond .ge 6, [213]), (210, 1, .goto (-200), [10]), (213, 2, .aload_n 0, []), (214, 3, .getfield 96, [13, 50]), (217, 2, .aload_n 0, []), (218, 3, .getfield 234, [13, 37]), (221, 2, .aload_n 0, []), (222, 3, .getfield 48, [13, 18]), (225, 2, .iload_n 3, []), (226, 3, .iaload, []), (227, 3, .iastore, []), (228, 2, .aload_n 0, []), (229, 0, .dup, []), (230, 3, .getfield 234, [13, 37]), (233, 0, .iconst 1, []), (234, 0, .iadd, []), (235, 3, .putfield 234, [13, 37]), (238, 1, .goto 78, [316]), (241, 2, .aload_n 0, []), (242, 3, .getfield 35, [13, 14]), (245, 2, .iload_n 1, []), (246, 3, .iaload, []), (247, 2, .aload_n 0, []), (248, 3, .getfield 35, [13, 14]), (251, 2, .iload_n 2, []), (252, 3, .iaload, []), (253, 1, .if_icmp .ne 18, [271]), (256, 2, .aload_n 0, []), (257, 3, .getfield 38, [13, 15]), (260, 2, .iload_n 1, []), (261, 3, .iaload, []), (262, 2, .aload_n 0, []), (263, 3, .getfield 38, [13, 15]), (266, 2, .iload_n 2, []), (267, 3, .iaload, []), (268, 1, .if_icmp .eq 5, [273]), (271, 0, .iconst 0, []), (272, 5, .ireturn, []), (273, 2, .aload_n 0, []), (274, 3, .getfield 38, [13, 15]), (277, 2, .iload_n 1, []), (278, 3, .iaload, []), (279, 0, .iconst 1, []), (280, 0, .isub, []), (281, 2, .istore_n 3, []), (282, 2, .iload_n 3, []), (283, 1, .ifCond .lt 33, [316]), (286, 2, .aload_n 0, []), (287, 2, .aload_n 0, []), (288, 3, .getfield 42, [13, 16]), (291, 2, .iload_n 1, []), (292, 0, .iconst 3, []), (293, 0, .imul, []), (294, 2, .iload_n 3, []), (295, 0, .iadd, []), (296, 3, .iaload, []), (297, 2, .aload_n 0, []), (298, 3, .getfield 42, [13, 16]), (301, 2, .iload_n 2, []), (302, 0, .iconst 3, []), (303, 0, .imul, []), (304, 2, .iload_n 3, []), (305, 0, .iadd, []), (306, 3, .iaload, []), (307, 4, .invokevirtual 253, [130, 3, 13]), (310, 2, .iinc 3 (-1), []), (313, 1, .goto (-31), [282]), (316, 1, .goto (-306), [10]), (319, 0, .iconst 1, []), (320, 5, .ireturn, [])]
/-- GoalDeskModel step ()Z -/
def gt_t133 : List (Nat × ai_I) := [(0, 2, .aload_n 0, []), (1, 3, .getfield 222, [13, 30]), (4, 0, .sipush 500, []), (7, 1, .if_icmp .ne 11, [18]), (10, 2, .aload_n 0, []), (11, 0, .iconst 3, []), (12, 3, .putfield 135, [13, 11]), (15, 1, .goto 13, [28]), (18, 2, .aload_n 0, []), (19, 0, .dup, []), (20, 3, .getfield 222, [13, 30]), (23, 0, .iconst 1, []), (24, 0, .iadd, []), (25, 3, .putfield 222, [13, 30]), (28, 2, .aload_n 0, []), (29, 3, .getfield 135, [13, 11]), (32, 1, .ifCond .ne 7, [39]), (35, 0, .iconst 1, []), (36, 1, .goto 4, [40]), (39, 0, .iconst 0, []), (40, 5, .ireturn, [])]
/-- GoalDeskModel value (I)I -/
def gt_t134 : List (Nat × ai_I) := [(0, 2, .iload_n 1, []), (1, 2, .istore_n 2, []), (2, 2, .iload_n 2, []), (3, 1, .ifCond .ge 28, [31]), (6, 2, .aload_n 0, []), (7, 3, .getfield 45, [13, 17]), (10, 0, .iconst (-1), []), (11, 2, .iload_n 2, []), (12, 0, .isub, []), (13, 3, .iaload, []), (14, 3, .ldc 193, [2147483647]), (16, 1, .if_icmp .eq 15, [31]), (19, 2, .aload_n 0, []), (20, 3, .getfield 45, [13, 17]), (23, 0, .iconst (-1), []), (24, 2, .iload_n 2, []), (25, 0, .isub, []), (26, 3, .iaload, []), (27, 2, .istore_n 2, []), (28, 1, .goto (-26), [2]), (31, 2, .iload_n 2, []), (32, 5, .ireturn, [])]
/-- GoalDeskModel tie (II)V -/
def gt_t135 : List (Nat × ai_I) := [(0, 2, .aload_n 0, []), (1, 2, .iload_n 1, []), (2, 0, .iconst 5, []), (3, 0, .imul, []), (4, 3, .ldc 193, [2147483647]), (6, 4, .invokevirtual 225, [136, 3, 13]), (9, 2, .aload_n 0, []), (10, 3, .getfield 45, [13, 17]), (13, 2, .iload_n 1, []), (14, 2, .iload_n 2, []), (15, 3, .iastore, []), (16, 2, .aload_n 0, []), (17, 0, .iconst 1, []), (18, 3, .putfield 228, [13, 39]), (21, 5, .return_, [])]
/-- GoalDeskModel change (II)V -/
def gt_t136 : List (Nat × ai_I) := [(0, 2, .aload_n 0, []), (1, 3, .getfield 69, [13, 41]), (4, 2, .aload_n 0, []), (5, 3, .getfield 219, [13, 32]), (8, 2, .iload_n 1, []), (9, 3, .iastore, []), (10, 2, .aload_n 0, []), (11, 3, .getfield 72, [13, 42]), (14, 2, .aload_n 0, []), (15, 3, .getfield 219, [13, 32]), (18, 2, .iload_n 2, []), (19, 3, .iastore, []), (20, 2, .aload_n 0, []), (21, 0, .dup, []), (22, 3, .getfield 219, [13, 32]), (25, 0, .iconst 1, []), (26, 0, .iadd, []), (27, 3, .putfield 219, [13, 32]), (30, 5, .return_, [])]
/-- GoalDeskModel follow (III)V -/
def gt_t137 : List (Nat × ai_I) := [(0, 2, .iload_n 2, []), (1, 1, .ifCond .ge 4, [5]), (4, 5, .return_, []), (5, 2, .aload_n 0, []), (6, 2, .iload_n 1, []), (7, 0, .iconst 5, []), (8, 0, .imul, []), (9, 0, .iconst 1, []), (10, 0, .iadd, []), (11, 2, .aload_n 0, []), (12, 3, .getfield 48, [13, 18]), (15, 2, .iload_n 1, []), (16, 3, .iaload, []), (17, 4, .invokevirtual 225, [136, 3, 13]), (20, 2, .aload_n 0, []), (21, 2, .iload_n 1, []), (22, 0, .iconst 5, []), (23, 0, .imul, []), (24, 0, .iconst 2, []), (25, 0, .iadd, []), (26, 2, .aload_n 0, []), (27, 3, .getfield 51, [13, 19]), (30, 2, .iload_n 1, []), (31, 3, .iaload, []), (32, 4, .invokevirtual 225, [136, 3, 13]), (35, 2, .aload_n 0, []), (36, 3, .getfield 48, [13, 18]), (39, 2, .iload_n 1, []), (40, 3, .iaload, []), (41, 1, .ifCond .ge 13, [54]), (44, 2, .aload_n 0, []), (45, 3, .getfield 48, [13, 18]), (48, 2, .iload_n 1, []), (49, 2, .iload_n 2, []), (50, 3, .iastore, []), (51, 1, .goto 40, [91]), (54, 2, .aload_n 0, []), (55, 2, .aload_n 0, []), (56, 3, .getfield 51, [13, 19]), (59, 2, .iload_n 1, []), (60, 3, .iaload, []), (61, 0, .iconst 5, []), (62, 0, .imul, []), (63, 0, .iconst 3, []), (64, 0, .iadd, []), (65, 2, .aload_n 0, []), (66, 3, .getfield 78, [13, 44]), (69, 2, .aload_n 0, []), (70, 3, .getfield 51, [13, 19]), (73, 2, .iload_n 1, []), (74, 3, .iaload, []), (75, 3, .iaload, []), (76, 4, .invokevirtual 225, [136, 3, 13]), (79, 2, .aload_n 0, []), (80, 3, .getfield 78, [13, 44]), (83, 2, .aload_n 0, []), (84, 3, .getfield 51, [13, 19]), (87, 2, .iload_n 1, []), (88, 3, .iaload, []), (89, 2, .iload_n 2, []), (90, 3, .iastore, []), (91, 2, .aload_n 0, []), (92, 3, .getfield 51, [13, 19]), (95, 2, .iload_n 1, []), (96, 2, .iload_n 3, []), (97, 3, .iastore, []), (98, 5, .return_, [])]
/-- GoalDeskModel test (II)I -/
def gt_t138 : List (Nat × ai_I) := [(0, 2, .aload_n 0, []), (1, 3, .getfield 219, [13, 32]), (4, 2, .istore_n 3, []), (5, 2, .aload_n 0, []), (6, 0, .iconst 1, []), (7, 3, .putfield 246, [13, 40]), (10, 2, .aload_n 0, []), (11, 0, .iconst 0, []), (12, 3, .putfield 231, [13, 36]), (15, 2, .aload_n 0, []), (16, 2, .iload_n 1, []), (17, 2, .iload_n 2, []), (18, 4, .invokevirtual 253, [130, 3, 13]), (21, 2, .aload_n 0, []), (22, 4, .invokevirtual 256, [132, 1, 13]), (25, 2, .istore 4, []), (27, 2, .aload_n 0, []), (28, 3, .getfield 228, [13, 39]), (31, 2, .istore 5, []), (33, 2, .aload_n 0, []), (34, 0, .iconst 0, []), (35, 3, .putfield 246, [13, 40]), (38, 2, .aload_n 0, []), (39, 2, .iload_n 3, []), (40, 4, .invokevirtual 259, [128, 2, 13]), (43, 2, .aload_n 0, []), (44, 3, .getfield 135, [13, 11]), (47, 1, .ifCond .le 5, [52]), (50, 0, .iconst 2, []), (51, 5, .ireturn, []), (52, 2, .iload 4, []), (54, 1, .ifCond .ne 7, [61]), (57, 0, .iconst 0, []), (58, 1, .goto 13, [71]), (61, 2, .iload 5, []), (63, 1, .ifCond .eq 7, [70]), (66, 0, .iconst 1, []), (67, 1, .goto 4, [71]), (70, 0, .iconst 2, []), (71, 5, .ireturn, [])]
/-- GoalDeskModel perform (I)Z -/
def gt_t139 : List (Nat × ai_I) := [(0, 2, .aload_n 0, []), (1, 3, .getfield 66, [13, 24]), (4, 2, .iload_n 1, []), (5, 3, .iaload, []), (6, 2, .istore_n 2, []), (7, 2, .aload_n 0, []), (8, 3, .getfield 57, [13, 21]), (11, 2, .iload_n 1, []), (12, 3, .iaload, []), (13, 2, .istore_n 3, []), (14, 2, .aload_n 0, []), (15, 3, .getfield 60, [13, 22]), (18, 2, .iload_n 1, []), (19, 3, .iaload, []), (20, 2, .istore 4, []), (22, 2, .aload_n 0, []), (23, 3, .getfield 54, [13, 20]), (26, 2, .iload_n 1, []), (27, 3, .iaload, []), (28, 1, .tableswitch 109 0 4 #[36, 66, 73, 91, 100], [137, 64, 94, 101, 119, 128]), (64, 2, .aload_n 0, []), (65, 3, .getfield 289, [13, 33]), (68, 2, .aload_n 0, []), (69, 3, .getfield 63, [13, 23]), (72, 2, .iload_n 1, []), (73, 3, .iaload, []), (74, 1, .if_icmp .le 13, [87]), (77, 2, .aload_n 0, []), (78, 2, .aload_n 0, []), (79, 3, .getfield 63, [13, 23]), (82, 2, .iload_n 1, []), (83, 3, .iaload, []), (84, 3, .putfield 289, [13, 33]), (87, 2, .aload_n 0, []), (88, 2, .iload_n 2, []), (89, 3, .putfield 270, [13, 29]), (92, 0, .iconst 1, []), (93, 5, .ireturn, []), (94, 2, .aload_n 0, []), (95, 2, .iload_n 3, []), (96, 2, .iload_n 2, []), (97, 4, .invokevirtual 299, [140, 3, 13]), (100, 5, .ireturn, []), (101, 2, .aload_n 0, []), (102, 0, .iconst 0, []), (103, 3, .putfield 231, [13, 36]), (106, 2, .aload_n 0, []), (107, 2, .iload_n 3, []), (108, 2, .iload 4, []), (110, 4, .invokevirtual 253, [130, 3, 13]), (113, 2, .aload_n 0, []), (114, 2, .iload_n 2, []), (115, 4, .invokevirtual 283, [131, 2, 13]), (118, 5, .ireturn, []), (119, 2, .aload_n 0, []), (120, 2, .iload_n 3, []), (121, 2, .iload 4, []), (123, 2, .iload_n 2, []), (124, 4, .invokevirtual 302, [141, 4, 13]), (127, 5, .ireturn, []), (128, 2, .aload_n 0, []), (129, 2, .iload_n 3, []), (130, 2, .iload 4, []), (132, 2, .iload_n 2, []), (133, 4, .invokevirtual 305, [142, 4, 13]), (136, 5, .ireturn, []), (137, 2, .aload_n 0, []), (138, 2, .iload_n 3, []), (139, 2, .iload 4, []), (141, 2, .iload_n 2, []), (142, 4, .invokevirtual 308, [143, 4, 13]), (145, 5, .ireturn, [])]
/-- GoalDeskModel call (II)Z -/
def gt_t140 : List (Nat × ai_I) := [(0, 2, .aload_n 0, []), (1, 0, .iconst 0, []), (2, 2, .iload_n 1, []), (3, 4, .invokevirtual 286, [126, 3, 13]), (6, 2, .istore_n 3, []), (7, 2, .aload_n 0, []), (8, 3, .getfield 289, [13, 33]), (11, 2, .istore 4, []), (13, 2, .iload_n 3, []), (14, 2, .aload_n 0, []), (15, 3, .getfield 171, [13, 8]), (18, 1, .if_icmp .ne 5, [23]), (21, 0, .iconst 0, []), (22, 5, .ireturn, []), (23, 2, .aload_n 0, []), (24, 2, .iload_n 3, []), (25, 0, .iconst 1, []), (26, 0, .iadd, []), (27, 2, .iload_n 1, []), (28, 4, .invokevirtual 286, [126, 3, 13]), (31, 2, .istore 5, []), (33, 2, .iload 5, []), (35, 2, .aload_n 0, []), (36, 3, .getfield 171, [13, 8]), (39, 1, .if_icmp .ge 122, [161]), (42, 2, .aload_n 0, []), (43, 3, .getfield 102, [13, 52]), (46, 2, .aload_n 0, []), (47, 3, .getfield 289, [13, 33]), (50, 2, .iload_n 1, []), (51, 3, .iastore, []), (52, 2, .aload_n 0, []), (53, 3, .getfield 105, [13, 53]), (56, 2, .aload_n 0, []), (57, 3, .getfield 289, [13, 33]), (60, 2, .iload 5, []), (62, 3, .iastore, []), (63, 2, .aload_n 0, []), (64, 3, .getfield 108, [13, 54]), (67, 2, .aload_n 0, []), (68, 3, .getfield 289, [13, 33]), (71, 2, .iload_n 2, []), (72, 3, .iastore, []), (73, 2, .aload_n 0, []), (74, 3, .getfield 111, [13, 55]), (77, 2, .aload_n 0, []), (78, 3, .getfield 289, [13, 33]), (81, 2, .aload_n 0, []), (82, 3, .getfield 196, [13, 25]), (85, 3, .iastore, []), (86, 2, .aload_n 0, []), (87, 3, .getfield 114, [13, 56]), (90, 2, .aload_n 0, []), (91, 3, .getfield 289, [13, 33]), (94, 2, .aload_n 0, []), (95, 3, .getfield 190, [13, 26]), (98, 3, .iastore, []), (99, 2, .aload_n 0, []), (100, 3, .getfield 117, [13, 57]), (103, 2, .aload_n 0, []), (104, 3, .getfield 289, [13, 33]), (107, 2, .aload_n 0, []), (108, 3, .getfield 209, [13, 28]), (111, 3, .iastore, []), (112, 2, .aload_n 0, []), (113, 3, .getfield 120, [13, 58]), (116, 2, .aload_n 0, []), (117, 3, .getfield 289, [13, 33]), (120, 2, .aload_n 0, []), (121, 3, .getfield 219, [13, 32]), (124, 3, .iastore, []), (125, 2, .aload_n 0, []), (126, 3, .getfield 123, [13, 59]), (129, 2, .aload_n 0, []), (130, 3, .getfield 289, [13, 33]), (133, 2, .aload_n 0, []), (134, 3, .getfield 292, [13, 34]), (137, 3, .iastore, []), (138, 2, .aload_n 0, []), (139, 3, .getfield 126, [13, 60]), (142, 2, .aload_n 0, []), (143, 3, .getfield 289, [13, 33]), (146, 2, .aload_n 0, []), (147, 3, .getfield 263, [13, 35]), (150, 3, .iastore, []), (151, 2, .aload_n 0, []), (152, 0, .dup, []), (153, 3, .getfield 289, [13, 33]), (156, 0, .iconst 1, []), (157, 0, .iadd, []), (158, 3, .putfield 289, [13, 33]), (161, 2, .aload_n 0, []), (162, 2, .iload_n 3, []), (163, 2, .iload_n 1, []), (164, 2, .iload_n 2, []), (165, 2, .iload 4, []), (167, 4, .invokevirtual 295, [129, 5, 13]), (170, 5, .ireturn, [])]
/-- GoalDeskModel apart (III)Z -/
def gt_t141 : List (Nat × ai_I) := [(0, 2, .aload_n 0, []), (1, 2, .iload_n 1, []), (2, 2, .iload_n 2, []), (3, 4, .invokevirtual 266, [138, 3, 13]), (6, 2, .istore 4, []), (8, 2, .iload 4, []), (10, 0, .iconst 2, []), (11, 1, .if_icmp .ne 5, [16]), (14, 0, .iconst 0, []), (15, 5, .ireturn, []), (16, 2, .aload_n 0, []), (17, 2, .iload_n 3, []), (18, 3, .putfield 270, [13, 29]), (21, 2, .iload 4, []), (23, 1, .ifCond .ne 5, [28]), (26, 0, .iconst 1, []), (27, 5, .ireturn, []), (28, 2, .aload_n 0, []), (29, 3, .getfield 81, [13, 45]), (32, 2, .aload_n 0, []), (33, 3, .getfield 263, [13, 35]), (36, 2, .iload_n 1, []), (37, 3, .iastore, []), (38, 2, .aload_n 0, []), (39, 3, .getfield 84, [13, 46]), (42, 2, .aload_n 0, []), (43, 3, .getfield 263, [13, 35]), (46, 2, .iload_n 2, []), (47, 3, .iastore, []), (48, 2, .aload_n 0, []), (49, 3, .getfield 87, [13, 47]), (52, 2, .aload_n 0, []), (53, 3, .getfield 263, [13, 35]), (56, 0, .iconst 0, []), (57, 3, .iastore, []), (58, 2, .aload_n 0, []), (59, 0, .dup, []), (60, 3, .getfield 263, [13, 35]), (63, 0, .iconst 1, []), (64, 0, .iadd, []), (65, 3, .putfield 263, [13, 35]), (68, 0, .iconst 1, []), (69, 5, .ireturn, [])]
/-- GoalDeskModel less (III)Z -/
def gt_t142 : List (Nat × ai_I) := [(0, 2, .aload_n 0, []), (1, 2, .iload_n 1, []), (2, 4, .invokevirtual 240, [134, 2, 13]), (5, 2, .istore 4, []), (7, 2, .aload_n 0, []), (8, 2, .iload_n 2, []), (9, 4, .invokevirtual 240, [134, 2, 13]), (12, 2, .istore 5, []), (14, 2, .aload_n 0, []), (15, 2, .iload_n 3, []), (16, 3, .putfield 270, [13, 29]), (19, 2, .iload 4, []), (21, 1, .ifCond .lt 42, [63]), (24, 2, .iload 5, []), (26, 1, .ifCond .lt 37, [63]), (29, 2, .aload_n 0, []), (30, 3, .getfield 35, [13, 14]), (33, 2, .iload 4, []), (35, 3, .iaload, []), (36, 0, .bipush 48, []), (38, 0, .bipush 57, []), (40, 4, .invokestatic 138, [105, 3, 0]), (43, 1, .ifCond .eq 20, [63]), (46, 2, .aload_n 0, []), (47, 3, .getfield 35, [13, 14]), (50, 2, .iload 5, []), (52, 3, .iaload, []), (53, 0, .bipush 48, []), (55, 0, .bipush 57, []), (57, 4, .invokestatic 138, [105, 3, 0]), (60, 1, .ifCond .ne 10, [70]), (63, 2, .aload_n 0, []), (64, 0, .iconst 4, []), (65, 3, .putfield 135, [13, 11]), (68, 0, .iconst 0, []), (69, 5, .ireturn, []), (70, 2, .aload_n 0, []), (71, 3, .getfield 35, [13, 14]), (74, 2, .iload 4, []), (76, 3, .iaload, []), (77, 2, .aload_n 0, []), (78, 3, .getfield 35, [13, 14]), (81, 2, .iload 5, []), (83, 3, .iaload, []), (84, 1, .if_icmp .ge 7, [91]), (87, 0, .iconst 1, []), (88, 1, .goto 4, [92]), (91, 0, .iconst 0, []), (92, 5, .ireturn, [])]
/-- GoalDeskModel sleep (III)Z -/
def gt_t143 : List (Nat × ai_I) := [(0, 2, .aload_n 0, []), (1, 2, .iload_n 1, []), (2, 4, .invokevirtual 240, [134, 2, 13]), (5, 2, .istore 4, []), (7, 2, .aload_n 0, []), (8, 2, .iload_n 3, []), (9, 3, .putfield 270, [13, 29]), (12, 2, .iload 4, []), (14, 1, .ifCond .lt 19, [33]), (17, 2, .aload_n 0, []), (18, 2, .aload_n 0, []), (19, 0, .iconst 1, []), (20, 2, .iload_n 2, []), (21, 0, .iconst 0, []), (22, 0, .iconst 0, []), (23, 2, .iload_n 3, []), (24, 4, .invokevirtual 212, [120, 6, 13]), (27, 3, .putfield 270, [13, 29]), (30, 1, .goto 53, [83]), (33, 2, .aload_n 0, []), (34, 3, .getfield 75, [13, 43]), (37, 2, .aload_n 0, []), (38, 3, .getfield 292, [13, 34]), (41, 2, .iload_n 2, []), (42, 3, .iastore, []), (43, 2, .aload_n 0, []), (44, 3, .getfield 78, [13, 44]), (47, 2, .aload_n 0, []), (48, 3, .getfield 292, [13, 34]), (51, 0, .iconst (-1), []), (52, 3, .iastore, []), (53, 2, .aload_n 0, []), (54, 0, .dup, []), (55, 3, .getfield 292, [13, 34]), (58, 0, .iconst 1, []), (59, 0, .iadd, []), (60, 3, .putfield 292, [13, 34]), (63, 2, .aload_n 0, []), (64, 0, .iconst (-1), []), (65, 2, .iload 4, []), (67, 0, .isub, []), (68, 2, .aload_n 0, []), (69, 3, .getfield 292, [13, 34]), (72, 0, .iconst 1, []), (73, 0, .isub, []), (74, 2, .aload_n 0, []), (75, 3, .getfield 292, [13, 34]), (78, 0, .iconst 1, []), (79, 0, .isub, []), (80, 4, .invokevirtual 249, [137, 4, 13]), (83, 0, .iconst 1, []), (84, 5, .ireturn, [])]
/-- GoalDeskModel next ()I -/
def gt_t144 : List (Nat × ai_I) := [(0, 2, .aload_n 0, []), (1, 0, .iconst 0, []), (2, 3, .putfield 135, [13, 11]), (5, 2, .aload_n 0, []), (6, 3, .getfield 177, [13, 38]), (9, 1, .ifCond .ne 9, [18]), (12, 2, .aload_n 0, []), (13, 0, .iconst 1, []), (14, 4, .invokevirtual 149, [107, 2, 13]), (17, 5, .ireturn, []), (18, 2, .aload_n 0, []), (19, 0, .iconst 1, []), (20, 4, .invokevirtual 320, [124, 2, 13]), (23, 2, .istore_n 1, []), (24, 2, .aload_n 0, []), (25, 3, .getfield 135, [13, 11]), (28, 1, .ifCond .le 13, [41]), (31, 2, .aload_n 0, []), (32, 0, .dup, []), (33, 3, .getfield 135, [13, 11]), (36, 0, .iconst 1, []), (37, 0, .isub, []), (38, 3, .putfield 135, [13, 11]), (41, 2, .iload_n 1, []), (42, 5, .ireturn, [])]
/-- GoalDeskModel letter (II)I -/
def gt_t145 : List (Nat × ai_I) := [(0, 2, .aload_n 0, []), (1, 2, .iload_n 1, []), (2, 0, .iconst 0, []), (3, 0, .bipush 25, []), (5, 4, .invokestatic 138, [105, 3, 0]), (8, 4, .invokevirtual 142, [106, 2, 13]), (11, 1, .ifCond .eq 5, [16]), (14, 0, .iconst 0, []), (15, 5, .ireturn, []), (16, 2, .aload_n 0, []), (17, 3, .getfield 177, [13, 38]), (20, 1, .ifCond .eq 12, [32]), (23, 2, .aload_n 0, []), (24, 3, .getfield 28, [13, 6]), (27, 2, .iload_n 1, []), (28, 3, .iaload, []), (29, 1, .ifCond .ge 9, [38]), (32, 2, .aload_n 0, []), (33, 0, .iconst 2, []), (34, 4, .invokevirtual 149, [107, 2, 13]), (37, 5, .ireturn, []), (38, 2, .aload_n 0, []), (39, 0, .iconst (-1), []), (40, 2, .aload_n 0, []), (41, 3, .getfield 28, [13, 6]), (44, 2, .iload_n 1, []), (45, 3, .iaload, []), (46, 0, .isub, []), (47, 4, .invokevirtual 333, [146, 2, 13]), (50, 2, .iload_n 2, []), (51, 0, .iconst (-1), []), (52, 1, .if_icmp .ne 8, [60]), (55, 2, .aload_n 0, []), (56, 3, .getfield 324, [13, 63]), (59, 5, .ireturn, []), (60, 2, .iload_n 2, []), (61, 0, .iconst 0, []), (62, 2, .aload_n 0, []), (63, 3, .getfield 324, [13, 63]), (66, 0, .iconst 1, []), (67, 0, .isub, []), (68, 4, .invokestatic 138, [105, 3, 0]), (71, 1, .ifCond .eq 12, [83]), (74, 2, .aload_n 0, []), (75, 3, .getfield 129, [13, 61]), (78, 2, .iload_n 2, []), (79, 3, .iaload, []), (80, 1, .goto 8, [88]), (83, 2, .aload_n 0, []), (84, 0, .iconst 2, []), (85, 4, .invokevirtual 149, [107, 2, 13]), (88, 5, .ireturn, [])]
/-- GoalDeskModel write (I)V -/
def gt_t146 : List (Nat × ai_I) := [(0, 0, .iconst 1, []), (1, 2, .istore_n 2, []), (2, 2, .aload_n 0, []), (3, 0, .iconst 0, []), (4, 3, .putfield 324, [13, 63]), (7, 2, .aload_n 0, []), (8, 3, .getfield 132, [13, 62]), (11, 0, .iconst 0, []), (12, 2, .iload_n 1, []), (13, 3, .iastore, []), (14, 2, .iload_n 2, []), (15, 1, .ifCond .le 164, [179]), (18, 2, .aload_n 0, []), (19, 3, .getfield 324, [13, 63]), (22, 0, .bipush 80, []), (24, 1, .if_icmp .ge 155, [179]), (27, 2, .iinc 2 (-1), []), (30, 2, .aload_n 0, []), (31, 3, .getfield 132, [13, 62]), (34, 2, .iload_n 2, []), (35, 3, .iaload, []), (36, 2, .istore_n 3, []), (37, 2, .iload_n 3, []), (38, 3, .ldc_w 327, [100000]), (41, 1, .if_icmp .lt 15, [56]), (44, 2, .aload_n 0, []), (45, 2, .iload_n 3, []), (46, 3, .ldc_w 327, [100000]), (49, 0, .isub, []), (50, 4, .invokevirtual 328, [147, 2, 13]), (53, 1, .goto (-39), [14]), (56, 2, .aload_n 0, []), (57, 2, .iload_n 3, []), (58, 4, .invokevirtual 240, [134, 2, 13]), (61, 2, .istore_n 3, []), (62, 2, .aload_n 0, []), (63, 2, .iload_n 3, []), (64, 1, .ifCond .ge 8, [72]), (67, 0, .bipush 95, []), (69, 1, .goto 9, [78]), (72, 2, .aload_n 0, []), (73, 3, .getfield 35, [13, 14]), (76, 2, .iload_n 3, []), (77, 3, .iaload, []), (78, 4, .invokevirtual 328, [147, 2, 13]), (81, 2, .iload_n 3, []), (82, 1, .ifCond .lt (-68), [14]), (85, 2, .aload_n 0, []), (86, 3, .getfield 38, [13, 15]), (89, 2, .iload_n 3, []), (90, 3, .iaload, []), (91, 1, .ifCond .ne 6, [97]), (94, 1, .goto (-80), [14]), (97, 2, .aload_n 0, []), (98, 0, .bipush 40, []), (100, 4, .invokevirtual 328, [147, 2, 13]), (103, 2, .aload_n 0, []), (104, 3, .getfield 132, [13, 62]), (107, 2, .iload_n 2, []), (108, 3, .ldc_w 331, [100041]), (111, 3, .iastore, []), (112, 2, .iinc 2 1, []), (115, 2, .aload_n 0, []), (116, 3, .getfield 38, [13, 15]), (119, 2, .iload_n 3, []), (120, 3, .iaload, []), (121, 0, .iconst 1, []), (122, 0, .isub, []), (123, 2, .istore 4, []), (125, 2, .iload 4, []), (127, 1, .ifCond .lt 49, [176]), (130, 2, .aload_n 0, []), (131, 3, .getfield 132, [13, 62]), (134, 2, .iload_n 2, []), (135, 2, .aload_n 0, []), (136, 3, .getfield 42, [13, 16]), (139, 2, .iload_n 3, []), (140, 0, .iconst 3, []), (141, 0, .imul, []), (142, 2, .iload 4, []), (144, 0, .iadd, []), (145, 3, .iaload, []), (146, 3, .iastore, []), (147, 2, .iinc 2 1, []), (150, 2, .iload 4, []), (152, 1, .ifCond .ne 6, [158]), (155, 1, .goto 15, [170]), (158, 2, .aload_n 0, []), (159, 3, .getfield 132, [13, 62]), (162, 2, .iload_n 2, []), (163, 3, .ldc_w 332, [100044]), (166, 3, .iastore, []), (167, 2, .iinc 2 1, []), (170, 2, .iinc 4 (-1), []), (173, 1, .goto (-48), [125]), (176, 1, .goto (-162), [14]), (179, 5, .return_, [])]
/-- GoalDeskModel put (I)V -/
def gt_t147 : List (Nat × ai_I) := [(0, 2, .aload_n 0, []), (1, 3, .getfield 324, [13, 63]), (4, 0, .bipush 80, []), (6, 1, .if_icmp .ne 4, [10]), (9, 5, .return_, []), (10, 2, .aload_n 0, []), (11, 3, .getfield 129, [13, 61]), (14, 2, .aload_n 0, []), (15, 3, .getfield 324, [13, 63]), (18, 2, .iload_n 1, []), (19, 3, .iastore, []), (20, 2, .aload_n 0, []), (21, 0, .dup, []), (22, 3, .getfield 324, [13, 63]), (25, 0, .iconst 1, []), (26, 0, .iadd, []), (27, 3, .putfield 324, [13, 63]), (30, 5, .return_, [])]
/-- GoalDeskModel sleeping (I)I -/
def gt_t148 : List (Nat × ai_I) := [(0, 2, .aload_n 0, []), (1, 2, .iload_n 1, []), (2, 0, .iconst 0, []), (3, 0, .bipush 25, []), (5, 4, .invokestatic 138, [105, 3, 0]), (8, 4, .invokevirtual 142, [106, 2, 13]), (11, 1, .ifCond .eq 5, [16]), (14, 0, .iconst 0, []), (15, 5, .ireturn, []), (16, 2, .aload_n 0, []), (17, 3, .getfield 177, [13, 38]), (20, 1, .ifCond .eq 12, [32]), (23, 2, .aload_n 0, []), (24, 3, .getfield 28, [13, 6]), (27, 2, .iload_n 1, []), (28, 3, .iaload, []), (29, 1, .ifCond .ge 5, [34]), (32, 0, .iconst (-1), []), (33, 5, .ireturn, []), (34, 2, .aload_n 0, []), (35, 0, .iconst (-1), []), (36, 2, .aload_n 0, []), (37, 3, .getfield 28, [13, 6]), (40, 2, .iload_n 1, []), (41, 3, .iaload, []), (42, 0, .isub, []), (43, 4, .invokevirtual 240, [134, 2, 13]), (46, 2, .istore_n 2, []), (47, 0, .iconst 0, []), (48, 2, .istore_n 3, []), (49, 2, .iload_n 2, []), (50, 1, .ifCond .ge 14, [64]), (53, 2, .aload_n 0, []), (54, 3, .getfield 48, [13, 18]), (57, 0, .iconst (-1), []), (58, 2, .iload_n 2, []), (59, 0, .isub, []), (60, 3, .iaload, []), (61, 1, .goto 4, [65]), (64, 0, .iconst (-1), []), (65, 2, .istore 4, []), (67, 2, .iload 4, []), (69, 1, .ifCond .lt 18, [87]), (72, 2, .iinc 3 1, []), (75, 2, .aload_n 0, []), (76, 3, .getfield 78, [13, 44]), (79, 2, .iload 4, []), (81, 3, .iaload, []), (82, 2, .istore 4, []), (84, 1, .goto (-17), [67]), (87, 2, .iload_n 3, []), (88, 5, .ireturn, [])]
/-- GoalDeskModel count (I)I -/
def gt_t149 : List (Nat × ai_I) := [(0, 2, .aload_n 0, []), (1, 0, .iconst 0, []), (2, 3, .putfield 135, [13, 11]), (5, 0, .iconst 0, []), (6, 2, .istore_n 2, []), (7, 0, .iconst 0, []), (8, 2, .istore_n 3, []), (9, 2, .iload_n 3, []), (10, 2, .aload_n 0, []), (11, 3, .getfield 263, [13, 35]), (14, 1, .if_icmp .ge 21, [35]), (17, 2, .aload_n 0, []), (18, 3, .getfield 87, [13, 47]), (21, 2, .iload_n 3, []), (22, 3, .iaload, []), (23, 1, .ifCond .ne 6, [29]), (26, 2, .iinc 2 1, []), (29, 2, .iinc 3 1, []), (32, 1, .goto (-23), [9]), (35, 2, .iload_n 1, []), (36, 1, .ifCond .ne 8, [44]), (39, 2, .aload_n 0, []), (40, 3, .getfield 31, [13, 9]), (43, 5, .ireturn, []), (44, 2, .iload_n 1, []), (45, 0, .iconst 1, []), (46, 1, .if_icmp .ne 8, [54]), (49, 2, .aload_n 0, []), (50, 3, .getfield 146, [13, 7]), (53, 5, .ireturn, []), (54, 2, .iload_n 1, []), (55, 0, .iconst 2, []), (56, 1, .if_icmp .ne 8, [64]), (59, 2, .aload_n 0, []), (60, 3, .getfield 171, [13, 8]), (63, 5, .ireturn, []), (64, 2, .iload_n 1, []), (65, 0, .iconst 3, []), (66, 0, .bipush 6, []), (68, 4, .invokestatic 138, [105, 3, 0]), (71, 1, .ifCond .ne 5, [76]), (74, 0, .iconst (-1), []), (75, 5, .ireturn, []), (76, 2, .aload_n 0, []), (77, 3, .getfield 177, [13, 38]), (80, 1, .ifCond .ne 5, [85]), (83, 0, .iconst 0, []), (84, 5, .ireturn, []), (85, 2, .iload_n 1, []), (86, 0, .iconst 3, []), (87, 1, .if_icmp .ne 10, [97]), (90, 2, .aload_n 0, []), (91, 3, .getfield 317, [13, 31]), (94, 1, .goto 28, [122]), (97, 2, .iload_n 1, []), (98, 0, .iconst 4, []), (99, 1, .if_icmp .ne 10, [109]), (102, 2, .aload_n 0, []), (103, 3, .getfield 289, [13, 33]), (106, 1, .goto 16, [122]), (109, 2, .iload_n 1, []), (110, 0, .iconst 5, []), (111, 1, .if_icmp .ne 7, [118]), (114, 2, .iload_n 2, []), (115, 1, .goto 7, [122]), (118, 2, .aload_n 0, []), (119, 3, .getfield 194, [13, 27]), (122, 5, .ireturn, [])]
/-- GoalDeskLaw law ([I)Z -/
def gt_t150 : List (Nat × ai_I) := [(0, 3, .new 8, [0, 93]), (3, 0, .dup, []), (4, 4, .invokespecial 43, [0, 1, 0]), (7, 2, .astore_n 1, []), (8, 3, .new 44, [13, 94]), (11, 0, .dup, []), (12, 4, .invokespecial 46, [102, 1, 0]), (15, 2, .astore_n 2, []), (16, 0, .iconst 1, []), (17, 3, .newarray .long, [3, 95]), (19, 2, .astore_n 3, []), (20, 0, .iconst 0, []), (21, 2, .istore 4, []), (23, 2, .iload 4, []), (25, 2, .aload_n 0, []), (26, 3, .arraylength, []), (27, 0, .iconst 3, []), (28, 0, .isub, []), (29, 1, .if_icmp .gt 466, [495]), (32, 2, .aload_n 0, []), (33, 2, .iload 4, []), (35, 3, .iaload, []), (36, 0, .bipush 7, []), (38, 0, .iand, []), (39, 1, .tableswitch 450 0 7 #[45, 133, 177, 213, 257, 301, 369, 425], [489, 84, 172, 216, 252, 296, 340, 408, 464]), (84, 2, .aload_n 1, []), (85, 2, .aload_n 0, []), (86, 2, .iload 4, []), (88, 0, .iconst 1, []), (89, 0, .iadd, []), (90, 3, .iaload, []), (91, 0, .i2l, []), (92, 0, .bipush 32, []), (94, 0, .lshl, []), (95, 2, .aload_n 0, []), (96, 2, .iload 4, []), (98, 0, .iconst 2, []), (99, 0, .iadd, []), (100, 3, .iaload, []), (101, 0, .i2l, []), (102, 3, .ldc2_w 47, [4294967295]), (105, 0, .land, []), (106, 0, .lor, []), (107, 2, .aload_n 3, []), (108, 4, .invokestatic 49, [15, 3, 0]), (111, 2, .istore 5, []), (113, 2, .aload_n 2, []), (114, 2, .aload_n 0, []), (115, 2, .iload 4, []), (117, 0, .iconst 1, []), (118, 0, .iadd, []), (119, 3, .iaload, []), (120, 0, .i2l, []), (121, 0, .bipush 32, []), (123, 0, .lshl, []), (124, 2, .aload_n 0, []), (125, 2, .iload 4, []), (127, 0, .iconst 2, []), (128, 0, .iadd, []), (129, 3, .iaload, []), (130, 0, .i2l, []), (131, 3, .ldc2_w 47, [4294967295]), (134, 0, .land, []), (135, 0, .lor, []), (136, 4, .invokevirtual 54, [104, 2, 13]), (139, 2, .istore 6, []), (141, 2, .aload_n 2, []), (142, 4, .invokevirtual 55, [103, 1, 13]), (145, 2, .iload 5, []), (147, 1, .if_icmp .eq 5, [152]), (150, 0, .iconst 0, []), (151, 5, .ireturn, []), (152, 2, .iload 5, []), (154, 1, .ifCond .ne 15, [169]), (157, 2, .aload_n 3, []), (158, 0, .iconst 0, []), (159, 3, .laload, []), (160, 2, .iload 6, []), (162, 0, .i2l, []), (163, 0, .lcmp, []), (164, 1, .ifCond .eq 5, [169]), (167, 0, .iconst 0, []), (168, 5, .ireturn, []), (169, 1, .goto 320, [489]), (172, 2, .aload_n 1, []), (173, 2, .aload_n 3, []), (174, 4, .invokestatic 58, [17, 2, 0]), (177, 2, .istore 5, []), (179, 2, .aload_n 2, []), (180, 4, .invokevirtual 61, [108, 1, 13]), (183, 2, .istore 6, []), (185, 2, .aload_n 2, []), (186, 4, .invokevirtual 55, [103, 1, 13]), (189, 2, .iload 5, []), (191, 1, .if_icmp .eq 5, [196]), (194, 0, .iconst 0, []), (195, 5, .ireturn, []), (196, 2, .iload 5, []), (198, 1, .ifCond .ne 15, [213]), (201, 2, .aload_n 3, []), (202, 0, .iconst 0, []), (203, 3, .laload, []), (204, 2, .iload 6, []), (206, 0, .i2l, []), (207, 0, .lcmp, []), (208, 1, .ifCond .eq 5, [213]), (211, 0, .iconst 0, []), (212, 5, .ireturn, []), (213, 1, .goto 276, [489]), (216, 2, .aload_n 1, []), (217, 2, .aload_n 0, []), (218, 2, .iload 4, []), (220, 0, .iconst 1, []), (221, 0, .iadd, []), (222, 3, .iaload, []), (223, 4, .invokestatic 62, [33, 2, 0]), (226, 2, .istore 5, []), (228, 2, .aload_n 2, []), (229, 2, .aload_n 0, []), (230, 2, .iload 4, []), (232, 0, .iconst 1, []), (233, 0, .iadd, []), (234, 3, .iaload, []), (235, 4, .invokevirtual 65, [114, 2, 13]), (238, 2, .aload_n 2, []), (239, 4, .invokevirtual 55, [103, 1, 13]), (242, 2, .iload 5, []), (244, 1, .if_icmp .eq 5, [249]), (247, 0, .iconst 0, []), (248, 5, .ireturn, []), (249, 1, .goto 240, [489]), (252, 2, .aload_n 1, []), (253, 2, .aload_n 3, []), (254, 4, .invokestatic 66, [35, 2, 0]), (257, 2, .istore 5, []), (259, 2, .aload_n 2, []), (260, 4, .invokevirtual 68, [115, 1, 13]), (263, 2, .istore 6, []), (265, 2, .aload_n 2, []), (266, 4, .invokevirtual 55, [103, 1, 13]), (269, 2, .iload 5, []), (271, 1, .if_icmp .eq 5, [276]), (274, 0, .iconst 0, []), (275, 5, .ireturn, []), (276, 2, .iload 5, []), (278, 1, .ifCond .ne 15, [293]), (281, 2, .aload_n 3, []), (282, 0, .iconst 0, []), (283, 3, .laload, []), (284, 2, .iload 6, []), (286, 0, .i2l, []), (287, 0, .lcmp, []), (288, 1, .ifCond .eq 5, [293]), (291, 0, .iconst 0, []), (292, 5, .ireturn, []), (293, 1, .goto 196, [489]), (296, 2, .aload_n 1, []), (297, 2, .aload_n 3, []), (298, 4, .invokestatic 69, [92, 2, 0]), (301, 2, .istore 5, []), (303, 2, .aload_n 2, []), (304, 4, .invokevirtual 71, [144, 1, 13]), (307, 2, .istore 6, []), (309, 2, .aload_n 2, []), (310, 4, .invokevirtual 55, [103, 1, 13]), (313, 2, .iload 5, []), (315, 1, .if_icmp .eq 5, [320]), (318, 0, .iconst 0, []), (319, 5, .ireturn, []), (320, 2, .iload 5, []), (322, 1, .ifCond .ne 15, [337]), (325, 2, .aload_n 3, []), (326, 0, .iconst 0, []), (327, 3, .laload, []), (328, 2, .iload 6, []), (330, 0, .i2l, []), (331, 0, .lcmp, []), (332, 1, .ifCond .eq 5, [337]), (335, 0, .iconst 0, []), (336, 5, .ireturn, []), (337, 1, .goto 152, [489]), (340, 2, .aload_n 1, []), (341, 2, .aload_n 0, []), (342, 2, .iload 4, []), (344, 0, .iconst 1, []), (345, 0, .iadd, []), (346, 3, .iaload, []), (347, 2, .aload_n 0, []), (348, 2, .iload 4, []), (350, 0, .iconst 2, []), (351, 0, .iadd, []), (352, 3, .iaload, []), (353, 2, .aload_n 3, []), (354, 4, .invokestatic 72, [94, 4, 0]), (357, 2, .istore 5, []), (359, 2, .aload_n 2, []), (360, 2, .aload_n 0, []), (361, 2, .iload 4, []), (363, 0, .iconst 1, []), (364, 0, .iadd, []), (365, 3, .iaload, []), (366, 2, .aload_n 0, []), (367, 2, .iload 4, []), (369, 0, .iconst 2, []), (370, 0, .iadd, []), (371, 3, .iaload, []), (372, 4, .invokevirtual 75, [145, 3, 13]), (375, 2, .istore 6, []), (377, 2, .aload_n 2, []), (378, 4, .invokevirtual 55, [103, 1, 13]), (381, 2, .iload 5, []), (383, 1, .if_icmp .eq 5, [388]), (386, 0, .iconst 0, []), (387, 5, .ireturn, []), (388, 2, .iload 5, []), (390, 1, .ifCond .ne 15, [405]), (393, 2, .aload_n 3, []), (394, 0, .iconst 0, []), (395, 3, .laload, []), (396, 2, .iload 6, []), (398, 0, .i2l, []), (399, 0, .lcmp, []), (400, 1, .ifCond .eq 5, [405]), (403, 0, .iconst 0, []), (404, 5, .ireturn, []), (405, 1, .goto 84, [489]), (408, 2, .aload_n 1, []), (409, 2, .aload_n 0, []), (410, 2, .iload 4, []), (412, 0, .iconst 1, []), (413, 0, .iadd, []), (414, 3, .iaload, []), (415, 2, .aload_n 3, []), (416, 4, .invokestatic 76, [99, 3, 0]), (419, 2, .istore 5, []), (421, 2, .aload_n 2, []), (422, 2, .aload_n 0, []), (423, 2, .iload 4, []), (425, 0, .iconst 1, []), (426, 0, .iadd, []), (427, 3, .iaload, []), (428, 4, .invokevirtual 79, [148, 2, 13]), (431, 2, .istore 6, []), (433, 2, .aload_n 2, []), (434, 4, .invokevirtual 55, [103, 1, 13]), (437, 2, .iload 5, []), (439, 1, .if_icmp .eq 5, [444]), (442, 0, .iconst 0, []), (443, 5, .ireturn, []), (444, 2, .iload 5, []), (446, 1, .ifCond .ne 15, [461]), (449, 2, .aload_n 3, []), (450, 0, .iconst 0, []), (451, 3, .laload, []), (452, 2, .iload 6, []), (454, 0, .i2l, []), (455, 0, .lcmp, []), (456, 1, .ifCond .eq 5, [461]), (459, 0, .iconst 0, []), (460, 5, .ireturn, []), (461, 1, .goto 28, [489]), (464, 2, .aload_n 1, []), (465, 2, .aload_n 0, []), (466, 2, .iload 4, []), (468, 0, .iconst 1, []), (469, 0, .iadd, []), (470, 3, .iaload, []), (471, 4, .invokevirtual 80, [13, 2, 0]), (474, 2, .aload_n 2, []), (475, 2, .aload_n 0, []), (476, 2, .iload 4, []), (478, 0, .iconst 1, []), (479, 0, .iadd, []), (480, 3, .iaload, []), (481, 4, .invokevirtual 83, [149, 2, 13]), (484, 1, .if_icmp .eq 5, [489]), (487, 0, .iconst 0, []), (488, 5, .ireturn, []), (489, 2, .iinc 4 3, []), (492, 1, .goto (-469), [23]), (495, 0, .iconst 1, []), (496, 5, .ireturn, [])]
def gt_tabs : List (List (Nat × ai_I)) := [gt_t0, gt_t1, gt_t2, gt_t3, gt_t4, gt_t5, gt_t6, gt_t7, gt_t8, gt_t9, gt_t10, gt_t11, gt_t12, gt_t13, gt_t14, gt_t15, gt_t16, gt_t17, gt_t18, gt_t19, gt_t20, gt_t21, gt_t22, gt_t23, gt_t24, gt_t25, gt_t26, gt_t27, gt_t28, gt_t29, gt_t30, gt_t31, gt_t32, gt_t33, gt_t34, gt_t35, gt_t36, gt_t37, gt_t38, gt_t39, gt_t40, gt_t41, gt_t42, gt_t43, gt_t44, gt_t45, gt_t46, gt_t47, gt_t48, gt_t49, gt_t50, gt_t51, gt_t52, gt_t53, gt_t54, gt_t55, gt_t56, gt_t57, gt_t58, gt_t59, gt_t60, gt_t61, gt_t62, gt_t63, gt_t64, gt_t65, gt_t66, gt_t67, gt_t68, gt_t69, gt_t70, gt_t71, gt_t72, gt_t73, gt_t74, gt_t75, gt_t76, gt_t77, gt_t78, gt_t79, gt_t80, gt_t81, gt_t82, gt_t83, gt_t84, gt_t85, gt_t86, gt_t87, gt_t88, gt_t89, gt_t90, gt_t91, gt_t92, gt_t93, gt_t94, gt_t95, gt_t96, gt_t97, gt_t98, gt_t99, gt_t100, gt_t101, gt_t102, gt_t103, gt_t104, gt_t105, gt_t106, gt_t107, gt_t108, gt_t109, gt_t110, gt_t111, gt_t112, gt_t113, gt_t114, gt_t115, gt_t116, gt_t117, gt_t118, gt_t119, gt_t120, gt_t121, gt_t122, gt_t123, gt_t124, gt_t125, gt_t126, gt_t127, gt_t128, gt_t129, gt_t130, gt_t131, gt_t132, gt_t133, gt_t134, gt_t135, gt_t136, gt_t137, gt_t138, gt_t139, gt_t140, gt_t141, gt_t142, gt_t143, gt_t144, gt_t145, gt_t146, gt_t147, gt_t148, gt_t149, gt_t150]
def gt_met : List (Nat × Option FieldType) := [(4, none), (1, none), (2, none), (2, none), (2, none), (5, none), (1, none), (1, none), (1, none), (1, none), (4, none), (3, none), (3, none), (2, (Option.some FieldType.int)), (3, (Option.some FieldType.int)), (5, (Option.some FieldType.int)), (6, (Option.some FieldType.int)), (3, (Option.some FieldType.int)), (2, (Option.some FieldType.int)), (4, (Option.some FieldType.boolean)), (4, none), (1, (Option.some FieldType.char)), (1, (Option.some FieldType.boolean)), (4, (Option.some FieldType.boolean)), (1, (Option.some FieldType.boolean)), (1, (Option.some FieldType.boolean)), (4, (Option.some FieldType.boolean)), (2, (Option.some FieldType.boolean)), (2, (Option.some FieldType.boolean)), (5, (Option.some FieldType.boolean)), (4, none), (2, none), (4, none), (3, (Option.some FieldType.int)), (4, none), (3, (Option.some FieldType.int)), (2, (Option.some FieldType.int)), (4, (Option.some FieldType.boolean)), (4, none), (1, none), (1, none), (4, (Option.some FieldType.int)), (3, (Option.some (FieldType.array FieldType.int))), (6, none), (3, (Option.some FieldType.int)), (6, none), (1, (Option.some FieldType.int)), (1, none), (2, (Option.some FieldType.boolean)), (4, none), (1, (Option.some (FieldType.array (FieldType.object "java/lang/Object")))), (4, (Option.some (FieldType.array (FieldType.object "java/lang/Object")))), (4, (Option.some FieldType.int)), (3, (Option.some FieldType.int)), (2, (Option.some (FieldType.array (FieldType.object "java/lang/Object")))), (4, (Option.some (FieldType.array (FieldType.object "java/lang/Object")))), (2, (Option.some (FieldType.object "java/lang/Object"))), (2, (Option.some FieldType.int)), (3, (Option.some FieldType.int)), (2, (Option.some (FieldType.object "java/lang/Object"))), (6, (Option.some FieldType.boolean)), (1, none), (2, (Option.some FieldType.boolean)), (1, none), (5, (Option.some FieldType.boolean)), (5, (Option.some FieldType.int)), (2, (Option.some FieldType.char)), (2, (Option.some FieldType.int)), (4, none), (1, none), (4, none), (4, none), (4, (Option.some FieldType.int)), (3, none), (3, none), (4, (Option.some FieldType.int)), (2, (Option.some FieldType.int)), (3, (Option.some FieldType.boolean)), (3, none), (4, none), (4, none), (4, none), (3, none), (5, none), (4, none), (3, (Option.some FieldType.boolean)), (6, (Option.some FieldType.boolean)), (3, none), (3, none), (6, (Option.some FieldType.boolean)), (2, none), (2, none), (3, (Option.some FieldType.int)), (1, (Option.some FieldType.int)), (5, (Option.some FieldType.int)), (4, (Option.some FieldType.int)), (2, (Option.some FieldType.int)), (6, none), (2, none), (4, (Option.some FieldType.int)), (2, (Option.some FieldType.int)), (5, (Option.some FieldType.int)), (1, none), (1, (Option.some FieldType.int)), (7, (Option.some FieldType.int)), (3, (Option.some FieldType.boolean)), (2, (Option.some FieldType.boolean)), (2, (Option.some FieldType.int)), (3, (Option.some FieldType.int)), (1, (Option.some FieldType.boolean)), (6, (Option.some FieldType.boolean)), (1, (Option.some FieldType.int)), (2, (Option.some FieldType.boolean)), (3, (Option.some FieldType.boolean)), (4, none), (4, (Option.some FieldType.int)), (3, none), (2, (Option.some FieldType.int)), (9, (Option.some FieldType.int)), (2, (Option.some FieldType.int)), (6, (Option.some FieldType.int)), (4, (Option.some FieldType.int)), (2, (Option.some FieldType.int)), (4, none), (3, (Option.some FieldType.int)), (5, (Option.some FieldType.boolean)), (4, (Option.some FieldType.int)), (7, (Option.some FieldType.boolean)), (5, none), (8, (Option.some FieldType.boolean)), (3, none), (5, (Option.some FieldType.boolean)), (7, (Option.some FieldType.boolean)), (1, (Option.some FieldType.boolean)), (3, (Option.some FieldType.int)), (3, none), (3, none), (4, none), (6, (Option.some FieldType.int)), (5, (Option.some FieldType.boolean)), (6, (Option.some FieldType.boolean)), (5, (Option.some FieldType.boolean)), (6, (Option.some FieldType.boolean)), (5, (Option.some FieldType.boolean)), (2, (Option.some FieldType.int)), (3, (Option.some FieldType.int)), (5, none), (2, none), (5, (Option.some FieldType.int)), (4, (Option.some FieldType.int)), (7, some .boolean)]
def gt_wr : List Nat := [15, 17, 33, 35, 92, 94, 99]
def gt_hl : List (Nat × Nat × Nat × Nat) := [(15, 4, 0, 12), (15, 4, 1, 16), (17, 3, 0, 11), (17, 3, 1, 14), (33, 2, 0, 8), (35, 3, 0, 11), (35, 3, 2, 14), (35, 3, 1, 17), (35, 3, 3, 20), (92, 3, 2, 11), (92, 3, 1, 14), (92, 3, 3, 17), (94, 5, 0, 13), (94, 5, 2, 17), (99, 4, 0, 12)]
def gt_hf : List (Nat × Nat × Nat × Nat) → Nat → Nat → Nat → Option (Option Nat)
  | [], _, _, _ => none
  | q :: t, mi, pc, x => if Nat.beq q.1 mi && (Nat.beq q.2.1 pc && Nat.beq q.2.2.1 x) then some (some q.2.2.2) else gt_hf t mi pc x
def gt_hnd (mi pc x : Nat) : Option (Option Nat) := if gt_wr.contains mi then gt_hf gt_hl mi pc x else some none
def gt_P : ai_P := (fun mi pc => ai_find2 (gt_tabs.getD mi []) pc, gt_hnd, fun mi => gt_met.getD mi (0, none), gt_dfl, gt_tyL, gt_tyF, gt_asg)
def gt_Ml : List (MethodName × ByteArray × List (Nat × Nat × Nat × Nat)) := [(⟨"GoalDesk", "<init>", "()V"⟩, prog_1_method_1_code, []), (⟨"GoalDesk$Terms", "<init>", "()V"⟩, prog_9_method_1_code, []), (⟨"GoalDesk$Variables", "<init>", "(LGoalDesk$Terms;)V"⟩, prog_11_method_1_code, []), (⟨"GoalDesk$Clause", "<init>", "(I)V"⟩, prog_4_method_1_code, []), (⟨"GoalDesk$Reader", "<init>", "(LGoalDesk$Terms;)V"⟩, prog_6_method_1_code, []), (⟨"GoalDesk$Search", "<init>", "(LGoalDesk$Terms;LGoalDesk$Variables;)V"⟩, prog_7_method_1_code, []), (⟨"java/util/ArrayList", "<init>", "()V"⟩, prog_28_method_2_code, []), (⟨"java/util/AbstractList", "<init>", "()V"⟩, prog_27_method_1_code, []), (⟨"java/util/AbstractCollection", "<init>", "()V"⟩, prog_26_method_1_code, []), (⟨"GoalDesk$Steps", "<init>", "()V"⟩, prog_8_method_1_code, []), (⟨"GoalDesk$Pairs", "<init>", "(LGoalDesk$Terms;LGoalDesk$Variables;LGoalDesk$Steps;)V"⟩, prog_5_method_1_code, []), (⟨"GoalDesk$Aparts", "<init>", "(LGoalDesk$Variables;LGoalDesk$Pairs;)V"⟩, prog_2_method_1_code, []), (⟨"GoalDesk$Writer", "<init>", "(LGoalDesk$Terms;LGoalDesk$Variables;)V"⟩, prog_12_method_1_code, []), (⟨"GoalDesk", "count", "(I)I"⟩, prog_1_method_9_code, []), (⟨"GoalDesk$Aparts", "waitingNow", "()I"⟩, prog_2_method_7_code, []), (⟨"GoalDeskLaw", "type", "(LGoalDesk;J[J)I"⟩, method_3_code, [(0, 9, 12, 13), (0, 9, 16, 15)]), (⟨"GoalDesk", "type", "(J)I"⟩, prog_1_method_2_code, []), (⟨"GoalDeskLaw", "add", "(LGoalDesk;[J)I"⟩, method_4_code, [(0, 8, 11, 13), (0, 8, 14, 15)]), (⟨"GoalDesk", "add", "()I"⟩, prog_1_method_3_code, []), (⟨"GoalDesk$Reader", "readClause", "([CILGoalDesk$Clause;)Z"⟩, prog_6_method_2_code, []), (⟨"GoalDesk$Reader", "begin", "([CILGoalDesk$Clause;)V"⟩, prog_6_method_4_code, []), (⟨"GoalDesk$Reader", "here", "()C"⟩, prog_6_method_5_code, []), (⟨"GoalDesk", "isSmall", "(C)Z"⟩, prog_1_method_12_code, []), (⟨"GoalDesk$Reader", "readTerm", "(I)Z"⟩, prog_6_method_9_code, []), (⟨"GoalDesk", "isVariable", "(C)Z"⟩, prog_1_method_10_code, []), (⟨"GoalDesk", "isDigit", "(C)Z"⟩, prog_1_method_11_code, []), (⟨"GoalDesk$Reader", "readArguments", "(II)Z"⟩, prog_6_method_10_code, []), (⟨"GoalDesk$Reader", "skip", "(C)Z"⟩, prog_6_method_6_code, []), (⟨"GoalDesk$Reader", "readGoals", "()Z"⟩, prog_6_method_7_code, []), (⟨"GoalDesk$Reader", "readGoal", "()Z"⟩, prog_6_method_8_code, []), (⟨"GoalDesk$Clause", "putGoal", "(CII)V"⟩, prog_4_method_2_code, []), (⟨"GoalDesk$Reader", "rankVariables", "()V"⟩, prog_6_method_11_code, []), (⟨"java/util/Arrays", "fill", "([II)V"⟩, prog_29_method_103_code, []), (⟨"GoalDeskLaw", "drop", "(LGoalDesk;I)I"⟩, method_5_code, [(0, 5, 8, 13)]), (⟨"GoalDesk", "drop", "(I)V"⟩, prog_1_method_4_code, []), (⟨"GoalDeskLaw", "ask", "(LGoalDesk;[J)I"⟩, method_6_code, [(0, 8, 11, 13), (0, 8, 14, 28), (0, 8, 17, 15), (0, 8, 20, 30)]), (⟨"GoalDesk", "ask", "()I"⟩, prog_1_method_5_code, []), (⟨"GoalDesk$Reader", "readQuestion", "([CILGoalDesk$Clause;)Z"⟩, prog_6_method_3_code, []), (⟨"GoalDesk$Search", "begin", "(LGoalDesk$Clause;[LGoalDesk$Clause;I)V"⟩, prog_7_method_2_code, []), (⟨"GoalDesk$Variables", "clear", "()V"⟩, prog_11_method_2_code, []), (⟨"GoalDesk$Aparts", "clear", "()V"⟩, prog_2_method_2_code, []), (⟨"GoalDesk$Variables", "make", "(I)I"⟩, prog_11_method_3_code, []), (⟨"java/util/Arrays", "copyOf", "([II)[I"⟩, prog_29_method_123_code, []), (⟨"GoalDesk$Search", "putBodyInFront", "(LGoalDesk$Clause;II)V"⟩, prog_7_method_13_code, []), (⟨"GoalDesk$Terms", "termOf", "(II)I"⟩, prog_9_method_2_code, []), (⟨"GoalDesk$Search", "putGoalInFront", "(CIII)V"⟩, prog_7_method_14_code, []), (⟨"java/util/ArrayList", "size", "()I"⟩, prog_28_method_8_code, []), (⟨"GoalDesk$ToDo", "<init>", "()V"⟩, prog_10_method_1_code, []), (⟨"java/util/ArrayList", "add", "(Ljava/lang/Object;)Z"⟩, prog_28_method_25_code, []), (⟨"java/util/ArrayList", "add", "(Ljava/lang/Object;[Ljava/lang/Object;I)V"⟩, prog_28_method_24_code, []), (⟨"java/util/ArrayList", "grow", "()[Ljava/lang/Object;"⟩, prog_28_method_7_code, []), (⟨"java/util/ArrayList", "grow", "(I)[Ljava/lang/Object;"⟩, prog_28_method_6_code, []), (⟨"jdk/internal/util/ArraysSupport", "newLength", "(III)I"⟩, prog_36_method_27_code, []), (⟨"jdk/internal/util/ArraysSupport", "hugeLength", "(II)I"⟩, prog_36_method_28_code, []), (⟨"java/util/Arrays", "copyOf", "([Ljava/lang/Object;I)[Ljava/lang/Object;"⟩, prog_29_method_119_code, []), (⟨"java/util/Arrays", "copyOf", "([Ljava/lang/Object;ILjava/lang/Class;)[Ljava/lang/Object;"⟩, prog_29_method_120_code, []), (⟨"java/util/ArrayList", "get", "(I)Ljava/lang/Object;"⟩, prog_28_method_20_code, []), (⟨"java/util/Objects", "checkIndex", "(II)I"⟩, prog_33_method_17_code, []), (⟨"jdk/internal/util/Preconditions", "checkIndex", "(IILjava/util/function/BiFunction;)I"⟩, prog_37_method_11_code, []), (⟨"java/util/ArrayList", "elementData", "(I)Ljava/lang/Object;"⟩, prog_28_method_18_code, []), (⟨"GoalDesk$Search", "seek", "(Z)Z"⟩, prog_7_method_3_code, []), (⟨"GoalDesk$Pairs", "clear", "()V"⟩, prog_5_method_2_code, []), (⟨"GoalDesk$Search", "doFirst", "(LGoalDesk$ToDo;)Z"⟩, prog_7_method_4_code, []), (⟨"GoalDesk$Steps", "takeOne", "()V"⟩, prog_8_method_2_code, []), (⟨"GoalDesk$Search", "beginCall", "(I)Z"⟩, prog_7_method_7_code, []), (⟨"GoalDesk$Search", "findClause", "(II)I"⟩, prog_7_method_8_code, []), (⟨"GoalDesk$Terms", "letterOf", "(I)C"⟩, prog_9_method_3_code, []), (⟨"GoalDesk$Terms", "arityOf", "(I)I"⟩, prog_9_method_4_code, []), (⟨"GoalDesk$Search", "leaveChoice", "(II)V"⟩, prog_7_method_9_code, []), (⟨"GoalDesk$Choice", "<init>", "()V"⟩, prog_3_method_1_code, []), (⟨"GoalDesk$Search", "takeClause", "(III)V"⟩, prog_7_method_11_code, []), (⟨"GoalDesk$Pairs", "putArguments", "(II)V"⟩, prog_5_method_4_code, []), (⟨"GoalDesk$Terms", "argumentOf", "(II)I"⟩, prog_9_method_5_code, []), (⟨"GoalDesk$Pairs", "put", "(II)V"⟩, prog_5_method_3_code, []), (⟨"GoalDesk$Aparts", "putNewest", "(II)V"⟩, prog_2_method_3_code, []), (⟨"GoalDesk$Variables", "valueOf", "(I)I"⟩, prog_11_method_4_code, []), (⟨"GoalDesk$Terms", "variableOf", "(I)I"⟩, prog_9_method_6_code, []), (⟨"GoalDesk$Search", "isLess", "(II)Z"⟩, prog_7_method_5_code, []), (⟨"GoalDesk$Search", "sleepOn", "(II)V"⟩, prog_7_method_6_code, []), (⟨"GoalDesk$Variables", "putToSleep", "(II)V"⟩, prog_11_method_7_code, []), (⟨"GoalDesk$Variables", "linkBehind", "(III)V"⟩, prog_11_method_8_code, []), (⟨"GoalDesk$Search", "goBack", "(LGoalDesk$Choice;)V"⟩, prog_7_method_10_code, []), (⟨"GoalDesk$Variables", "free", "(I)V"⟩, prog_11_method_6_code, []), (⟨"GoalDesk$Variables", "unlink", "(II)V"⟩, prog_11_method_9_code, []), (⟨"GoalDesk$Aparts", "goBack", "(II)V"⟩, prog_2_method_6_code, []), (⟨"GoalDesk$Pairs", "makeSame", "(Z)Z"⟩, prog_5_method_5_code, []), (⟨"GoalDesk$Pairs", "makePairSame", "(IIZ)Z"⟩, prog_5_method_6_code, []), (⟨"GoalDesk$Variables", "bind", "(II)V"⟩, prog_11_method_5_code, []), (⟨"GoalDesk$Pairs", "wake", "(I)V"⟩, prog_5_method_7_code, []), (⟨"GoalDesk$Aparts", "hold", "(I)Z"⟩, prog_2_method_4_code, []), (⟨"GoalDesk$Aparts", "settle", "(I)V"⟩, prog_2_method_5_code, []), (⟨"GoalDesk$Search", "putInFront", "()V"⟩, prog_7_method_12_code, []), (⟨"GoalDeskLaw", "next", "(LGoalDesk;[J)I"⟩, method_7_code, [(0, 8, 11, 28), (0, 8, 14, 15), (0, 8, 17, 30)]), (⟨"GoalDesk", "next", "()I"⟩, prog_1_method_6_code, []), (⟨"GoalDeskLaw", "letter", "(LGoalDesk;II[J)I"⟩, method_8_code, [(0, 10, 13, 13), (0, 10, 17, 28)]), (⟨"GoalDesk", "letter", "(II)I"⟩, prog_1_method_7_code, []), (⟨"GoalDesk$Writer", "write", "(I)I"⟩, prog_12_method_2_code, []), (⟨"GoalDesk$Writer", "writeTerm", "(II)V"⟩, prog_12_method_4_code, []), (⟨"GoalDesk$Writer", "put", "(C)V"⟩, prog_12_method_3_code, []), (⟨"GoalDeskLaw", "sleeping", "(LGoalDesk;I[J)I"⟩, method_9_code, [(0, 9, 12, 13)]), (⟨"GoalDesk", "sleeping", "(I)I"⟩, prog_1_method_8_code, []), (⟨"GoalDesk$Variables", "asleepOn", "(I)I"⟩, prog_11_method_10_code, []), (⟨"GoalDeskModel", "<init>", "()V"⟩, prog_14_method_1_code, []), (⟨"GoalDeskModel", "thrown", "()I"⟩, prog_14_method_2_code, []), (⟨"GoalDeskModel", "type", "(J)I"⟩, prog_14_method_6_code, []), (⟨"GoalDeskModel", "in", "(III)Z"⟩, prog_14_method_3_code, []), (⟨"GoalDeskModel", "bad", "(Z)Z"⟩, prog_14_method_4_code, []), (⟨"GoalDeskModel", "fail", "(I)I"⟩, prog_14_method_5_code, []), (⟨"GoalDeskModel", "add", "()I"⟩, prog_14_method_12_code, []), (⟨"GoalDeskModel", "readClause", "()Z"⟩, prog_14_method_11_code, []), (⟨"GoalDeskModel", "readTerm", "(Z)Z"⟩, prog_14_method_9_code, []), (⟨"GoalDeskModel", "look", "()I"⟩, prog_14_method_7_code, []), (⟨"GoalDeskModel", "passes", "(I)Z"⟩, prog_14_method_8_code, []), (⟨"GoalDeskModel", "readGoals", "()Z"⟩, prog_14_method_10_code, []), (⟨"GoalDeskModel", "drop", "(I)V"⟩, prog_14_method_13_code, []), (⟨"GoalDeskModel", "ask", "()I"⟩, prog_14_method_42_code, []), (⟨"GoalDeskModel", "number", "()V"⟩, prog_14_method_15_code, []), (⟨"GoalDeskModel", "born", "()I"⟩, prog_14_method_16_code, []), (⟨"GoalDeskModel", "buildGoals", "(II)I"⟩, prog_14_method_21_code, []), (⟨"GoalDeskModel", "at", "(I)I"⟩, prog_14_method_14_code, []), (⟨"GoalDeskModel", "goal", "(IIIII)I"⟩, prog_14_method_20_code, []), (⟨"GoalDeskModel", "build", "()I"⟩, prog_14_method_18_code, []), (⟨"GoalDeskModel", "cell", "(I)I"⟩, prog_14_method_17_code, []), (⟨"GoalDeskModel", "hang", "(II)V"⟩, prog_14_method_19_code, []), (⟨"GoalDeskModel", "seek", "(Z)I"⟩, prog_14_method_41_code, []), (⟨"GoalDeskModel", "back", "()Z"⟩, prog_14_method_36_code, []), (⟨"GoalDeskModel", "nextFit", "(II)I"⟩, prog_14_method_33_code, []), (⟨"GoalDeskModel", "fits", "(II)Z"⟩, prog_14_method_32_code, []), (⟨"GoalDeskModel", "undo", "(I)V"⟩, prog_14_method_23_code, []), (⟨"GoalDeskModel", "take", "(IIII)Z"⟩, prog_14_method_34_code, []), (⟨"GoalDeskModel", "pair", "(II)V"⟩, prog_14_method_28_code, []), (⟨"GoalDeskModel", "unify", "(I)Z"⟩, prog_14_method_31_code, []), (⟨"GoalDeskModel", "same", "()Z"⟩, prog_14_method_29_code, []), (⟨"GoalDeskModel", "step", "()Z"⟩, prog_14_method_25_code, []), (⟨"GoalDeskModel", "value", "(I)I"⟩, prog_14_method_24_code, []), (⟨"GoalDeskModel", "tie", "(II)V"⟩, prog_14_method_26_code, []), (⟨"GoalDeskModel", "change", "(II)V"⟩, prog_14_method_22_code, []), (⟨"GoalDeskModel", "follow", "(III)V"⟩, prog_14_method_27_code, []), (⟨"GoalDeskModel", "test", "(II)I"⟩, prog_14_method_30_code, []), (⟨"GoalDeskModel", "perform", "(I)Z"⟩, prog_14_method_40_code, []), (⟨"GoalDeskModel", "call", "(II)Z"⟩, prog_14_method_35_code, []), (⟨"GoalDeskModel", "apart", "(III)Z"⟩, prog_14_method_37_code, []), (⟨"GoalDeskModel", "less", "(III)Z"⟩, prog_14_method_38_code, []), (⟨"GoalDeskModel", "sleep", "(III)Z"⟩, prog_14_method_39_code, []), (⟨"GoalDeskModel", "next", "()I"⟩, prog_14_method_43_code, []), (⟨"GoalDeskModel", "letter", "(II)I"⟩, prog_14_method_46_code, []), (⟨"GoalDeskModel", "write", "(I)V"⟩, prog_14_method_45_code, []), (⟨"GoalDeskModel", "put", "(I)V"⟩, prog_14_method_44_code, []), (⟨"GoalDeskModel", "sleeping", "(I)I"⟩, prog_14_method_47_code, []), (⟨"GoalDeskModel", "count", "(I)I"⟩, prog_14_method_48_code, [])]
def gt_M : ai_M := fun mi => gt_Ml[mi]?
def gt_X : List Cond := [.not (.castable "java/lang/IllegalStateException" "java/lang/IllegalArgumentException"), .not (.castable "java/util/NoSuchElementException" "java/lang/IllegalArgumentException"), .not (.castable "java/lang/IllegalStateException" "java/util/NoSuchElementException"), .not (.castable "java/lang/UnsupportedOperationException" "java/lang/IllegalArgumentException"), .not (.castable "java/lang/UnsupportedOperationException" "java/util/NoSuchElementException"), .not (.castable "java/lang/UnsupportedOperationException" "java/lang/IllegalStateException")]
def gt_Ts : List Cond := lw_tbl.filter ai_good ++ gt_X
def gt_w (i : Nat) (w : Cond) : Bool := decide (lw_tbl[i]? = some w) && ai_good w
theorem gt_w_in {i : Nat} {w : Cond} (h : gt_w i w = true) : w ∈ gt_Ts := by
  simp only [gt_w, Bool.and_eq_true] at h
  exact List.mem_append_left _ (List.mem_filter.mpr ⟨List.mem_of_getElem? (of_decide_eq_true h.1), h.2⟩)
theorem gt_X_in {w : Cond} (h : gt_X.contains w = true) : w ∈ gt_Ts := List.mem_append_right _ (by simpa using h)
end
section
/-! The links behind the rows. -/
def gt_ff : List (Nat × Nat × Nat × Nat × Nat × String × String × Nat) := [(0, 22, 0, 3, 469, "GoalDesk", "", 0), (0, 17, 0, 2, 468, "GoalDesk", "", 0), (0, 13, 0, 1, 467, "GoalDesk", "", 0), (0, 26, 0, 4, 470, "GoalDesk", "", 0), (0, 29, 0, 6, 472, "GoalDesk", "", 0), (0, 60, 0, 8, 474, "GoalDesk", "", 0), (0, 125, 5, 12, 409, "GoalDesk$Search", "GoalDesk", 0), (0, 128, 5, 11, 407, "GoalDesk$Search", "GoalDesk", 0), (0, 131, 5, 4, 399, "GoalDesk$Search", "GoalDesk", 0), (0, 118, 5, 1, 394, "GoalDesk$Search", "GoalDesk", 0), (0, 141, 2, 5, 175, "GoalDesk$Variables", "GoalDesk", 0), (1, 22, 9, 5, 369, "GoalDesk$Aparts", "", 0), (1, 18, 9, 4, 368, "GoalDesk$Aparts", "", 0), (0, 9, 0, 0, 466, "GoalDesk", "", 0), (0, 51, 0, 7, 473, "GoalDesk", "", 0), (0, 81, 4, 3, 267, "GoalDesk$Reader", "GoalDesk", 0), (5, 15, 4, 3, 266, "GoalDesk$Reader", "", 0), (5, 9, 4, 2, 265, "GoalDesk$Reader", "", 0), (5, 52, 4, 4, 268, "GoalDesk$Reader", "", 0), (5, 48, 4, 1, 264, "GoalDesk$Reader", "", 0), (5, 68, 3, 0, 226, "GoalDesk$Clause", "GoalDesk", 0), (5, 18, 4, 0, 263, "GoalDesk$Reader", "", 0), (5, 77, 1, 0, 142, "GoalDesk$Terms", "GoalDesk", 0), (5, 82, 1, 1, 144, "GoalDesk$Terms", "GoalDesk", 0), (5, 90, 1, 2, 146, "GoalDesk$Terms", "GoalDesk", 0), (3, 22, 3, 4, 233, "GoalDesk$Clause", "", 0), (3, 9, 3, 1, 227, "GoalDesk$Clause", "", 0), (3, 15, 3, 2, 229, "GoalDesk$Clause", "", 0), (3, 19, 3, 3, 231, "GoalDesk$Clause", "", 0), (5, 93, 3, 5, 238, "GoalDesk$Clause", "GoalDesk", 0), (5, 102, 3, 6, 241, "GoalDesk$Clause", "GoalDesk", 0), (5, 105, 1, 3, 148, "GoalDesk$Terms", "GoalDesk", 0), (0, 44, 0, 5, 471, "GoalDesk", "", 0), (0, 98, 5, 2, 396, "GoalDesk$Search", "GoalDesk", 0), (0, 102, 7, 0, 320, "GoalDesk$Steps", "GoalDesk", 0), (6, 52, 5, 1, 393, "GoalDesk$Search", "", 0), (6, 69, 5, 4, 398, "GoalDesk$Search", "", 0), (6, 56, 5, 2, 395, "GoalDesk$Search", "", 0), (6, 90, 3, 6, 240, "GoalDesk$Clause", "GoalDesk", 0), (10, 21, 2, 4, 172, "GoalDesk$Variables", "", 0), (10, 9, 2, 1, 167, "GoalDesk$Variables", "", 0), (10, 15, 2, 2, 168, "GoalDesk$Variables", "", 0), (10, 18, 2, 3, 170, "GoalDesk$Variables", "", 0), (10, 25, 2, 5, 174, "GoalDesk$Variables", "", 0), (6, 277, 3, 4, 235, "GoalDesk$Clause", "GoalDesk", 0), (6, 48, 5, 0, 392, "GoalDesk$Search", "", 0), (6, 280, 3, 2, 230, "GoalDesk$Clause", "GoalDesk", 0), (6, 282, 3, 1, 228, "GoalDesk$Clause", "GoalDesk", 0), (6, 285, 3, 3, 232, "GoalDesk$Clause", "GoalDesk", 0), (6, 22, 5, 8, 403, "GoalDesk$Search", "", 0), (6, 18, 5, 7, 402, "GoalDesk$Search", "", 0), (6, 86, 5, 9, 404, "GoalDesk$Search", "", 0), (16, 48, 6, 1, 301, "java/util/ArrayList", "", 0), (16, 63, 6, 2, 303, "java/util/ArrayList", "", 304), (16, 9, 6, 0, 300, "java/util/ArrayList", "", 0), (6, 31, 5, 12, 408, "GoalDesk$Search", "", 0), (6, 28, 5, 11, 406, "GoalDesk$Search", "", 0), (6, 60, 5, 3, 397, "GoalDesk$Search", "", 0), (6, 107, 9, 5, 370, "GoalDesk$Aparts", "GoalDesk", 0), (6, 25, 5, 10, 405, "GoalDesk$Search", "", 0), (6, 124, 2, 7, 178, "GoalDesk$Variables", "GoalDesk", 0), (6, 141, 11, 4, 731, "GoalDesk$ToDo", "GoalDesk", 0), (6, 146, 11, 0, 727, "GoalDesk$ToDo", "GoalDesk", 0), (6, 150, 11, 3, 730, "GoalDesk$ToDo", "GoalDesk", 0), (6, 159, 11, 1, 728, "GoalDesk$ToDo", "GoalDesk", 0), (6, 165, 11, 2, 729, "GoalDesk$ToDo", "GoalDesk", 0), (7, 9, 7, 0, 318, "GoalDesk$Steps", "", 0), (6, 9, 5, 6, 401, "GoalDesk$Search", "", 0), (6, 73, 5, 5, 400, "GoalDesk$Search", "", 0), (6, 215, 3, 0, 225, "GoalDesk$Clause", "GoalDesk", 0), (8, 9, 1, 0, 141, "GoalDesk$Terms", "", 0), (8, 15, 1, 1, 143, "GoalDesk$Terms", "", 0), (6, 238, 2, 4, 173, "GoalDesk$Variables", "GoalDesk", 0), (6, 241, 2, 10, 185, "GoalDesk$Variables", "GoalDesk", 0), (6, 245, 2, 13, 189, "GoalDesk$Variables", "GoalDesk", 0), (6, 251, 9, 7, 373, "GoalDesk$Aparts", "GoalDesk", 0), (6, 104, 5, 13, 410, "GoalDesk$Search", "", 0), (6, 34, 5, 14, 411, "GoalDesk$Search", "", 0), (4, 28, 8, 0, 330, "GoalDesk$Pairs", "", 0), (8, 19, 1, 2, 145, "GoalDesk$Terms", "", 0), (4, 18, 8, 5, 335, "GoalDesk$Pairs", "", 0), (4, 11, 8, 3, 333, "GoalDesk$Pairs", "", 0), (4, 15, 8, 4, 334, "GoalDesk$Pairs", "", 0), (1, 9, 9, 2, 366, "GoalDesk$Aparts", "", 0), (1, 15, 9, 3, 367, "GoalDesk$Aparts", "", 0), (10, 52, 2, 0, 166, "GoalDesk$Variables", "", 0), (8, 22, 1, 3, 147, "GoalDesk$Terms", "", 0), (10, 40, 2, 10, 184, "GoalDesk$Variables", "", 0), (10, 34, 2, 8, 180, "GoalDesk$Variables", "", 0), (10, 37, 2, 9, 182, "GoalDesk$Variables", "", 0), (10, 49, 2, 13, 188, "GoalDesk$Variables", "", 0), (10, 43, 2, 11, 186, "GoalDesk$Variables", "", 0), (10, 46, 2, 12, 187, "GoalDesk$Variables", "", 0), (6, 236, 12, 2, 864, "GoalDesk$Choice", "GoalDesk", 0), (6, 237, 12, 3, 865, "GoalDesk$Choice", "GoalDesk", 0), (6, 240, 12, 5, 867, "GoalDesk$Choice", "GoalDesk", 0), (6, 244, 12, 6, 868, "GoalDesk$Choice", "GoalDesk", 0), (6, 248, 12, 7, 869, "GoalDesk$Choice", "GoalDesk", 0), (6, 239, 12, 4, 866, "GoalDesk$Choice", "GoalDesk", 0), (6, 249, 12, 8, 870, "GoalDesk$Choice", "GoalDesk", 0), (6, 254, 12, 9, 871, "GoalDesk$Choice", "GoalDesk", 0), (6, 233, 12, 1, 863, "GoalDesk$Choice", "GoalDesk", 0), (6, 230, 12, 0, 862, "GoalDesk$Choice", "GoalDesk", 0), (10, 31, 2, 7, 177, "GoalDesk$Variables", "", 0), (10, 28, 2, 6, 176, "GoalDesk$Variables", "", 0), (1, 29, 9, 7, 372, "GoalDesk$Aparts", "", 0), (1, 26, 9, 6, 371, "GoalDesk$Aparts", "", 0), (4, 36, 8, 2, 332, "GoalDesk$Pairs", "", 0), (4, 32, 8, 1, 331, "GoalDesk$Pairs", "", 0), (4, 86, 2, 2, 169, "GoalDesk$Variables", "GoalDesk", 0), (4, 89, 2, 3, 171, "GoalDesk$Variables", "GoalDesk", 0), (4, 25, 8, 7, 339, "GoalDesk$Pairs", "", 0), (4, 22, 8, 6, 337, "GoalDesk$Pairs", "", 0), (4, 100, 2, 8, 181, "GoalDesk$Variables", "GoalDesk", 0), (4, 103, 2, 9, 183, "GoalDesk$Variables", "GoalDesk", 0), (1, 32, 9, 0, 364, "GoalDesk$Aparts", "", 0), (1, 40, 2, 7, 179, "GoalDesk$Variables", "GoalDesk", 0), (1, 36, 9, 1, 365, "GoalDesk$Aparts", "", 0), (6, 37, 5, 15, 412, "GoalDesk$Search", "", 0), (6, 270, 8, 7, 340, "GoalDesk$Pairs", "GoalDesk", 0), (6, 273, 8, 6, 338, "GoalDesk$Pairs", "GoalDesk", 0), (0, 107, 3, 5, 237, "GoalDesk$Clause", "GoalDesk", 0), (0, 67, 0, 9, 475, "GoalDesk", "", 0), (0, 115, 10, 2, 455, "GoalDesk$Writer", "GoalDesk", 0), (11, 15, 10, 3, 456, "GoalDesk$Writer", "", 0), (11, 23, 10, 1, 453, "GoalDesk$Writer", "", 0), (11, 19, 10, 0, 452, "GoalDesk$Writer", "", 0), (11, 9, 10, 2, 454, "GoalDesk$Writer", "", 0), (13, 135, 13, 11, 1086, "GoalDeskModel", "", 0), (13, 146, 13, 7, 1082, "GoalDeskModel", "", 0), (13, 7, 13, 0, 1075, "GoalDeskModel", "", 0), (13, 171, 13, 8, 1083, "GoalDeskModel", "", 0), (13, 153, 13, 10, 1085, "GoalDeskModel", "", 0), (13, 13, 13, 1, 1076, "GoalDeskModel", "", 0), (13, 16, 13, 2, 1077, "GoalDeskModel", "", 0), (13, 22, 13, 4, 1079, "GoalDeskModel", "", 0), (13, 28, 13, 6, 1081, "GoalDeskModel", "", 0), (13, 25, 13, 5, 1080, "GoalDeskModel", "", 0), (13, 184, 13, 12, 1087, "GoalDeskModel", "", 0), (13, 181, 13, 13, 1088, "GoalDeskModel", "", 0), (13, 190, 13, 26, 1101, "GoalDeskModel", "", 0), (13, 45, 13, 17, 1092, "GoalDeskModel", "", 0), (13, 48, 13, 18, 1093, "GoalDeskModel", "", 0), (13, 51, 13, 19, 1094, "GoalDeskModel", "", 0), (13, 194, 13, 27, 1102, "GoalDeskModel", "", 0), (13, 66, 13, 24, 1099, "GoalDeskModel", "", 0), (13, 54, 13, 20, 1095, "GoalDeskModel", "", 0), (13, 209, 13, 28, 1103, "GoalDeskModel", "", 0), (13, 57, 13, 21, 1096, "GoalDeskModel", "", 0), (13, 60, 13, 22, 1097, "GoalDeskModel", "", 0), (13, 63, 13, 23, 1098, "GoalDeskModel", "", 0), (13, 19, 13, 3, 1078, "GoalDeskModel", "", 0), (13, 35, 13, 14, 1089, "GoalDeskModel", "", 0), (13, 196, 13, 25, 1100, "GoalDeskModel", "", 0), (13, 38, 13, 15, 1090, "GoalDeskModel", "", 0), (13, 42, 13, 16, 1091, "GoalDeskModel", "", 0), (13, 270, 13, 29, 1104, "GoalDeskModel", "", 0), (13, 317, 13, 31, 1106, "GoalDeskModel", "", 0), (13, 222, 13, 30, 1105, "GoalDeskModel", "", 0), (13, 289, 13, 33, 1108, "GoalDeskModel", "", 0), (13, 105, 13, 53, 1128, "GoalDeskModel", "", 0), (13, 102, 13, 52, 1127, "GoalDeskModel", "", 0), (13, 120, 13, 58, 1133, "GoalDeskModel", "", 0), (13, 111, 13, 55, 1130, "GoalDeskModel", "", 0), (13, 114, 13, 56, 1131, "GoalDeskModel", "", 0), (13, 117, 13, 57, 1132, "GoalDeskModel", "", 0), (13, 123, 13, 59, 1134, "GoalDeskModel", "", 0), (13, 126, 13, 60, 1135, "GoalDeskModel", "", 0), (13, 108, 13, 54, 1129, "GoalDeskModel", "", 0), (13, 219, 13, 32, 1107, "GoalDeskModel", "", 0), (13, 69, 13, 41, 1116, "GoalDeskModel", "", 0), (13, 72, 13, 42, 1117, "GoalDeskModel", "", 0), (13, 78, 13, 44, 1119, "GoalDeskModel", "", 0), (13, 87, 13, 47, 1122, "GoalDeskModel", "", 0), (13, 90, 13, 48, 1123, "GoalDeskModel", "", 0), (13, 231, 13, 36, 1111, "GoalDeskModel", "", 0), (13, 93, 13, 49, 1124, "GoalDeskModel", "", 0), (13, 234, 13, 37, 1112, "GoalDeskModel", "", 0), (13, 96, 13, 50, 1125, "GoalDeskModel", "", 0), (13, 99, 13, 51, 1126, "GoalDeskModel", "", 0), (13, 75, 13, 43, 1118, "GoalDeskModel", "", 0), (13, 228, 13, 39, 1114, "GoalDeskModel", "", 0), (13, 263, 13, 35, 1110, "GoalDeskModel", "", 0), (13, 81, 13, 45, 1120, "GoalDeskModel", "", 0), (13, 84, 13, 46, 1121, "GoalDeskModel", "", 0), (13, 246, 13, 40, 1115, "GoalDeskModel", "", 0), (13, 292, 13, 34, 1109, "GoalDeskModel", "", 0), (13, 177, 13, 38, 1113, "GoalDeskModel", "", 0), (13, 324, 13, 63, 1138, "GoalDeskModel", "", 0), (13, 129, 13, 61, 1136, "GoalDeskModel", "", 0), (13, 132, 13, 62, 1137, "GoalDeskModel", "", 0), (13, 31, 13, 9, 1084, "GoalDeskModel", "", 0)]
def gt_pp : List (Nat × Nat × Nat × Nat × Nat × String × String × Nat) := [(0, 13, 0, 1, 467, "GoalDesk", "", 0), (0, 17, 0, 2, 468, "GoalDesk", "", 0), (0, 26, 0, 4, 470, "GoalDesk", "", 0), (0, 29, 0, 6, 472, "GoalDesk", "", 0), (10, 9, 2, 1, 167, "GoalDesk$Variables", "", 0), (10, 15, 2, 2, 168, "GoalDesk$Variables", "", 0), (10, 18, 2, 3, 170, "GoalDesk$Variables", "", 0), (10, 21, 2, 4, 172, "GoalDesk$Variables", "", 0), (10, 25, 2, 5, 174, "GoalDesk$Variables", "", 0), (10, 31, 2, 7, 177, "GoalDesk$Variables", "", 0), (10, 40, 2, 10, 184, "GoalDesk$Variables", "", 0), (10, 49, 2, 13, 188, "GoalDesk$Variables", "", 0), (3, 22, 3, 4, 233, "GoalDesk$Clause", "", 0), (3, 29, 3, 6, 239, "GoalDesk$Clause", "", 0), (5, 9, 4, 2, 265, "GoalDesk$Reader", "", 0), (5, 15, 4, 3, 266, "GoalDesk$Reader", "", 0), (6, 9, 5, 6, 401, "GoalDesk$Search", "", 0), (6, 22, 5, 8, 403, "GoalDesk$Search", "", 0), (6, 28, 5, 11, 406, "GoalDesk$Search", "", 0), (6, 31, 5, 12, 408, "GoalDesk$Search", "", 0), (6, 34, 5, 14, 411, "GoalDesk$Search", "", 0), (6, 37, 5, 15, 412, "GoalDesk$Search", "", 0), (16, 9, 6, 0, 300, "java/util/ArrayList", "", 0), (15, 7, 6, 2, 302, "java/util/AbstractList", "", 0), (7, 9, 7, 0, 318, "GoalDesk$Steps", "", 0), (4, 18, 8, 5, 335, "GoalDesk$Pairs", "", 0), (4, 25, 8, 7, 339, "GoalDesk$Pairs", "", 0), (1, 22, 9, 5, 369, "GoalDesk$Aparts", "", 0), (1, 29, 9, 7, 372, "GoalDesk$Aparts", "", 0), (11, 15, 10, 3, 456, "GoalDesk$Writer", "", 0), (5, 48, 4, 1, 264, "GoalDesk$Reader", "", 0), (5, 52, 4, 4, 268, "GoalDesk$Reader", "", 0), (5, 56, 3, 4, 234, "GoalDesk$Clause", "GoalDesk", 0), (5, 102, 3, 6, 241, "GoalDesk$Clause", "GoalDesk", 0), (6, 73, 5, 5, 400, "GoalDesk$Search", "", 0), (6, 83, 7, 0, 319, "GoalDesk$Steps", "GoalDesk", 0), (6, 86, 5, 9, 404, "GoalDesk$Search", "", 0), (6, 146, 11, 0, 727, "GoalDesk$ToDo", "GoalDesk", 0), (6, 159, 11, 1, 728, "GoalDesk$ToDo", "GoalDesk", 0), (6, 165, 11, 2, 729, "GoalDesk$ToDo", "GoalDesk", 0), (6, 150, 11, 3, 730, "GoalDesk$ToDo", "GoalDesk", 0), (6, 141, 11, 4, 731, "GoalDesk$ToDo", "GoalDesk", 0), (16, 63, 6, 2, 303, "java/util/ArrayList", "", 304), (16, 48, 6, 1, 301, "java/util/ArrayList", "", 0), (6, 104, 5, 13, 410, "GoalDesk$Search", "", 0), (6, 230, 12, 0, 862, "GoalDesk$Choice", "GoalDesk", 0), (6, 233, 12, 1, 863, "GoalDesk$Choice", "GoalDesk", 0), (6, 236, 12, 2, 864, "GoalDesk$Choice", "GoalDesk", 0), (6, 237, 12, 3, 865, "GoalDesk$Choice", "GoalDesk", 0), (6, 239, 12, 4, 866, "GoalDesk$Choice", "GoalDesk", 0), (6, 240, 12, 5, 867, "GoalDesk$Choice", "GoalDesk", 0), (6, 244, 12, 6, 868, "GoalDesk$Choice", "GoalDesk", 0), (6, 248, 12, 7, 869, "GoalDesk$Choice", "GoalDesk", 0), (6, 249, 12, 8, 870, "GoalDesk$Choice", "GoalDesk", 0), (6, 254, 12, 9, 871, "GoalDesk$Choice", "GoalDesk", 0), (6, 238, 2, 4, 173, "GoalDesk$Variables", "GoalDesk", 0), (1, 45, 8, 5, 336, "GoalDesk$Pairs", "GoalDesk", 0), (13, 31, 13, 9, 1084, "GoalDeskModel", "", 0), (13, 146, 13, 7, 1082, "GoalDeskModel", "", 0), (13, 135, 13, 11, 1086, "GoalDeskModel", "", 0), (13, 153, 13, 10, 1085, "GoalDeskModel", "", 0), (13, 177, 13, 38, 1113, "GoalDeskModel", "", 0), (13, 171, 13, 8, 1083, "GoalDeskModel", "", 0), (13, 263, 13, 35, 1110, "GoalDeskModel", "", 0), (13, 292, 13, 34, 1109, "GoalDeskModel", "", 0), (13, 289, 13, 33, 1108, "GoalDeskModel", "", 0), (13, 219, 13, 32, 1107, "GoalDeskModel", "", 0), (13, 317, 13, 31, 1106, "GoalDeskModel", "", 0), (13, 222, 13, 30, 1105, "GoalDeskModel", "", 0), (13, 209, 13, 28, 1103, "GoalDeskModel", "", 0), (13, 194, 13, 27, 1102, "GoalDeskModel", "", 0), (13, 190, 13, 26, 1101, "GoalDeskModel", "", 0), (13, 196, 13, 25, 1100, "GoalDeskModel", "", 0), (13, 184, 13, 12, 1087, "GoalDeskModel", "", 0), (13, 181, 13, 13, 1088, "GoalDeskModel", "", 0), (13, 270, 13, 29, 1104, "GoalDeskModel", "", 0), (13, 231, 13, 36, 1111, "GoalDeskModel", "", 0), (13, 228, 13, 39, 1114, "GoalDeskModel", "", 0), (13, 234, 13, 37, 1112, "GoalDeskModel", "", 0), (13, 246, 13, 40, 1115, "GoalDeskModel", "", 0), (13, 324, 13, 63, 1138, "GoalDeskModel", "", 0)]
def gt_pf : List (Nat × Nat × Nat × Nat × Nat × String × String × Nat) := [(0, 9, 0, 0, 466, "GoalDesk", "", 0), (0, 22, 0, 3, 469, "GoalDesk", "", 0), (0, 44, 0, 5, 471, "GoalDesk", "", 0), (0, 51, 0, 7, 473, "GoalDesk", "", 0), (0, 60, 0, 8, 474, "GoalDesk", "", 0), (0, 67, 0, 9, 475, "GoalDesk", "", 0), (8, 9, 1, 0, 141, "GoalDesk$Terms", "", 0), (8, 15, 1, 1, 143, "GoalDesk$Terms", "", 0), (8, 19, 1, 2, 145, "GoalDesk$Terms", "", 0), (8, 22, 1, 3, 147, "GoalDesk$Terms", "", 0), (10, 28, 2, 6, 176, "GoalDesk$Variables", "", 0), (10, 34, 2, 8, 180, "GoalDesk$Variables", "", 0), (10, 37, 2, 9, 182, "GoalDesk$Variables", "", 0), (10, 43, 2, 11, 186, "GoalDesk$Variables", "", 0), (10, 46, 2, 12, 187, "GoalDesk$Variables", "", 0), (10, 52, 2, 0, 166, "GoalDesk$Variables", "", 0), (3, 9, 3, 1, 227, "GoalDesk$Clause", "", 0), (3, 15, 3, 2, 229, "GoalDesk$Clause", "", 0), (3, 19, 3, 3, 231, "GoalDesk$Clause", "", 0), (3, 26, 3, 5, 236, "GoalDesk$Clause", "", 0), (3, 32, 3, 0, 224, "GoalDesk$Clause", "", 0), (5, 18, 4, 0, 263, "GoalDesk$Reader", "", 0), (6, 18, 5, 7, 402, "GoalDesk$Search", "", 0), (6, 25, 5, 10, 405, "GoalDesk$Search", "", 0), (6, 48, 5, 0, 392, "GoalDesk$Search", "", 0), (6, 52, 5, 1, 393, "GoalDesk$Search", "", 0), (6, 56, 5, 2, 395, "GoalDesk$Search", "", 0), (6, 60, 5, 3, 397, "GoalDesk$Search", "", 0), (6, 69, 5, 4, 398, "GoalDesk$Search", "", 0), (4, 11, 8, 3, 333, "GoalDesk$Pairs", "", 0), (4, 15, 8, 4, 334, "GoalDesk$Pairs", "", 0), (4, 22, 8, 6, 337, "GoalDesk$Pairs", "", 0), (4, 28, 8, 0, 330, "GoalDesk$Pairs", "", 0), (4, 32, 8, 1, 331, "GoalDesk$Pairs", "", 0), (4, 36, 8, 2, 332, "GoalDesk$Pairs", "", 0), (1, 9, 9, 2, 366, "GoalDesk$Aparts", "", 0), (1, 15, 9, 3, 367, "GoalDesk$Aparts", "", 0), (1, 18, 9, 4, 368, "GoalDesk$Aparts", "", 0), (1, 26, 9, 6, 371, "GoalDesk$Aparts", "", 0), (1, 32, 9, 0, 364, "GoalDesk$Aparts", "", 0), (1, 36, 9, 1, 365, "GoalDesk$Aparts", "", 0), (11, 9, 10, 2, 454, "GoalDesk$Writer", "", 0), (11, 19, 10, 0, 452, "GoalDesk$Writer", "", 0), (11, 23, 10, 1, 453, "GoalDesk$Writer", "", 0), (13, 7, 13, 0, 1075, "GoalDeskModel", "", 0), (13, 13, 13, 1, 1076, "GoalDeskModel", "", 0), (13, 16, 13, 2, 1077, "GoalDeskModel", "", 0), (13, 19, 13, 3, 1078, "GoalDeskModel", "", 0), (13, 22, 13, 4, 1079, "GoalDeskModel", "", 0), (13, 25, 13, 5, 1080, "GoalDeskModel", "", 0), (13, 28, 13, 6, 1081, "GoalDeskModel", "", 0), (13, 35, 13, 14, 1089, "GoalDeskModel", "", 0), (13, 38, 13, 15, 1090, "GoalDeskModel", "", 0), (13, 42, 13, 16, 1091, "GoalDeskModel", "", 0), (13, 45, 13, 17, 1092, "GoalDeskModel", "", 0), (13, 48, 13, 18, 1093, "GoalDeskModel", "", 0), (13, 51, 13, 19, 1094, "GoalDeskModel", "", 0), (13, 54, 13, 20, 1095, "GoalDeskModel", "", 0), (13, 57, 13, 21, 1096, "GoalDeskModel", "", 0), (13, 60, 13, 22, 1097, "GoalDeskModel", "", 0), (13, 63, 13, 23, 1098, "GoalDeskModel", "", 0), (13, 66, 13, 24, 1099, "GoalDeskModel", "", 0), (13, 69, 13, 41, 1116, "GoalDeskModel", "", 0), (13, 72, 13, 42, 1117, "GoalDeskModel", "", 0), (13, 75, 13, 43, 1118, "GoalDeskModel", "", 0), (13, 78, 13, 44, 1119, "GoalDeskModel", "", 0), (13, 81, 13, 45, 1120, "GoalDeskModel", "", 0), (13, 84, 13, 46, 1121, "GoalDeskModel", "", 0), (13, 87, 13, 47, 1122, "GoalDeskModel", "", 0), (13, 90, 13, 48, 1123, "GoalDeskModel", "", 0), (13, 93, 13, 49, 1124, "GoalDeskModel", "", 0), (13, 96, 13, 50, 1125, "GoalDeskModel", "", 0), (13, 99, 13, 51, 1126, "GoalDeskModel", "", 0), (13, 102, 13, 52, 1127, "GoalDeskModel", "", 0), (13, 105, 13, 53, 1128, "GoalDeskModel", "", 0), (13, 108, 13, 54, 1129, "GoalDeskModel", "", 0), (13, 111, 13, 55, 1130, "GoalDeskModel", "", 0), (13, 114, 13, 56, 1131, "GoalDeskModel", "", 0), (13, 117, 13, 57, 1132, "GoalDeskModel", "", 0), (13, 120, 13, 58, 1133, "GoalDeskModel", "", 0), (13, 123, 13, 59, 1134, "GoalDeskModel", "", 0), (13, 126, 13, 60, 1135, "GoalDeskModel", "", 0), (13, 129, 13, 61, 1136, "GoalDeskModel", "", 0), (13, 132, 13, 62, 1137, "GoalDeskModel", "", 0)]
def gt_q (q : Nat × Nat × Nat × Nat × Nat × String × String × Nat) : Nat × Nat × Nat × Nat := (q.1, q.2.1, q.2.2.1, q.2.2.2.1)
def gt_nw : List (Nat × Nat × Nat × Nat × Nat × Nat × Nat) := [(0, 33, 1, 0, 135, 136, 97), (0, 36, 2, 0, 160, 161, 98), (0, 20, 3, 0, 133, 219, 99), (0, 48, 4, 0, 257, 258, 100), (0, 55, 5, 0, 280, 281, 101), (0, 64, 10, 0, 446, 447, 108), (6, 15, 6, 0, 286, 287, 104), (6, 40, 7, 0, 312, 313, 105), (6, 43, 8, 0, 324, 325, 106), (6, 64, 9, 0, 358, 359, 107), (6, 142, 11, 0, 721, 722, 118), (6, 118, 12, 0, 856, 857, 122), (12, 8, 0, 0, 125, 126, 96), (12, 44, 13, 0, 1068, 1069, 109)]
def gt_an : List (Nat × Nat × Nat × Nat × Nat) := [(0, 20, 4, 0, 133), (16, 7, 5, 0, 801), (17, 2, 5, 0, 799)]
def gt_ck : List (Nat × Nat × Nat × Nat × Nat) := [(6, 142, 11, 0, 721), (6, 118, 12, 0, 856)]
def gt_ld : List (Nat × Nat × Nat × Nat × Nat) := [(6, 102, 1000000, 0, 820), (10, 62, 2147483648, 0, 704), (13, 41, 72000, 0, 1074), (13, 193, 2147483647, 0, 1327), (13, 327, 100000, 0, 1444), (13, 331, 100041, 0, 1449), (13, 332, 100044, 0, 1450), (19, 200, 2147483639, 0, 765)]
def gt_l2 : List (Nat × Nat × Nat × Nat × Nat) := [(12, 47, 4294967295, 0, 1459)]
def gt_ob : List (Nat × Nat × Nat × Nat × Nat) := [(0, 3, 1, 0, 130), (8, 3, 1, 0, 140), (10, 3, 1, 0, 165), (3, 3, 1, 0, 223), (5, 3, 1, 0, 262), (6, 3, 1, 0, 285), (14, 1, 1, 0, 297), (7, 3, 1, 0, 317), (4, 3, 1, 0, 329), (1, 3, 1, 0, 363), (11, 3, 1, 0, 451), (9, 1, 1, 0, 726), (2, 1, 1, 0, 861), (13, 1, 1, 0, 1073)]
def gt_mx : List (Nat × Nat × Nat × Nat × Nat) := [(16, 79, 2, 0, 800), (19, 194, 2, 0, 762), (4, 75, 2, 0, 985)]
def gt_mm : List (Nat × Nat × Nat × Nat × Nat) := [(17, 304, 2, 0, 698), (6, 153, 2, 0, 835), (4, 80, 2, 0, 986)]
def gt_th : List (Nat × Nat × Nat × Nat × Nat) := [(0, 71, 73, 0, 514), (0, 74, 76, 1, 578), (0, 95, 97, 2, 1011), (7, 15, 17, 1, 833), (6, 195, 197, 3, 930)]
def gt_xt : List (Nat × Nat × Nat × Nat × Nat) := [(16, 39, 0, 0, 298), (17, 150, 5, 0, 701), (17, 86, 2, 0, 772), (17, 110, 1, 0, 797)]
def gt_q4 (q : Nat × Nat × Nat × Nat × Nat) : Nat × Nat × Nat × Nat := (q.1, q.2.1, q.2.2.1, q.2.2.2.1)
def gt_ca : List (Nat × Nat × Nat × Nat × Nat × Nat × Nat × String × Nat × Nat) := [(0, 35, 1, 1, 1, 0, 137, "GoalDesk", 138, 0), (0, 38, 1, 2, 2, 0, 162, "GoalDesk", 163, 0), (0, 41, 1, 3, 2, 0, 220, "GoalDesk", 221, 0), (0, 50, 1, 4, 2, 0, 259, "GoalDesk", 260, 0), (0, 57, 1, 5, 3, 0, 282, "GoalDesk", 283, 0), (0, 66, 1, 12, 3, 0, 448, "GoalDesk", 449, 0), (6, 17, 1, 6, 1, 0, 288, "", 289, 0), (6, 42, 1, 9, 1, 0, 314, "GoalDesk", 315, 0), (6, 45, 1, 10, 4, 0, 326, "GoalDesk", 327, 0), (6, 66, 1, 11, 3, 0, 360, "GoalDesk", 361, 0), (16, 1, 1, 7, 1, 0, 291, "", 292, 0), (15, 1, 1, 8, 1, 0, 294, "", 295, 0), (0, 135, 0, 14, 1, 9, 501, "GoalDesk", 503, 0), (12, 7, 0, 16, 2, 0, 510, "", 511, 512), (12, 17, 0, 18, 1, 0, 596, "", 597, 598), (0, 77, 0, 19, 4, 4, 600, "GoalDesk", 602, 2), (5, 22, 0, 20, 4, 4, 604, "", 606, 3), (5, 26, 0, 21, 1, 4, 608, "", 610, 4), (5, 30, 2, 22, 1, 0, 612, "GoalDesk", 613, 0), (5, 34, 0, 23, 2, 4, 615, "", 617, 5), (5, 38, 0, 27, 2, 4, 629, "", 631, 7), (5, 41, 0, 28, 1, 4, 633, "", 635, 8), (5, 45, 0, 31, 1, 4, 645, "", 647, 11), (5, 71, 2, 24, 1, 0, 619, "GoalDesk", 620, 0), (5, 74, 2, 25, 1, 0, 622, "GoalDesk", 623, 0), (5, 86, 0, 26, 3, 4, 625, "", 627, 6), (5, 61, 0, 29, 1, 4, 637, "", 639, 9), (5, 64, 0, 30, 4, 3, 641, "GoalDesk", 643, 10), (5, 96, 2, 32, 2, 0, 649, "", 650, 0), (12, 21, 0, 34, 2, 0, 655, "", 656, 657), (12, 25, 0, 36, 1, 0, 664, "", 665, 666), (0, 84, 0, 37, 4, 4, 668, "GoalDesk", 670, 12), (0, 87, 0, 38, 4, 5, 672, "GoalDesk", 674, 13), (0, 91, 0, 60, 2, 5, 816, "GoalDesk", 818, 23), (6, 77, 0, 39, 1, 2, 676, "GoalDesk", 678, 14), (6, 82, 0, 40, 1, 9, 680, "GoalDesk", 682, 15), (6, 94, 0, 41, 2, 2, 684, "GoalDesk", 686, 16), (6, 98, 0, 43, 4, 5, 705, "", 707, 17), (10, 56, 2, 42, 2, 0, 688, "", 689, 0), (6, 264, 0, 44, 3, 1, 709, "GoalDesk", 711, 18), (6, 201, 0, 45, 5, 5, 713, "", 715, 19), (6, 221, 0, 46, 1, 6, 717, "", 718, 719), (6, 287, 1, 47, 1, 0, 723, "GoalDesk", 724, 0), (6, 226, 0, 48, 2, 6, 743, "", 744, 745), (6, 114, 0, 56, 2, 6, 802, "", 803, 804), (16, 131, 0, 49, 4, 6, 747, "", 749, 20), (16, 129, 0, 50, 1, 6, 751, "", 753, 21), (16, 69, 0, 51, 2, 6, 755, "", 757, 22), (16, 73, 2, 52, 3, 0, 759, "", 760, 0), (16, 66, 2, 54, 2, 0, 769, "", 770, 0), (19, 201, 2, 53, 2, 0, 766, "", 767, 0), (17, 300, 2, 55, 3, 0, 794, "", 795, 0), (16, 118, 2, 57, 2, 0, 806, "", 807, 0), (16, 123, 0, 59, 2, 6, 812, "", 813, 814), (18, 105, 2, 58, 3, 0, 809, "", 810, 0), (6, 103, 0, 61, 1, 8, 821, "GoalDesk", 823, 24), (6, 110, 0, 62, 2, 5, 825, "", 827, 25), (6, 120, 0, 81, 2, 5, 957, "", 959, 43), (6, 127, 0, 85, 2, 8, 973, "GoalDesk", 975, 47), (6, 131, 0, 89, 2, 9, 996, "GoalDesk", 998, 51), (6, 135, 0, 91, 1, 5, 1007, "", 1009, 53), (6, 138, 0, 63, 1, 7, 829, "GoalDesk", 831, 26), (6, 162, 0, 64, 2, 5, 836, "", 838, 27), (6, 168, 0, 73, 3, 8, 910, "GoalDesk", 908, 35), (6, 172, 0, 74, 3, 9, 911, "GoalDesk", 913, 36), (6, 175, 0, 75, 2, 2, 915, "GoalDesk", 917, 37), (6, 178, 0, 77, 3, 5, 925, "", 927, 39), (6, 182, 0, 78, 3, 5, 945, "", 947, 40), (6, 205, 0, 65, 3, 5, 840, "", 842, 28), (6, 208, 0, 68, 3, 5, 852, "", 854, 31), (6, 211, 0, 70, 4, 5, 893, "", 895, 32), (6, 185, 0, 66, 2, 1, 844, "GoalDesk", 846, 29), (6, 218, 0, 67, 2, 1, 848, "GoalDesk", 850, 30), (6, 225, 1, 69, 1, 0, 858, "GoalDesk", 859, 0), (6, 267, 0, 71, 3, 8, 897, "GoalDesk", 899, 33), (4, 40, 0, 67, 2, 1, 901, "GoalDesk", 850, 30), (4, 46, 0, 72, 3, 1, 902, "GoalDesk", 904, 34), (4, 50, 0, 73, 3, 8, 906, "", 908, 35), (10, 63, 0, 66, 2, 1, 919, "GoalDesk", 846, 29), (10, 69, 2, 24, 1, 0, 920, "GoalDesk", 620, 0), (10, 73, 0, 76, 2, 1, 921, "GoalDesk", 923, 38), (6, 191, 2, 25, 1, 0, 929, "GoalDesk", 623, 0), (6, 198, 0, 79, 3, 2, 949, "GoalDesk", 951, 41), (10, 77, 0, 80, 4, 2, 953, "", 955, 42), (6, 255, 0, 82, 2, 2, 961, "GoalDesk", 963, 44), (6, 259, 0, 83, 3, 2, 965, "GoalDesk", 967, 45), (6, 262, 0, 84, 3, 9, 969, "GoalDesk", 971, 46), (4, 54, 0, 63, 1, 7, 977, "GoalDesk", 831, 26), (4, 59, 0, 75, 2, 2, 978, "GoalDesk", 917, 37), (4, 64, 0, 86, 4, 8, 979, "", 981, 48), (4, 68, 0, 66, 2, 1, 983, "GoalDesk", 846, 29), (4, 72, 0, 71, 3, 8, 984, "", 899, 33), (4, 83, 0, 87, 3, 2, 987, "GoalDesk", 989, 49), (4, 92, 0, 80, 4, 2, 991, "GoalDesk", 955, 42), (4, 96, 0, 88, 2, 8, 992, "", 994, 50), (1, 50, 0, 73, 3, 8, 1000, "GoalDesk", 908, 35), (1, 54, 0, 85, 2, 8, 1001, "GoalDesk", 975, 47), (1, 58, 0, 82, 2, 2, 1002, "GoalDesk", 963, 44), (1, 62, 0, 90, 2, 9, 1003, "", 1005, 52), (12, 32, 0, 93, 1, 0, 1029, "", 1030, 1031), (12, 35, 0, 95, 3, 0, 1036, "", 1037, 1038), (0, 111, 0, 96, 2, 10, 1040, "GoalDesk", 1042, 54), (11, 27, 0, 97, 3, 10, 1044, "", 1046, 55), (11, 31, 0, 75, 2, 2, 1048, "GoalDesk", 917, 37), (11, 37, 0, 98, 2, 10, 1049, "", 1051, 56), (11, 41, 0, 66, 2, 1, 1053, "GoalDesk", 846, 29), (11, 47, 0, 67, 2, 1, 1054, "GoalDesk", 850, 30), (11, 50, 0, 72, 3, 1, 1055, "GoalDesk", 904, 34), (12, 39, 0, 100, 2, 0, 1059, "", 1060, 1061), (0, 122, 0, 101, 2, 2, 1063, "GoalDesk", 1065, 57), (10, 81, 0, 75, 2, 2, 1067, "", 917, 37), (13, 138, 2, 105, 3, 0, 1276, "", 1277, 0), (13, 142, 0, 106, 2, 13, 1279, "", 1281, 58), (13, 149, 0, 107, 2, 13, 1283, "", 1285, 59), (13, 174, 0, 109, 1, 13, 1291, "", 1293, 60), (13, 164, 0, 110, 2, 13, 1295, "", 1297, 61), (13, 160, 0, 112, 2, 13, 1303, "", 1305, 63), (13, 167, 0, 113, 1, 13, 1307, "", 1309, 64), (13, 156, 0, 111, 1, 13, 1299, "", 1301, 62), (13, 277, 0, 116, 1, 13, 1319, "", 1321, 65), (13, 280, 0, 118, 3, 13, 1328, "", 1330, 67), (13, 320, 0, 124, 2, 13, 1352, "", 1354, 73), (13, 187, 0, 117, 1, 13, 1323, "", 1325, 66), (13, 199, 0, 119, 2, 13, 1332, "", 1334, 68), (13, 212, 0, 120, 6, 13, 1336, "", 1338, 69), (13, 216, 0, 121, 1, 13, 1340, "", 1342, 70), (13, 202, 0, 122, 2, 13, 1344, "", 1346, 71), (13, 205, 0, 123, 3, 13, 1348, "", 1350, 72), (13, 311, 0, 125, 1, 13, 1356, "", 1358, 74), (13, 237, 0, 133, 1, 13, 1388, "", 1390, 82), (13, 314, 0, 139, 2, 13, 1412, "", 1414, 88), (13, 286, 0, 126, 3, 13, 1360, "", 1362, 75), (13, 259, 0, 128, 2, 13, 1368, "", 1370, 77), (13, 295, 0, 129, 5, 13, 1372, "", 1374, 78), (13, 273, 0, 127, 3, 13, 1364, "", 1366, 76), (13, 253, 0, 130, 3, 13, 1376, "", 1378, 79), (13, 283, 0, 131, 2, 13, 1380, "", 1382, 80), (13, 256, 0, 132, 1, 13, 1384, "", 1386, 81), (13, 266, 0, 138, 3, 13, 1408, "", 1410, 87), (13, 225, 0, 136, 3, 13, 1400, "", 1402, 85), (13, 240, 0, 134, 2, 13, 1392, "", 1394, 83), (13, 243, 0, 135, 3, 13, 1396, "", 1398, 84), (13, 249, 0, 137, 4, 13, 1404, "", 1406, 86), (13, 299, 0, 140, 3, 13, 1416, "", 1418, 89), (13, 302, 0, 141, 4, 13, 1420, "", 1422, 90), (13, 305, 0, 142, 4, 13, 1424, "", 1426, 91), (13, 308, 0, 143, 4, 13, 1428, "", 1430, 92), (13, 333, 0, 146, 2, 13, 1440, "", 1442, 93), (13, 328, 0, 147, 2, 13, 1445, "", 1447, 94), (12, 43, 1, 0, 1, 0, 127, "", 128, 0), (12, 46, 1, 102, 1, 0, 1070, "", 1071, 0), (12, 49, 2, 15, 3, 0, 505, "", 506, 0), (12, 54, 0, 104, 2, 13, 1272, "", 1273, 1274), (12, 55, 0, 103, 1, 13, 1268, "", 1269, 1270), (12, 58, 2, 17, 2, 0, 593, "", 594, 0), (12, 61, 0, 108, 1, 13, 1287, "", 1288, 1289), (12, 62, 2, 33, 2, 0, 652, "", 653, 0), (12, 65, 0, 114, 2, 13, 1311, "", 1312, 1313), (12, 66, 2, 35, 2, 0, 659, "", 660, 0), (12, 68, 0, 115, 1, 13, 1315, "", 1316, 1317), (12, 69, 2, 92, 2, 0, 1026, "", 1027, 0), (12, 71, 0, 144, 1, 13, 1432, "", 1433, 1434), (12, 72, 2, 94, 4, 0, 1033, "", 1034, 0), (12, 75, 0, 145, 3, 13, 1436, "", 1437, 1438), (12, 76, 2, 99, 3, 0, 1056, "", 1057, 0), (12, 79, 0, 148, 2, 13, 1451, "", 1452, 1453), (12, 80, 0, 13, 2, 0, 497, "", 498, 499), (12, 83, 0, 149, 2, 13, 1455, "", 1456, 1457)]
def gt_C6 : List (Nat × Nat × Nat × Nat × Nat × Nat) := gt_ca.map fun q => (q.1, q.2.1, q.2.2.1, q.2.2.2.1, q.2.2.2.2.1, q.2.2.2.2.2.1)
def gt_Fk (k : Nat) : List (Nat × Nat × Nat × Nat) := match k with
  | 0 => gt_ff.map gt_q
  | 1 => gt_pp.map gt_q
  | 2 => gt_pf.map gt_q
  | 3 => gt_nw.map fun q => (q.1, q.2.1, q.2.2.1, q.2.2.2.1)
  | 4 => [(0, 0, 0, 0), (1, 1, 0, 0), (2, 2, 0, 0), (3, 3, 0, 0)]
  | 5 => gt_an.map gt_q4
  | 6 => gt_ck.map gt_q4
  | 7 => gt_ld.map gt_q4
  | 8 => gt_l2.map gt_q4
  | 10 => gt_ob.map gt_q4
  | 11 => gt_mx.map gt_q4
  | 12 => gt_mm.map gt_q4
  | 13 => gt_th.map gt_q4
  | 14 => gt_xt.map gt_q4
  | _ => []
end
section
/-! What the links say, of the tables' words. -/
def gt_fB (own : Nat → String) (q : Nat × Nat × Nat × Nat × Nat × String × String × Nat) : Bool := match gt_cl[q.2.2.1]? with
  | some (_, T, N) => decide (q.2.2.2.1 < N) && ((if q.2.2.2.2.2.2.1 = "" then gt_w q.2.2.2.2.1 (.fieldLink (own q.1) q.2.1 q.2.2.2.2.2.1 (T q.2.2.2.1).2.1 (T q.2.2.2.1).2.2.1) else gt_w q.2.2.2.2.1 (.fieldLinkNest (own q.1) q.2.1 q.2.2.2.2.2.1 (T q.2.2.2.1).2.1 (T q.2.2.2.1).2.2.1 q.2.2.2.2.2.2.1)) &&
      (decide (q.2.2.2.2.2.1 = (T q.2.2.2.1).1) || gt_w q.2.2.2.2.2.2.2 (.sameField q.2.2.2.2.2.1 (T q.2.2.2.1).1 (T q.2.2.2.1).2.1 (T q.2.2.2.1).2.2.1)))
  | none => false
/-- .. not final -/
def gt_pB (q : Nat × Nat × Nat × Nat × Nat × String × String × Nat) : Bool := match gt_cl[q.2.2.1]? with
  | some (_, T, _) => !(T q.2.2.2.1).2.2.2
  | none => false
def gt_pfB (own : Nat → String) (q : Nat × Nat × Nat × Nat × Nat × String × String × Nat) : Bool := match gt_cl[q.2.2.1]? with
  | some (_, T, _) => (T q.2.2.2.1).2.2.2 && (decide ((T q.2.2.2.1).1 = own q.1) && decide (q.2.2.2.2.2.2.1 = ""))
  | none => false
theorem gt_a0 : gt_ff.all (gt_fB gt_own) = true := by decide +kernel
theorem gt_a1 : gt_pp.all (fun q => gt_fB gt_own q && gt_pB q) = true := by decide +kernel
theorem gt_a2 : gt_pf.all (fun q => gt_fB gt_own q && gt_pfB gt_own q) = true := by decide +kernel
/-- first fields -/
def gt_zero (ty : FieldType) : ai_V := match ty with
  | .long => .inr (.inl 0)
  | .object _ => .inr (.inr none)
  | .array _ => .inr (.inr none)
  | _ => .inl 0
def gt_sim : FieldType → Bool
  | .float => false
  | .double => false
  | _ => true
theorem gt_dzero : (List.range 14).all (fun ci => (List.range (gt_tyFL.getD ci []).length).all fun j => gt_sim (gt_tyF ci j) && decide ((gt_dfl ci).getD j (.inr (.inr none)) = gt_zero (gt_tyF ci j))) = true := by decide +kernel
theorem gt_dl : (List.range 14).all (fun ci => match gt_cl[ci]? with
  | some (_, _, N) => decide ((gt_dfl ci).length = N) && decide ((gt_tyFL.getD ci []).length = N)
  | none => false) = true := by decide +kernel
def gt_nB (q : Nat × Nat × Nat × Nat × Nat × Nat × Nat) : Bool := decide (q.2.2.1 < 14) && match gt_cl[q.2.2.1]? with
  | some (C, _, N) => gt_w q.2.2.2.2.1 (.classLink (gt_own q.1) q.2.1 C) && (gt_w q.2.2.2.2.2.1 (.instantiable C N) && gt_w q.2.2.2.2.2.2 (.initialized C))
  | none => false
theorem gt_a3 : gt_nw.all gt_nB = true := by decide +kernel
def gt_anB (q : Nat × Nat × Nat × Nat × Nat) : Bool := match gt_tyL.getD q.2.2.1 .float with
  | .object C => gt_w q.2.2.2.2 (.classLink (gt_own q.1) q.2.1 C) && (gt_w 134 (.arrayOver (.object C)) || gt_w 798 (.arrayOver (.object C)))
  | _ => false
theorem gt_a5 : gt_an.all gt_anB = true := by decide +kernel
def gt_ckB (q : Nat × Nat × Nat × Nat × Nat) : Bool := match gt_cl[q.2.2.1]? with
  | some (C, _, _) => gt_w q.2.2.2.2 (.classLink (gt_own q.1) q.2.1 C)
  | none => false
theorem gt_a6 : gt_ck.all gt_ckB = true := by decide +kernel
theorem gt_a7 : gt_ld.all (fun q => gt_w q.2.2.2.2 (.constant (gt_own q.1) q.2.1 (Int32.ofNat q.2.2.1))) = true := by decide +kernel
theorem gt_a8 : gt_l2.all (fun q => gt_w q.2.2.2.2 (.constantLong (gt_own q.1) q.2.1 (Int64.ofNat q.2.2.1))) = true := by decide +kernel
/-- calls -/
def gt_cB (q : Nat × Nat × Nat × Nat × Nat × Nat × Nat × String × Nat × Nat) : Bool := match gt_Ml[q.2.2.2.1]? with
  | some (y, _, _) => (if q.2.2.2.2.2.2.2.1 = "" then gt_w q.2.2.2.2.2.2.1 (.methodLink (gt_own q.1) q.2.1 y) else gt_w q.2.2.2.2.2.2.1 (.methodLinkNest (gt_own q.1) q.2.1 y q.2.2.2.2.2.2.2.1)) && (match (parseMethodDescriptor y.desc).map (fun d => d.parameters.length) with
    | some n => match q.2.2.1 with
      | 0 => Nat.beq q.2.2.2.2.1 (n + 1) && (gt_w q.2.2.2.2.2.2.2.2.1 (.instanceMethod y) && (match gt_cl[q.2.2.2.2.2.1]? with
        | some (C, _, _) => gt_w q.2.2.2.2.2.2.2.2.2 (.selects C y y)
        | none => false))
      | 1 => Nat.beq q.2.2.2.2.1 (n + 1) && (gt_w q.2.2.2.2.2.2.2.2.1 (.instanceMethod y) && decide (y.name = "<init>"))
      | 2 => Nat.beq q.2.2.2.2.1 n && gt_w q.2.2.2.2.2.2.2.2.1 (.static y)
      | _ => false
    | none => false)
  | none => false
theorem gt_a9 : gt_ca.all gt_cB = true := by decide +kernel
/-- throws -/
def gt_ns : List String := ["java/lang/RuntimeException", "java/lang/Exception"]
def gt_in (w : Cond) : Bool := gt_Ts.contains w
def gt_tB (q : Nat × Nat × Nat × Nat × Nat) : Bool := Bundle.fit (gt_ex q.2.2.2.1) && (Cond.classLink (gt_own q.1) q.2.1 (gt_ex q.2.2.2.1) :: Cond.initialized (gt_ex q.2.2.2.1) :: (Bundle.ownAtoms0 (gt_own q.1) q.2.2.1 (gt_ex q.2.2.2.1) gt_ns).filter ai_xt).all fun w => gt_in w && w.onTables
theorem gt_nsf : gt_ns.all (fun n => Bundle.fit n) = true := by decide +kernel
theorem gt_a13 : gt_th.all gt_tB = true := by decide +kernel
theorem gt_a10 : gt_ob.all (fun q => gt_w q.2.2.2.2 (.methodLink (gt_own q.1) q.2.1 Lib.objectInit) && decide (q.2.2.1 = 1)) = true := by decide +kernel
theorem gt_a11 : gt_mx.all (fun q => gt_w q.2.2.2.2 (.methodLink (gt_own q.1) q.2.1 Lib.Math.max.name) && decide (q.2.2.1 = 2)) = true := by decide +kernel
theorem gt_a12 : gt_mm.all (fun q => gt_w q.2.2.2.2 (.methodLink (gt_own q.1) q.2.1 Lib.Math.min.name) && decide (q.2.2.1 = 2)) = true := by decide +kernel
theorem gt_a14 : gt_xt.all (fun q => if q.2.2.1 = 0 then gt_w q.2.2.2.2 (.fieldLink (gt_own q.1) q.2.1 "java/util/ArrayList" "DEFAULTCAPACITY_EMPTY_ELEMENTDATA" "[Ljava/lang/Object;") else if q.2.2.1 = 1 then gt_w q.2.2.2.2 (.classLink (gt_own q.1) q.2.1 "[Ljava/lang/Object;") else if q.2.2.1 = 2 then gt_w q.2.2.2.2 (.methodLink (gt_own q.1) q.2.1 ai_gc) else gt_w q.2.2.2.2 (.methodLink (gt_own q.1) q.2.1 arraycopyName)) = true := by decide +kernel
/-- the classes -/
def gt_layI : List (List Nat) := [[476, 478, 480, 482, 484, 486, 488, 490, 492, 494], [149, 151, 153, 155], [190, 192, 194, 196, 198, 200, 202, 204, 206, 208, 210, 212, 214, 216], [242, 244, 246, 248, 250, 252, 254], [269, 271, 273, 275, 277], [413, 415, 417, 419, 421, 423, 425, 427, 429, 431, 433, 435, 437, 439, 441, 443], [305, 307, 309], [321], [341, 343, 345, 347, 349, 351, 353, 355], [374, 376, 378, 380, 382, 384, 386, 388], [457, 459, 461, 463], [732, 734, 736, 738, 740], [872, 874, 876, 878, 880, 882, 884, 886, 888, 890], [1139, 1141, 1143, 1145, 1147, 1149, 1151, 1153, 1155, 1157, 1159, 1161, 1163, 1165, 1167, 1169, 1171, 1173, 1175, 1177, 1179, 1181, 1183, 1185, 1187, 1189, 1191, 1193, 1195, 1197, 1199, 1201, 1203, 1205, 1207, 1209, 1211, 1213, 1215, 1217, 1219, 1221, 1223, 1225, 1227, 1229, 1231, 1233, 1235, 1237, 1239, 1241, 1243, 1245, 1247, 1249, 1251, 1253, 1255, 1257, 1259, 1261, 1263, 1265]]
theorem gt_lay : (List.range 14).all (fun ci => match gt_cl[ci]? with
  | some (C, T, N) => (List.range N).all (fun k => gt_w ((gt_layI.getD ci []).getD k 9999) (u_lay C T k) && (decide (parseFieldDescriptor (T k).2.2.1 = some (gt_tyF ci k)) && (List.range N).all fun b => Nat.beq k b || decide ((T k).2.1 ≠ (T b).2.1)))
  | none => false) = true := by decide +kernel
end
section
/-! What the links say. -/
theorem gt_fB_ok {own : Nat → String} {q : Nat × Nat × Nat × Nat × Nat × String × String × Nat} (h : gt_fB own q = true) : ai_fok gt_Ts gt_cl (own q.1) q.2.1 q.2.2.1 q.2.2.2.1 := by
  unfold gt_fB at h
  split at h
  · rename_i C T N hc
    simp only [Bool.and_eq_true, Bool.or_eq_true, decide_eq_true_eq] at h
    obtain ⟨h1, h2, h3⟩ := h
    refine ⟨C, T, N, q.2.2.2.2.2.1, hc, h1, ?_, ?_⟩
    · split at h2
      · exact .inl (gt_w_in h2)
      · exact .inr ⟨_, gt_w_in h2⟩
    · rcases h3 with h3 | h3
      · exact .inl h3
      · exact .inr (gt_w_in h3)
  · cases h
theorem gt_pB_ok {own : Nat → String} {q : Nat × Nat × Nat × Nat × Nat × String × String × Nat} (h : gt_fB own q = true) (g : gt_pB q = true) (mn : String) : ai_pok gt_Ts gt_cl (own q.1) mn q.2.1 q.2.2.1 q.2.2.2.1 := by
  obtain ⟨C, T, N, ref, h1, h2, h3, h4⟩ := gt_fB_ok h
  unfold gt_pB at g
  rw [h1] at g
  have g : (!(T q.2.2.2.1).2.2.2) = true := g
  exact ⟨C, T, N, ref, h1, h2, h4, .inl ⟨by simpa using g, h3⟩⟩
theorem gt_pfB_ok {own : Nat → String} {q : Nat × Nat × Nat × Nat × Nat × String × String × Nat} (h : gt_fB own q = true) (g : gt_pfB own q = true) : ai_pok gt_Ts gt_cl (own q.1) "<init>" q.2.1 q.2.2.1 q.2.2.2.1 := by
  unfold gt_fB at h
  unfold gt_pfB at g
  split at h
  · rename_i C T N hc
    rw [hc] at g
    simp only [Bool.and_eq_true, Bool.or_eq_true, decide_eq_true_eq] at h g
    obtain ⟨h1, h2, h3⟩ := h
    obtain ⟨g1, g2, g3⟩ := g
    rw [if_pos g3] at h2
    refine ⟨C, T, N, q.2.2.2.2.2.1, hc, h1, ?_, .inr ⟨g1, rfl, g2, gt_w_in h2⟩⟩
    rcases h3 with h3 | h3
    · exact .inl h3
    · exact .inr (gt_w_in h3)
  · cases h
theorem gt_map {α β : Type} {l : List α} {f : α → β} {Q : β → Prop} {b : α → Bool} (h : l.all b = true) (k : ∀ x, b x = true → Q (f x)) : ∀ q ∈ l.map f, Q q := by
  intro q hq
  obtain ⟨x, hx, rfl⟩ := List.mem_map.mp hq
  exact k x (List.all_eq_true.mp h x hx)
theorem gt_f0 : ∀ q ∈ gt_Fk 0, ai_fok gt_Ts gt_cl (gt_own q.1) q.2.1 q.2.2.1 q.2.2.2 := gt_map (Q := fun (q : Nat × Nat × Nat × Nat) => ai_fok gt_Ts gt_cl (gt_own q.1) q.2.1 q.2.2.1 q.2.2.2) gt_a0 fun x hx => gt_fB_ok hx
theorem gt_f1 : ∀ q ∈ gt_Fk 1, ∀ mn, ai_pok gt_Ts gt_cl (gt_own q.1) mn q.2.1 q.2.2.1 q.2.2.2 := gt_map (Q := fun (q : Nat × Nat × Nat × Nat) => ∀ mn, ai_pok gt_Ts gt_cl (gt_own q.1) mn q.2.1 q.2.2.1 q.2.2.2) gt_a1 fun x hx mn => by
  simp only [Bool.and_eq_true] at hx
  exact gt_pB_ok hx.1 hx.2 mn
theorem gt_f2 : ∀ q ∈ gt_Fk 2, ai_pok gt_Ts gt_cl (gt_own q.1) "<init>" q.2.1 q.2.2.1 q.2.2.2 := gt_map (Q := fun (q : Nat × Nat × Nat × Nat) => ai_pok gt_Ts gt_cl (gt_own q.1) "<init>" q.2.1 q.2.2.1 q.2.2.2) gt_a2 fun x hx => by
  simp only [Bool.and_eq_true] at hx
  exact gt_pfB_ok hx.1 hx.2
theorem gt_zero_ok {ty : FieldType} (h : gt_sim ty = true) : ai_v (fun _ => 0) (gt_zero ty) = defaultValue ty ∧ ∀ a, gt_zero ty ≠ .inr (.inr (some a)) := by
  cases ty <;> first | exact ⟨rfl, fun a z => by simp [gt_zero] at z⟩ | (cases h; done)
theorem gt_f3 : ∀ q ∈ gt_Fk 3, ∃ (C : String) (T : u_T) (N : Nat), gt_cl[q.2.2.1]? = some (C, T, N) ∧ Cond.classLink (gt_own q.1) q.2.1 C ∈ gt_Ts ∧ Cond.instantiable C N ∈ gt_Ts ∧ Cond.initialized C ∈ gt_Ts ∧ (gt_dfl q.2.2.1).length = N ∧ ∀ j, j < N → ai_v (fun _ => 0) ((gt_dfl q.2.2.1).getD j (.inr (.inr none))) = defaultValue (gt_tyF q.2.2.1 j) ∧ ∀ a, (gt_dfl q.2.2.1).getD j (.inr (.inr none)) ≠ .inr (.inr (some a)) :=
  gt_map (Q := fun (q : Nat × Nat × Nat × Nat) => ∃ (C : String) (T : u_T) (N : Nat), gt_cl[q.2.2.1]? = some (C, T, N) ∧ Cond.classLink (gt_own q.1) q.2.1 C ∈ gt_Ts ∧ Cond.instantiable C N ∈ gt_Ts ∧ Cond.initialized C ∈ gt_Ts ∧ (gt_dfl q.2.2.1).length = N ∧ ∀ j, j < N → ai_v (fun _ => 0) ((gt_dfl q.2.2.1).getD j (.inr (.inr none))) = defaultValue (gt_tyF q.2.2.1 j) ∧ ∀ a, (gt_dfl q.2.2.1).getD j (.inr (.inr none)) ≠ .inr (.inr (some a))) gt_a3 fun x hx => by
    simp only [gt_nB, Bool.and_eq_true, decide_eq_true_eq] at hx
    obtain ⟨hlt, hx⟩ := hx
    split at hx
    · rename_i C T N hc
      simp only [Bool.and_eq_true] at hx
      have hd := List.all_eq_true.mp gt_dl _ (List.mem_range.mpr hlt)
      rw [hc] at hd
      simp only [Bool.and_eq_true, decide_eq_true_eq] at hd
      refine ⟨C, T, N, hc, gt_w_in hx.1, gt_w_in hx.2.1, gt_w_in hx.2.2, hd.1, fun j hj => ?_⟩
      have hz := List.all_eq_true.mp (List.all_eq_true.mp gt_dzero _ (List.mem_range.mpr hlt)) j (List.mem_range.mpr (by omega))
      simp only [Bool.and_eq_true, decide_eq_true_eq] at hz
      have := gt_zero_ok hz.1
      rw [← hz.2] at this
      exact this
    · cases hx
theorem gt_f4 : ∀ q ∈ gt_Fk 4, ∀ at_, ai_atn at_ = q.1 → gt_tyL.getD q.2.1 .float = newarray.typeOf at_ ∧ newarray.typeOf at_ ≠ .float ∧ newarray.typeOf at_ ≠ .double ∧ Cond.arrayClass (newarray.typeOf at_) ∈ gt_Ts := by
  have i0 : Cond.arrayClass .int ∈ gt_Ts := gt_w_in (i := 159) (by decide +kernel)
  have i1 : Cond.arrayClass .char ∈ gt_Ts := gt_w_in (i := 158) (by decide +kernel)
  have i2 : Cond.arrayClass .boolean ∈ gt_Ts := gt_w_in (i := 391) (by decide +kernel)
  have i3 : Cond.arrayClass .long ∈ gt_Ts := gt_w_in (i := 1460) (by decide +kernel)
  intro q hq at_ h
  have hq : q = (0, 0, 0, 0) ∨ q = (1, 1, 0, 0) ∨ q = (2, 2, 0, 0) ∨ q = (3, 3, 0, 0) := by simpa [gt_Fk] using hq
  rcases hq with rfl | rfl | rfl | rfl <;> cases at_ <;> first | (simp [ai_atn] at h; done) | exact ⟨rfl, by decide, by decide, i0⟩ | exact ⟨rfl, by decide, by decide, i1⟩ | exact ⟨rfl, by decide, by decide, i2⟩ | exact ⟨rfl, by decide, by decide, i3⟩
theorem gt_f5 : ∀ q ∈ gt_Fk 5, ∃ C, gt_tyL.getD q.2.2.1 .float = .object C ∧ Cond.classLink (gt_own q.1) q.2.1 C ∈ gt_Ts ∧ Cond.arrayOver (.object C) ∈ gt_Ts := gt_map (Q := fun (q : Nat × Nat × Nat × Nat) => ∃ C, gt_tyL.getD q.2.2.1 .float = .object C ∧ Cond.classLink (gt_own q.1) q.2.1 C ∈ gt_Ts ∧ Cond.arrayOver (.object C) ∈ gt_Ts) gt_a5 fun x hx => by
  unfold gt_anB at hx
  split at hx
  · rename_i C hC
    simp only [Bool.and_eq_true, Bool.or_eq_true] at hx
    refine ⟨C, hC, gt_w_in hx.1, ?_⟩
    rcases hx.2 with z | z
    · exact gt_w_in z
    · exact gt_w_in z
  · cases hx
theorem gt_f6 : ∀ q ∈ gt_Fk 6, ∃ (C : String) (T : u_T) (N : Nat), gt_cl[q.2.2.1]? = some (C, T, N) ∧ Cond.classLink (gt_own q.1) q.2.1 C ∈ gt_Ts := gt_map (Q := fun (q : Nat × Nat × Nat × Nat) => ∃ (C : String) (T : u_T) (N : Nat), gt_cl[q.2.2.1]? = some (C, T, N) ∧ Cond.classLink (gt_own q.1) q.2.1 C ∈ gt_Ts) gt_a6 fun x hx => by
  unfold gt_ckB at hx
  split at hx
  · rename_i C T N hc
    exact ⟨C, T, N, hc, gt_w_in hx⟩
  · cases hx
theorem gt_FH : ai_FH gt_Ts gt_cl gt_tyL gt_tyF gt_dfl gt_own gt_Fk :=
  ⟨gt_f0, gt_f1, gt_f2, gt_f3, gt_f4, gt_f5, gt_f6, gt_map (Q := fun (q : Nat × Nat × Nat × Nat) => Cond.constant (gt_own q.1) q.2.1 (Int32.ofNat q.2.2.1) ∈ gt_Ts) gt_a7 fun x hx => gt_w_in hx, gt_map (Q := fun (q : Nat × Nat × Nat × Nat) => Cond.constantLong (gt_own q.1) q.2.1 (Int64.ofNat q.2.2.1) ∈ gt_Ts) gt_a8 fun x hx => gt_w_in hx⟩
theorem gt_cB_ok {q : Nat × Nat × Nat × Nat × Nat × Nat × Nat × String × Nat × Nat} (h : gt_cB q = true) : ∃ (y' : MethodName) (cc' : ByteArray) (hh' : List (Nat × Nat × Nat × Nat)) (n : Nat), gt_M q.2.2.2.1 = some (y', cc', hh') ∧ (parseMethodDescriptor y'.desc).map (fun d => d.parameters.length) = some n ∧ ai_iok gt_Ts gt_cl (gt_own q.1) y' n (ai_ci q.2.2.1 q.2.1) [q.2.2.2.1, q.2.2.2.2.1, q.2.2.2.2.2.1] := by
  obtain ⟨o, idx, kd, mi, na, ci, i, host, i2, i3⟩ := q
  unfold gt_cB at h
  simp only at h ⊢
  split at h
  · rename_i y cc hh hM
    simp only [Bool.and_eq_true] at h
    obtain ⟨h1, h2⟩ := h
    have hl : ai_lnk gt_Ts (gt_own o) idx y := by
      split at h1
      · exact .inl (gt_w_in h1)
      · exact .inr ⟨_, gt_w_in h1⟩
    split at h2
    · rename_i n hn
      refine ⟨y, cc, hh, n, hM, hn, ?_⟩
      split at h2
      · simp only [Bool.and_eq_true] at h2
        obtain ⟨a1, a2, a3⟩ := h2
        split at a3
        · rename_i C T N hc
          exact ⟨Nat.eq_of_beq_eq_true a1, gt_w_in a2, hl, C, T, N, hc, gt_w_in a3⟩
        · cases a3
      · simp only [Bool.and_eq_true] at h2
        obtain ⟨a1, a2, a3⟩ := h2
        exact ⟨Nat.eq_of_beq_eq_true a1, of_decide_eq_true a3, gt_w_in a2, hl⟩
      · simp only [Bool.and_eq_true] at h2
        obtain ⟨a1, a2⟩ := h2
        exact ⟨Nat.eq_of_beq_eq_true a1, gt_w_in a2, hl⟩
      · cases h2
    · cases h2
  · cases h
theorem gt_f13 : ∀ q ∈ gt_Fk 13, ∃ ns : List String, ai_tok gt_Ts (gt_own q.1) (gt_ex q.2.2.2) ns q.2.1 q.2.2.1 ∧ ns.length ≤ 6 := gt_map (Q := fun (q : Nat × Nat × Nat × Nat) => ∃ ns : List String, ai_tok gt_Ts (gt_own q.1) (gt_ex q.2.2.2) ns q.2.1 q.2.2.1 ∧ ns.length ≤ 6) gt_a13 fun x hx => by
  simp only [gt_tB, Bool.and_eq_true] at hx
  refine ⟨gt_ns, ⟨hx.1, fun n hn => List.all_eq_true.mp gt_nsf n hn, fun w hw => ?_⟩, by decide⟩
  have := List.all_eq_true.mp hx.2 w hw
  simp only [gt_in, Bool.and_eq_true] at this
  exact ⟨by simpa using this.1, this.2⟩
theorem gt_FO : ai_FO gt_Ts gt_cl gt_M gt_ex gt_own gt_Fk gt_C6 := by
  have w1 : Cond.instanceMethod Lib.objectInit ∈ gt_Ts := gt_w_in (i := 131) (by decide +kernel)
  have w2 : Cond.code Lib.objectInit ⟨#[0xb1]⟩ 1 none ∈ gt_Ts := gt_w_in (i := 132) (by decide +kernel)
  have w3 : Cond.static Lib.Math.max.name ∈ gt_Ts := gt_w_in (i := 763) (by decide +kernel)
  have w4 : Cond.initialized "java/lang/Math" ∈ gt_Ts := gt_w_in (i := 116) (by decide +kernel)
  have w5 : Cond.code Lib.Math.max.name Lib.Math.max.code 2 (some .int) ∈ gt_Ts := gt_w_in (i := 764) (by decide +kernel)
  have w6 : Cond.static Lib.Math.min.name ∈ gt_Ts := gt_w_in (i := 699) (by decide +kernel)
  have w7 : Cond.code Lib.Math.min.name Lib.Math.min.code 2 (some .int) ∈ gt_Ts := gt_w_in (i := 700) (by decide +kernel)
  have w8 : Cond.declares ai_gc ∈ gt_Ts := gt_w_in (i := 1466) (by decide +kernel)
  have w9 : Cond.selects "[Ljava/lang/Object;" ai_gc ai_gc ∈ gt_Ts := gt_w_in (i := 1465) (by decide +kernel)
  have w10 : Cond.instanceMethod ai_gc ∈ gt_Ts := gt_w_in (i := 773) (by decide +kernel)
  have w11 : Cond.native ai_gc ∈ gt_Ts := gt_w_in (i := 793) (by decide +kernel)
  have w12 : Cond.native arraycopyName ∈ gt_Ts := gt_w_in (i := 703) (by decide +kernel)
  have w13 : Cond.static arraycopyName ∈ gt_Ts := gt_w_in (i := 702) (by decide +kernel)
  have w14 : Cond.initialized "java/lang/System" ∈ gt_Ts := gt_w_in (i := 117) (by decide +kernel)
  refine ⟨?_, gt_f13, ?_, ?_, ?_, ?_, ?_, ?_, ?_, ?_, ?_, ?_⟩
  · exact gt_map (Q := fun (q : Nat × Nat × Nat × Nat × Nat × Nat) => ∃ (y' : MethodName) (cc' : ByteArray) (hh' : List (Nat × Nat × Nat × Nat)) (n : Nat), gt_M q.2.2.2.1 = some (y', cc', hh') ∧ (parseMethodDescriptor y'.desc).map (fun d => d.parameters.length) = some n ∧ ai_iok gt_Ts gt_cl (gt_own q.1) y' n (ai_ci q.2.2.1 q.2.1) [q.2.2.2.1, q.2.2.2.2.1, q.2.2.2.2.2]) gt_a9 fun x hx => gt_cB_ok hx
  · exact gt_map (Q := fun (q : Nat × Nat × Nat × Nat) => q.2.2.1 = 1 → Cond.methodLink (gt_own q.1) q.2.1 Lib.objectInit ∈ gt_Ts ∧ Cond.instanceMethod Lib.objectInit ∈ gt_Ts ∧ Cond.code Lib.objectInit ⟨#[0xb1]⟩ 1 none ∈ gt_Ts) gt_a10 fun x hx _ => by
      simp only [Bool.and_eq_true] at hx
      exact ⟨gt_w_in hx.1, w1, w2⟩
  · exact gt_map (Q := fun (q : Nat × Nat × Nat × Nat) => q.2.2.1 = 1) gt_a10 fun x hx => by
      simp only [Bool.and_eq_true] at hx
      exact of_decide_eq_true hx.2
  · exact gt_map (Q := fun (q : Nat × Nat × Nat × Nat) => q.2.2.1 = 2 → Cond.methodLink (gt_own q.1) q.2.1 Lib.Math.max.name ∈ gt_Ts ∧ Cond.static Lib.Math.max.name ∈ gt_Ts ∧ Cond.initialized "java/lang/Math" ∈ gt_Ts ∧ Cond.code Lib.Math.max.name Lib.Math.max.code 2 (some .int) ∈ gt_Ts) gt_a11 fun x hx _ => by
      simp only [Bool.and_eq_true] at hx
      exact ⟨gt_w_in hx.1, w3, w4, w5⟩
  · exact gt_map (Q := fun (q : Nat × Nat × Nat × Nat) => q.2.2.1 = 2) gt_a11 fun x hx => by
      simp only [Bool.and_eq_true] at hx
      exact of_decide_eq_true hx.2
  · exact gt_map (Q := fun (q : Nat × Nat × Nat × Nat) => q.2.2.1 = 2 → Cond.methodLink (gt_own q.1) q.2.1 Lib.Math.min.name ∈ gt_Ts ∧ Cond.static Lib.Math.min.name ∈ gt_Ts ∧ Cond.initialized "java/lang/Math" ∈ gt_Ts ∧ Cond.code Lib.Math.min.name Lib.Math.min.code 2 (some .int) ∈ gt_Ts) gt_a12 fun x hx _ => by
      simp only [Bool.and_eq_true] at hx
      exact ⟨gt_w_in hx.1, w6, w4, w7⟩
  · exact gt_map (Q := fun (q : Nat × Nat × Nat × Nat) => q.2.2.1 = 2) gt_a12 fun x hx => by
      simp only [Bool.and_eq_true] at hx
      exact of_decide_eq_true hx.2
  · exact gt_map (Q := fun (q : Nat × Nat × Nat × Nat) => q.2.2.1 = 0 → Cond.fieldLink (gt_own q.1) q.2.1 "java/util/ArrayList" "DEFAULTCAPACITY_EMPTY_ELEMENTDATA" "[Ljava/lang/Object;" ∈ gt_Ts) gt_a14 fun x hx hk => by
      have hk : x.2.2.1 = 0 := hk
      rw [if_pos hk] at hx
      exact gt_w_in hx
  · exact gt_map (Q := fun (q : Nat × Nat × Nat × Nat) => q.2.2.1 = 1 → Cond.classLink (gt_own q.1) q.2.1 "[Ljava/lang/Object;" ∈ gt_Ts) gt_a14 fun x hx hk => by
      have hk : x.2.2.1 = 1 := hk
      rw [if_neg (by omega), if_pos hk] at hx
      exact gt_w_in hx
  · exact gt_map (Q := fun (q : Nat × Nat × Nat × Nat) => q.2.2.1 = 2 → Cond.methodLink (gt_own q.1) q.2.1 ai_gc ∈ gt_Ts ∧ Cond.declares ai_gc ∈ gt_Ts ∧ Cond.selects "[Ljava/lang/Object;" ai_gc ai_gc ∈ gt_Ts ∧ Cond.instanceMethod ai_gc ∈ gt_Ts ∧ Cond.native ai_gc ∈ gt_Ts) gt_a14 fun x hx hk => by
      have hk : x.2.2.1 = 2 := hk
      rw [if_neg (by omega), if_neg (by omega), if_pos hk] at hx
      exact ⟨gt_w_in hx, w8, w9, w10, w11⟩
  · exact gt_map (Q := fun (q : Nat × Nat × Nat × Nat) => q.2.2.1 = 5 → Cond.methodLink (gt_own q.1) q.2.1 arraycopyName ∈ gt_Ts ∧ Cond.native arraycopyName ∈ gt_Ts ∧ Cond.static arraycopyName ∈ gt_Ts ∧ Cond.initialized "java/lang/System" ∈ gt_Ts) gt_a14 fun x hx hk => by
      have hk : x.2.2.1 = 5 := hk
      rw [if_neg (by omega), if_neg (by omega), if_neg (by omega)] at hx
      exact ⟨gt_w_in hx, w12, w13, w14⟩
theorem gt_clok : ai_clok gt_Ts gt_cl gt_tyF := by
  intro ci C T N hc
  have hlt : ci < 14 := (List.getElem?_eq_some_iff.mp hc).1
  have h := List.all_eq_true.mp gt_lay ci (List.mem_range.mpr hlt)
  rw [hc] at h
  have h : (List.range N).all (fun k => gt_w ((gt_layI.getD ci []).getD k 9999) (u_lay C T k) && (decide (parseFieldDescriptor (T k).2.2.1 = some (gt_tyF ci k)) && (List.range N).all fun b => Nat.beq k b || decide ((T k).2.1 ≠ (T b).2.1))) = true := h
  have hk : ∀ k, k < N → _ := fun k hk => List.all_eq_true.mp h k (List.mem_range.mpr hk)
  refine ⟨fun w hw => ?_, fun k hkN => ?_, fun a ha b hb hab => ?_⟩
  · obtain ⟨k, hkr, rfl⟩ := List.mem_map.mp hw
    have := hk k (List.mem_range.mp hkr)
    simp only [Bool.and_eq_true] at this
    exact gt_w_in this.1
  · have := hk k hkN
    simp only [Bool.and_eq_true] at this
    exact of_decide_eq_true this.2.1
  · have := hk a ha
    simp only [Bool.and_eq_true] at this
    have := List.all_eq_true.mp this.2.2 b (List.mem_range.mpr hb)
    simp only [Bool.or_eq_true] at this
    rcases this with z | z
    · exact absurd (Nat.eq_of_beq_eq_true z) hab
    · exact of_decide_eq_true z
theorem gt_aok : ai_aok gt_Ts gt_cl gt_tyL gt_asg := by
  have c1 : Cond.castable "GoalDesk$ToDo" "java/lang/Object" ∈ gt_Ts := gt_w_in (i := 1478) (by decide +kernel)
  have c2 : Cond.castable "GoalDesk$Choice" "java/lang/Object" ∈ gt_Ts := gt_w_in (i := 1479) (by decide +kernel)
  intro t cj h
  simp only [gt_asg, Bool.or_eq_true, Bool.and_eq_true, Nat.beq_eq] at h
  rcases h with ⟨rfl, rfl⟩ | ⟨rfl, rfl | rfl⟩
  · exact ⟨_, _, rfl, rfl, .inl rfl⟩
  · exact ⟨_, _, rfl, rfl, .inr c1⟩
  · exact ⟨_, _, rfl, rfl, .inr c2⟩
theorem gt_Tgood : ∀ w ∈ gt_Ts, ai_good w = true := by
  intro w hw
  rcases List.mem_append.mp hw with z | z
  · exact (List.mem_filter.mp z).2
  · have hx : gt_X.all ai_good = true := by decide +kernel
    exact List.all_eq_true.mp hx w z
end
section
/-! Each method keeps its rows. -/
def gt_o : List Nat := [0, 8, 10, 3, 5, 6, 16, 15, 14, 7, 4, 1, 11, 0, 1, 12, 0, 12, 0, 5, 5, 5, 0, 5, 0, 0, 5, 5, 5, 5, 3, 5, 17, 12, 0, 12, 0, 5, 6, 10, 1, 10, 17, 6, 8, 6, 16, 9, 16, 16, 16, 16, 19, 19, 17, 17, 16, 18, 20, 16, 6, 4, 6, 7, 6, 6, 8, 8, 6, 2, 6, 4, 8, 4, 1, 10, 8, 6, 6, 10, 10, 6, 10, 10, 1, 4, 4, 10, 4, 1, 1, 6, 12, 0, 12, 0, 11, 11, 11, 12, 0, 10, 13, 13, 13, 13, 13, 13, 13, 13, 13, 13, 13, 13, 13, 13, 13, 13, 13, 13, 13, 13, 13, 13, 13, 13, 13, 13, 13, 13, 13, 13, 13, 13, 13, 13, 13, 13, 13, 13, 13, 13, 13, 13, 13, 13, 13, 13, 13, 13, 12]
def gt_Wr (mi pc : Nat) : Bool := !gt_wr.contains mi || gt_hl.any fun q => Nat.beq q.1 mi && Nat.beq q.2.1 pc
def gt_mk (mi : Nat) (y : MethodName) : Bool := (gt_tabs.getD mi []).all (ai_chk gt_Fk gt_C6 gt_Wr (gt_o.getD mi 99) (decide (y.name = "<init>")) mi ((gt_Ml.getD mi (y, ⟨#[]⟩, [])).2.1) (gt_Ml.getD mi (y, ⟨#[]⟩, [])).2.2)
end
section
/-! Rows checked. -/
theorem gt_r0 : gt_t0.all (ai_chk gt_Fk gt_C6 gt_Wr 0 true 0 prog_1_method_1_code []) = true := by decide +kernel
theorem gt_r1 : gt_t1.all (ai_chk gt_Fk gt_C6 gt_Wr 8 true 1 prog_9_method_1_code []) = true := by decide +kernel
theorem gt_r2 : gt_t2.all (ai_chk gt_Fk gt_C6 gt_Wr 10 true 2 prog_11_method_1_code []) = true := by decide +kernel
theorem gt_r3 : gt_t3.all (ai_chk gt_Fk gt_C6 gt_Wr 3 true 3 prog_4_method_1_code []) = true := by decide +kernel
theorem gt_r4 : gt_t4.all (ai_chk gt_Fk gt_C6 gt_Wr 5 true 4 prog_6_method_1_code []) = true := by decide +kernel
theorem gt_r5 : gt_t5.all (ai_chk gt_Fk gt_C6 gt_Wr 6 true 5 prog_7_method_1_code []) = true := by decide +kernel
theorem gt_r6 : gt_t6.all (ai_chk gt_Fk gt_C6 gt_Wr 16 true 6 prog_28_method_2_code []) = true := by decide +kernel
theorem gt_r7 : gt_t7.all (ai_chk gt_Fk gt_C6 gt_Wr 15 true 7 prog_27_method_1_code []) = true := by decide +kernel
theorem gt_r8 : gt_t8.all (ai_chk gt_Fk gt_C6 gt_Wr 14 true 8 prog_26_method_1_code []) = true := by decide +kernel
theorem gt_r9 : gt_t9.all (ai_chk gt_Fk gt_C6 gt_Wr 7 true 9 prog_8_method_1_code []) = true := by decide +kernel
theorem gt_r10 : gt_t10.all (ai_chk gt_Fk gt_C6 gt_Wr 4 true 10 prog_5_method_1_code []) = true := by decide +kernel
theorem gt_r11 : gt_t11.all (ai_chk gt_Fk gt_C6 gt_Wr 1 true 11 prog_2_method_1_code []) = true := by decide +kernel
theorem gt_r12 : gt_t12.all (ai_chk gt_Fk gt_C6 gt_Wr 11 true 12 prog_12_method_1_code []) = true := by decide +kernel
theorem gt_r13 : gt_t13.all (ai_chk gt_Fk gt_C6 gt_Wr 0 false 13 prog_1_method_9_code []) = true := by decide +kernel
theorem gt_r14 : gt_t14.all (ai_chk gt_Fk gt_C6 gt_Wr 1 false 14 prog_2_method_7_code []) = true := by decide +kernel
theorem gt_r15 : gt_t15.all (ai_chk gt_Fk gt_C6 gt_Wr 12 false 15 method_3_code [(0, 9, 12, 13), (0, 9, 16, 15)]) = true := by decide +kernel
theorem gt_r16 : gt_t16.all (ai_chk gt_Fk gt_C6 gt_Wr 0 false 16 prog_1_method_2_code []) = true := by decide +kernel
theorem gt_r17 : gt_t17.all (ai_chk gt_Fk gt_C6 gt_Wr 12 false 17 method_4_code [(0, 8, 11, 13), (0, 8, 14, 15)]) = true := by decide +kernel
theorem gt_r18 : gt_t18.all (ai_chk gt_Fk gt_C6 gt_Wr 0 false 18 prog_1_method_3_code []) = true := by decide +kernel
theorem gt_r19 : gt_t19.all (ai_chk gt_Fk gt_C6 gt_Wr 5 false 19 prog_6_method_2_code []) = true := by decide +kernel
theorem gt_r20 : gt_t20.all (ai_chk gt_Fk gt_C6 gt_Wr 5 false 20 prog_6_method_4_code []) = true := by decide +kernel
theorem gt_r21 : gt_t21.all (ai_chk gt_Fk gt_C6 gt_Wr 5 false 21 prog_6_method_5_code []) = true := by decide +kernel
theorem gt_r22 : gt_t22.all (ai_chk gt_Fk gt_C6 gt_Wr 0 false 22 prog_1_method_12_code []) = true := by decide +kernel
theorem gt_r23 : gt_t23.all (ai_chk gt_Fk gt_C6 gt_Wr 5 false 23 prog_6_method_9_code []) = true := by decide +kernel
theorem gt_r24 : gt_t24.all (ai_chk gt_Fk gt_C6 gt_Wr 0 false 24 prog_1_method_10_code []) = true := by decide +kernel
end
section
/-! Rows checked. -/
theorem gt_r25 : gt_t25.all (ai_chk gt_Fk gt_C6 gt_Wr 0 false 25 prog_1_method_11_code []) = true := by decide +kernel
theorem gt_r26 : gt_t26.all (ai_chk gt_Fk gt_C6 gt_Wr 5 false 26 prog_6_method_10_code []) = true := by decide +kernel
theorem gt_r27 : gt_t27.all (ai_chk gt_Fk gt_C6 gt_Wr 5 false 27 prog_6_method_6_code []) = true := by decide +kernel
theorem gt_r28 : gt_t28.all (ai_chk gt_Fk gt_C6 gt_Wr 5 false 28 prog_6_method_7_code []) = true := by decide +kernel
theorem gt_r29 : gt_t29.all (ai_chk gt_Fk gt_C6 gt_Wr 5 false 29 prog_6_method_8_code []) = true := by decide +kernel
theorem gt_r30 : gt_t30.all (ai_chk gt_Fk gt_C6 gt_Wr 3 false 30 prog_4_method_2_code []) = true := by decide +kernel
theorem gt_r31 : gt_t31.all (ai_chk gt_Fk gt_C6 gt_Wr 5 false 31 prog_6_method_11_code []) = true := by decide +kernel
theorem gt_r32 : gt_t32.all (ai_chk gt_Fk gt_C6 gt_Wr 17 false 32 prog_29_method_103_code []) = true := by decide +kernel
theorem gt_r33 : gt_t33.all (ai_chk gt_Fk gt_C6 gt_Wr 12 false 33 method_5_code [(0, 5, 8, 13)]) = true := by decide +kernel
theorem gt_r34 : gt_t34.all (ai_chk gt_Fk gt_C6 gt_Wr 0 false 34 prog_1_method_4_code []) = true := by decide +kernel
theorem gt_r35 : gt_t35.all (ai_chk gt_Fk gt_C6 gt_Wr 12 false 35 method_6_code [(0, 8, 11, 13), (0, 8, 14, 28), (0, 8, 17, 15), (0, 8, 20, 30)]) = true := by decide +kernel
theorem gt_r36 : gt_t36.all (ai_chk gt_Fk gt_C6 gt_Wr 0 false 36 prog_1_method_5_code []) = true := by decide +kernel
theorem gt_r37 : gt_t37.all (ai_chk gt_Fk gt_C6 gt_Wr 5 false 37 prog_6_method_3_code []) = true := by decide +kernel
theorem gt_r38 : gt_t38.all (ai_chk gt_Fk gt_C6 gt_Wr 6 false 38 prog_7_method_2_code []) = true := by decide +kernel
theorem gt_r39 : gt_t39.all (ai_chk gt_Fk gt_C6 gt_Wr 10 false 39 prog_11_method_2_code []) = true := by decide +kernel
theorem gt_r40 : gt_t40.all (ai_chk gt_Fk gt_C6 gt_Wr 1 false 40 prog_2_method_2_code []) = true := by decide +kernel
theorem gt_r41 : gt_t41.all (ai_chk gt_Fk gt_C6 gt_Wr 10 false 41 prog_11_method_3_code []) = true := by decide +kernel
theorem gt_r42 : gt_t42.all (ai_chk gt_Fk gt_C6 gt_Wr 17 false 42 prog_29_method_123_code []) = true := by decide +kernel
theorem gt_r43 : gt_t43.all (ai_chk gt_Fk gt_C6 gt_Wr 6 false 43 prog_7_method_13_code []) = true := by decide +kernel
theorem gt_r44 : gt_t44.all (ai_chk gt_Fk gt_C6 gt_Wr 8 false 44 prog_9_method_2_code []) = true := by decide +kernel
theorem gt_r45 : gt_t45.all (ai_chk gt_Fk gt_C6 gt_Wr 6 false 45 prog_7_method_14_code []) = true := by decide +kernel
end
section
/-! Rows checked. -/
theorem gt_r46 : gt_t46.all (ai_chk gt_Fk gt_C6 gt_Wr 16 false 46 prog_28_method_8_code []) = true := by decide +kernel
theorem gt_r47 : gt_t47.all (ai_chk gt_Fk gt_C6 gt_Wr 9 true 47 prog_10_method_1_code []) = true := by decide +kernel
theorem gt_r48 : gt_t48.all (ai_chk gt_Fk gt_C6 gt_Wr 16 false 48 prog_28_method_25_code []) = true := by decide +kernel
theorem gt_r49 : gt_t49.all (ai_chk gt_Fk gt_C6 gt_Wr 16 false 49 prog_28_method_24_code []) = true := by decide +kernel
theorem gt_r50 : gt_t50.all (ai_chk gt_Fk gt_C6 gt_Wr 16 false 50 prog_28_method_7_code []) = true := by decide +kernel
theorem gt_r51 : gt_t51.all (ai_chk gt_Fk gt_C6 gt_Wr 16 false 51 prog_28_method_6_code []) = true := by decide +kernel
theorem gt_r52 : gt_t52.all (ai_chk gt_Fk gt_C6 gt_Wr 19 false 52 prog_36_method_27_code []) = true := by decide +kernel
theorem gt_r53 : gt_t53.all (ai_chk gt_Fk gt_C6 gt_Wr 19 false 53 prog_36_method_28_code []) = true := by decide +kernel
theorem gt_r54 : gt_t54.all (ai_chk gt_Fk gt_C6 gt_Wr 17 false 54 prog_29_method_119_code []) = true := by decide +kernel
theorem gt_r55 : gt_t55.all (ai_chk gt_Fk gt_C6 gt_Wr 17 false 55 prog_29_method_120_code []) = true := by decide +kernel
theorem gt_r56 : gt_t56.all (ai_chk gt_Fk gt_C6 gt_Wr 16 false 56 prog_28_method_20_code []) = true := by decide +kernel
theorem gt_r57 : gt_t57.all (ai_chk gt_Fk gt_C6 gt_Wr 18 false 57 prog_33_method_17_code []) = true := by decide +kernel
theorem gt_r58 : gt_t58.all (ai_chk gt_Fk gt_C6 gt_Wr 20 false 58 prog_37_method_11_code []) = true := by decide +kernel
theorem gt_r59 : gt_t59.all (ai_chk gt_Fk gt_C6 gt_Wr 16 false 59 prog_28_method_18_code []) = true := by decide +kernel
theorem gt_r60 : gt_t60.all (ai_chk gt_Fk gt_C6 gt_Wr 6 false 60 prog_7_method_3_code []) = true := by decide +kernel
theorem gt_r61 : gt_t61.all (ai_chk gt_Fk gt_C6 gt_Wr 4 false 61 prog_5_method_2_code []) = true := by decide +kernel
theorem gt_r62 : gt_t62.all (ai_chk gt_Fk gt_C6 gt_Wr 6 false 62 prog_7_method_4_code []) = true := by decide +kernel
theorem gt_r63 : gt_t63.all (ai_chk gt_Fk gt_C6 gt_Wr 7 false 63 prog_8_method_2_code []) = true := by decide +kernel
theorem gt_r64 : gt_t64.all (ai_chk gt_Fk gt_C6 gt_Wr 6 false 64 prog_7_method_7_code []) = true := by decide +kernel
theorem gt_r65 : gt_t65.all (ai_chk gt_Fk gt_C6 gt_Wr 6 false 65 prog_7_method_8_code []) = true := by decide +kernel
theorem gt_r66 : gt_t66.all (ai_chk gt_Fk gt_C6 gt_Wr 8 false 66 prog_9_method_3_code []) = true := by decide +kernel
theorem gt_r67 : gt_t67.all (ai_chk gt_Fk gt_C6 gt_Wr 8 false 67 prog_9_method_4_code []) = true := by decide +kernel
theorem gt_r68 : gt_t68.all (ai_chk gt_Fk gt_C6 gt_Wr 6 false 68 prog_7_method_9_code []) = true := by decide +kernel
theorem gt_r69 : gt_t69.all (ai_chk gt_Fk gt_C6 gt_Wr 2 true 69 prog_3_method_1_code []) = true := by decide +kernel
theorem gt_r70 : gt_t70.all (ai_chk gt_Fk gt_C6 gt_Wr 6 false 70 prog_7_method_11_code []) = true := by decide +kernel
theorem gt_r71 : gt_t71.all (ai_chk gt_Fk gt_C6 gt_Wr 4 false 71 prog_5_method_4_code []) = true := by decide +kernel
theorem gt_r72 : gt_t72.all (ai_chk gt_Fk gt_C6 gt_Wr 8 false 72 prog_9_method_5_code []) = true := by decide +kernel
theorem gt_r73 : gt_t73.all (ai_chk gt_Fk gt_C6 gt_Wr 4 false 73 prog_5_method_3_code []) = true := by decide +kernel
theorem gt_r74 : gt_t74.all (ai_chk gt_Fk gt_C6 gt_Wr 1 false 74 prog_2_method_3_code []) = true := by decide +kernel
theorem gt_r75 : gt_t75.all (ai_chk gt_Fk gt_C6 gt_Wr 10 false 75 prog_11_method_4_code []) = true := by decide +kernel
theorem gt_r76 : gt_t76.all (ai_chk gt_Fk gt_C6 gt_Wr 8 false 76 prog_9_method_6_code []) = true := by decide +kernel
theorem gt_r77 : gt_t77.all (ai_chk gt_Fk gt_C6 gt_Wr 6 false 77 prog_7_method_5_code []) = true := by decide +kernel
end
section
/-! Rows checked. -/
theorem gt_r78 : gt_t78.all (ai_chk gt_Fk gt_C6 gt_Wr 6 false 78 prog_7_method_6_code []) = true := by decide +kernel
theorem gt_r79 : gt_t79.all (ai_chk gt_Fk gt_C6 gt_Wr 10 false 79 prog_11_method_7_code []) = true := by decide +kernel
theorem gt_r80 : gt_t80.all (ai_chk gt_Fk gt_C6 gt_Wr 10 false 80 prog_11_method_8_code []) = true := by decide +kernel
theorem gt_r81 : gt_t81.all (ai_chk gt_Fk gt_C6 gt_Wr 6 false 81 prog_7_method_10_code []) = true := by decide +kernel
theorem gt_r82 : gt_t82.all (ai_chk gt_Fk gt_C6 gt_Wr 10 false 82 prog_11_method_6_code []) = true := by decide +kernel
theorem gt_r83 : gt_t83.all (ai_chk gt_Fk gt_C6 gt_Wr 10 false 83 prog_11_method_9_code []) = true := by decide +kernel
theorem gt_r84 : gt_t84.all (ai_chk gt_Fk gt_C6 gt_Wr 1 false 84 prog_2_method_6_code []) = true := by decide +kernel
theorem gt_r85 : gt_t85.all (ai_chk gt_Fk gt_C6 gt_Wr 4 false 85 prog_5_method_5_code []) = true := by decide +kernel
theorem gt_r86 : gt_t86.all (ai_chk gt_Fk gt_C6 gt_Wr 4 false 86 prog_5_method_6_code []) = true := by decide +kernel
theorem gt_r87 : gt_t87.all (ai_chk gt_Fk gt_C6 gt_Wr 10 false 87 prog_11_method_5_code []) = true := by decide +kernel
theorem gt_r88 : gt_t88.all (ai_chk gt_Fk gt_C6 gt_Wr 4 false 88 prog_5_method_7_code []) = true := by decide +kernel
theorem gt_r89 : gt_t89.all (ai_chk gt_Fk gt_C6 gt_Wr 1 false 89 prog_2_method_4_code []) = true := by decide +kernel
theorem gt_r90 : gt_t90.all (ai_chk gt_Fk gt_C6 gt_Wr 1 false 90 prog_2_method_5_code []) = true := by decide +kernel
theorem gt_r91 : gt_t91.all (ai_chk gt_Fk gt_C6 gt_Wr 6 false 91 prog_7_method_12_code []) = true := by decide +kernel
theorem gt_r92 : gt_t92.all (ai_chk gt_Fk gt_C6 gt_Wr 12 false 92 method_7_code [(0, 8, 11, 28), (0, 8, 14, 15), (0, 8, 17, 30)]) = true := by decide +kernel
theorem gt_r93 : gt_t93.all (ai_chk gt_Fk gt_C6 gt_Wr 0 false 93 prog_1_method_6_code []) = true := by decide +kernel
theorem gt_r94 : gt_t94.all (ai_chk gt_Fk gt_C6 gt_Wr 12 false 94 method_8_code [(0, 10, 13, 13), (0, 10, 17, 28)]) = true := by decide +kernel
theorem gt_r95 : gt_t95.all (ai_chk gt_Fk gt_C6 gt_Wr 0 false 95 prog_1_method_7_code []) = true := by decide +kernel
theorem gt_r96 : gt_t96.all (ai_chk gt_Fk gt_C6 gt_Wr 11 false 96 prog_12_method_2_code []) = true := by decide +kernel
theorem gt_r97 : gt_t97.all (ai_chk gt_Fk gt_C6 gt_Wr 11 false 97 prog_12_method_4_code []) = true := by decide +kernel
end
section
/-! Rows checked. -/
theorem gt_r98 : gt_t98.all (ai_chk gt_Fk gt_C6 gt_Wr 11 false 98 prog_12_method_3_code []) = true := by decide +kernel
theorem gt_r99 : gt_t99.all (ai_chk gt_Fk gt_C6 gt_Wr 12 false 99 method_9_code [(0, 9, 12, 13)]) = true := by decide +kernel
theorem gt_r100 : gt_t100.all (ai_chk gt_Fk gt_C6 gt_Wr 0 false 100 prog_1_method_8_code []) = true := by decide +kernel
theorem gt_r101 : gt_t101.all (ai_chk gt_Fk gt_C6 gt_Wr 10 false 101 prog_11_method_10_code []) = true := by decide +kernel
theorem gt_r102 : gt_t102.all (ai_chk gt_Fk gt_C6 gt_Wr 13 true 102 prog_14_method_1_code []) = true := by decide +kernel
theorem gt_r103 : gt_t103.all (ai_chk gt_Fk gt_C6 gt_Wr 13 false 103 prog_14_method_2_code []) = true := by decide +kernel
theorem gt_r104 : gt_t104.all (ai_chk gt_Fk gt_C6 gt_Wr 13 false 104 prog_14_method_6_code []) = true := by decide +kernel
theorem gt_r105 : gt_t105.all (ai_chk gt_Fk gt_C6 gt_Wr 13 false 105 prog_14_method_3_code []) = true := by decide +kernel
theorem gt_r106 : gt_t106.all (ai_chk gt_Fk gt_C6 gt_Wr 13 false 106 prog_14_method_4_code []) = true := by decide +kernel
theorem gt_r107 : gt_t107.all (ai_chk gt_Fk gt_C6 gt_Wr 13 false 107 prog_14_method_5_code []) = true := by decide +kernel
theorem gt_r108 : gt_t108.all (ai_chk gt_Fk gt_C6 gt_Wr 13 false 108 prog_14_method_12_code []) = true := by decide +kernel
theorem gt_r109 : gt_t109.all (ai_chk gt_Fk gt_C6 gt_Wr 13 false 109 prog_14_method_11_code []) = true := by decide +kernel
theorem gt_r110 : gt_t110.all (ai_chk gt_Fk gt_C6 gt_Wr 13 false 110 prog_14_method_9_code []) = true := by decide +kernel
theorem gt_r111 : gt_t111.all (ai_chk gt_Fk gt_C6 gt_Wr 13 false 111 prog_14_method_7_code []) = true := by decide +kernel
theorem gt_r112 : gt_t112.all (ai_chk gt_Fk gt_C6 gt_Wr 13 false 112 prog_14_method_8_code []) = true := by decide +kernel
theorem gt_r113 : gt_t113.all (ai_chk gt_Fk gt_C6 gt_Wr 13 false 113 prog_14_method_10_code []) = true := by decide +kernel
theorem gt_r114 : gt_t114.all (ai_chk gt_Fk gt_C6 gt_Wr 13 false 114 prog_14_method_13_code []) = true := by decide +kernel
end
section
/-! Rows checked. -/
theorem gt_r115 : gt_t115.all (ai_chk gt_Fk gt_C6 gt_Wr 13 false 115 prog_14_method_42_code []) = true := by decide +kernel
theorem gt_r116 : gt_t116.all (ai_chk gt_Fk gt_C6 gt_Wr 13 false 116 prog_14_method_15_code []) = true := by decide +kernel
theorem gt_r117 : gt_t117.all (ai_chk gt_Fk gt_C6 gt_Wr 13 false 117 prog_14_method_16_code []) = true := by decide +kernel
theorem gt_r118 : gt_t118.all (ai_chk gt_Fk gt_C6 gt_Wr 13 false 118 prog_14_method_21_code []) = true := by decide +kernel
theorem gt_r119 : gt_t119.all (ai_chk gt_Fk gt_C6 gt_Wr 13 false 119 prog_14_method_14_code []) = true := by decide +kernel
theorem gt_r120 : gt_t120.all (ai_chk gt_Fk gt_C6 gt_Wr 13 false 120 prog_14_method_20_code []) = true := by decide +kernel
theorem gt_r121 : gt_t121.all (ai_chk gt_Fk gt_C6 gt_Wr 13 false 121 prog_14_method_18_code []) = true := by decide +kernel
theorem gt_r122 : gt_t122.all (ai_chk gt_Fk gt_C6 gt_Wr 13 false 122 prog_14_method_17_code []) = true := by decide +kernel
theorem gt_r123 : gt_t123.all (ai_chk gt_Fk gt_C6 gt_Wr 13 false 123 prog_14_method_19_code []) = true := by decide +kernel
theorem gt_r124 : gt_t124.all (ai_chk gt_Fk gt_C6 gt_Wr 13 false 124 prog_14_method_41_code []) = true := by decide +kernel
theorem gt_r125 : gt_t125.all (ai_chk gt_Fk gt_C6 gt_Wr 13 false 125 prog_14_method_36_code []) = true := by decide +kernel
theorem gt_r126 : gt_t126.all (ai_chk gt_Fk gt_C6 gt_Wr 13 false 126 prog_14_method_33_code []) = true := by decide +kernel
theorem gt_r127 : gt_t127.all (ai_chk gt_Fk gt_C6 gt_Wr 13 false 127 prog_14_method_32_code []) = true := by decide +kernel
end
section
/-! Rows checked. -/
theorem gt_r128 : gt_t128.all (ai_chk gt_Fk gt_C6 gt_Wr 13 false 128 prog_14_method_23_code []) = true := by decide +kernel
theorem gt_r129 : gt_t129.all (ai_chk gt_Fk gt_C6 gt_Wr 13 false 129 prog_14_method_34_code []) = true := by decide +kernel
theorem gt_r130 : gt_t130.all (ai_chk gt_Fk gt_C6 gt_Wr 13 false 130 prog_14_method_28_code []) = true := by decide +kernel
theorem gt_r131 : gt_t131.all (ai_chk gt_Fk gt_C6 gt_Wr 13 false 131 prog_14_method_31_code []) = true := by decide +kernel
theorem gt_r132 : gt_t132.all (ai_chk gt_Fk gt_C6 gt_Wr 13 false 132 prog_14_method_29_code []) = true := by decide +kernel
theorem gt_r133 : gt_t133.all (ai_chk gt_Fk gt_C6 gt_Wr 13 false 133 prog_14_method_25_code []) = true := by decide +kernel
theorem gt_r134 : gt_t134.all (ai_chk gt_Fk gt_C6 gt_Wr 13 false 134 prog_14_method_24_code []) = true := by decide +kernel
theorem gt_r135 : gt_t135.all (ai_chk gt_Fk gt_C6 gt_Wr 13 false 135 prog_14_method_26_code []) = true := by decide +kernel
theorem gt_r136 : gt_t136.all (ai_chk gt_Fk gt_C6 gt_Wr 13 false 136 prog_14_method_22_code []) = true := by decide +kernel
theorem gt_r137 : gt_t137.all (ai_chk gt_Fk gt_C6 gt_Wr 13 false 137 prog_14_method_27_code []) = true := by decide +kernel
theorem gt_r138 : gt_t138.all (ai_chk gt_Fk gt_C6 gt_Wr 13 false 138 prog_14_method_30_code []) = true := by decide +kernel
theorem gt_r139 : gt_t139.all (ai_chk gt_Fk gt_C6 gt_Wr 13 false 139 prog_14_method_40_code []) = true := by decide +kernel
end
section
/-! Rows checked. -/
theorem gt_r140 : gt_t140.all (ai_chk gt_Fk gt_C6 gt_Wr 13 false 140 prog_14_method_35_code []) = true := by decide +kernel
theorem gt_r141 : gt_t141.all (ai_chk gt_Fk gt_C6 gt_Wr 13 false 141 prog_14_method_37_code []) = true := by decide +kernel
theorem gt_r142 : gt_t142.all (ai_chk gt_Fk gt_C6 gt_Wr 13 false 142 prog_14_method_38_code []) = true := by decide +kernel
theorem gt_r143 : gt_t143.all (ai_chk gt_Fk gt_C6 gt_Wr 13 false 143 prog_14_method_39_code []) = true := by decide +kernel
theorem gt_r144 : gt_t144.all (ai_chk gt_Fk gt_C6 gt_Wr 13 false 144 prog_14_method_43_code []) = true := by decide +kernel
theorem gt_r145 : gt_t145.all (ai_chk gt_Fk gt_C6 gt_Wr 13 false 145 prog_14_method_46_code []) = true := by decide +kernel
theorem gt_r146 : gt_t146.all (ai_chk gt_Fk gt_C6 gt_Wr 13 false 146 prog_14_method_45_code []) = true := by decide +kernel
theorem gt_r147 : gt_t147.all (ai_chk gt_Fk gt_C6 gt_Wr 13 false 147 prog_14_method_44_code []) = true := by decide +kernel
theorem gt_r148 : gt_t148.all (ai_chk gt_Fk gt_C6 gt_Wr 13 false 148 prog_14_method_47_code []) = true := by decide +kernel
theorem gt_r149 : gt_t149.all (ai_chk gt_Fk gt_C6 gt_Wr 13 false 149 prog_14_method_48_code []) = true := by decide +kernel
theorem gt_r150 : gt_t150.all (ai_chk gt_Fk gt_C6 gt_Wr 12 false 150 code []) = true := by decide +kernel
end
section
/-! The whole program keeps what it must. -/
def gt_mo (mi : Nat) (v : MethodName × ByteArray × List (Nat × Nat × Nat × Nat)) : Prop := plainFor v.1 = true ∧ Cond.initialized v.1.cls ∈ gt_Ts ∧ (v.1.cls ≠ "java/lang/invoke/MethodHandle" ∧ v.1.cls ≠ "java/lang/invoke/VarHandle") ∧ ai_cw gt_Ts v.1 v.2.1 (gt_P.2.2.1 mi).1 (gt_P.2.2.1 mi).2 v.2.2 ∧
  (v.1.name = "<init>" → v.2.2 = [] ∧ (gt_P.2.2.1 mi).2 = none ∧ Cond.code v.1 v.2.1 (gt_P.2.2.1 mi).1 none ∈ gt_Ts) ∧ (gt_P.2.2.1 mi).1 ≤ 45 ∧ ∀ pc r, gt_P.1 mi pc = some r → ai_rok gt_Ts gt_cl gt_P gt_M gt_ex mi v.1 v.2.1 v.2.2 pc r
theorem gt_hf_mem {mi pc x pc' : Nat} : ∀ {l : List (Nat × Nat × Nat × Nat)}, gt_hf l mi pc x = some (some pc') → (mi, pc, x, pc') ∈ l
  | [], h => by cases h
  | q :: t, h => by
    unfold gt_hf at h
    split at h
    · rename_i hb
      simp only [Bool.and_eq_true, Nat.beq_eq] at hb
      obtain ⟨q1, q2, q3, q4⟩ := q
      obtain ⟨rfl, rfl, rfl⟩ := hb
      cases h
      exact List.mem_cons_self
    · exact List.mem_cons_of_mem _ (gt_hf_mem h)
theorem gt_hf_none : ∀ (l : List (Nat × Nat × Nat × Nat)) (mi pc x : Nat), gt_hf l mi pc x ≠ some none
  | [], _, _, _ => by simp [gt_hf]
  | q :: t, mi, pc, x => by
    unfold gt_hf
    split
    · simp
    · exact gt_hf_none t mi pc x
theorem gt_hnil {mi pc : Nat} {own : String} (h : gt_wr.contains mi = false) : ai_hnd gt_Ts own [] gt_ex (gt_P.2.1 mi pc) pc := by
  refine ⟨fun x _ q hq => (by cases hq), fun x pc' hx => ?_⟩
  have hx : gt_hnd mi pc x = some (some pc') := hx
  unfold gt_hnd at hx
  rw [h] at hx
  cases hx
section GTM
variable {mi o : Nat} {y : MethodName} {cc : ByteArray} {t : List (Nat × ai_I)}
theorem gt_mo_init (h1 : plainFor y = true) (h2 : Cond.initialized y.cls ∈ gt_Ts) (h3 : y.cls ≠ "java/lang/invoke/MethodHandle" ∧ y.cls ≠ "java/lang/invoke/VarHandle") (h4 : Cond.code y cc (gt_P.2.2.1 mi).1 none ∈ gt_Ts) (h5 : (gt_P.2.2.1 mi).2 = none ∧ (gt_P.2.2.1 mi).1 ≤ 45 ∧ gt_wr.contains mi = false ∧ y.name = "<init>") (_ : (0 : Nat) = 0) (ho : gt_own o = y.cls) (ht : ∀ pc, gt_P.1 mi pc = ai_find2 t pc) (hr : t.all (ai_chk gt_Fk gt_C6 gt_Wr o true mi cc []) = true) : gt_mo mi (y, cc, []) :=
  ⟨h1, h2, h3, .inl ⟨rfl, by rw [h5.1]; exact h4⟩, fun _ => ⟨rfl, h5.1, h4⟩, h5.2.1, ai_rows_ok gt_FH gt_FO (fun _ => h5.2.2.2) ho (fun pc _ => gt_hnil h5.2.2.1) ht hr⟩
theorem gt_mo_plain (h1 : plainFor y = true) (h2 : Cond.initialized y.cls ∈ gt_Ts) (h3 : y.cls ≠ "java/lang/invoke/MethodHandle" ∧ y.cls ≠ "java/lang/invoke/VarHandle") (h4 : Cond.code y cc (gt_P.2.2.1 mi).1 (gt_P.2.2.1 mi).2 ∈ gt_Ts) (h5 : (gt_P.2.2.1 mi).1 ≤ 45 ∧ gt_wr.contains mi = false) (h6 : y.name ≠ "<init>") (ho : gt_own o = y.cls) (ht : ∀ pc, gt_P.1 mi pc = ai_find2 t pc) (hr : t.all (ai_chk gt_Fk gt_C6 gt_Wr o false mi cc []) = true) : gt_mo mi (y, cc, []) :=
  ⟨h1, h2, h3, .inl ⟨rfl, h4⟩, fun z => absurd z h6, h5.1, ai_rows_ok gt_FH gt_FO (fun z => by cases z) ho (fun pc _ => gt_hnil h5.2) ht hr⟩
theorem gt_mo_with {hh : List (Nat × Nat × Nat × Nat)} (h1 : plainFor y = true) (h2 : Cond.initialized y.cls ∈ gt_Ts) (h3 : y.cls ≠ "java/lang/invoke/MethodHandle" ∧ y.cls ≠ "java/lang/invoke/VarHandle") (h4 : Cond.codeWith y cc (gt_P.2.2.1 mi).1 (gt_P.2.2.1 mi).2 hh ∈ gt_Ts) (h5 : (gt_P.2.2.1 mi).1 ≤ 45 ∧ y.name ≠ "<init>") (h6 : ∀ pc, gt_Wr mi pc = true → ai_hnd gt_Ts y.cls hh gt_ex (gt_P.2.1 mi pc) pc) (ho : gt_own o = y.cls) (ht : ∀ pc, gt_P.1 mi pc = ai_find2 t pc) (hr : t.all (ai_chk gt_Fk gt_C6 gt_Wr o false mi cc hh) = true) : gt_mo mi (y, cc, hh) :=
  ⟨h1, h2, h3, .inr h4, fun z => absurd z h5.2, h5.1, ai_rows_ok gt_FH gt_FO (fun z => by cases z) ho h6 ht hr⟩
end GTM

theorem gt_h15 : ∀ pc, gt_Wr 15 pc = true → ai_hnd gt_Ts "GoalDeskLaw" [(0, 9, 12, 13), (0, 9, 16, 15)] gt_ex (gt_P.2.1 15 pc) pc := by
  intro pc hw
  have hpc : pc = 4 := by
    simp [gt_Wr, gt_wr, gt_hl] at hw
    omega
  subst hpc
  refine ⟨fun x hx => ?_, fun x pc' hx => ?_⟩
  · have hx : gt_hf gt_hl 15 4 x = some none := hx
    exact absurd hx (gt_hf_none _ _ _ _)
  · have hx : gt_hf gt_hl 15 4 x = some (some pc') := hx
    have hm := gt_hf_mem hx
    have : (x = 0 ∧ pc' = 12) ∨ (x = 1 ∧ pc' = 16) := by simpa [gt_hl] using hm
    rcases this with ⟨rfl, rfl⟩ | ⟨rfl, rfl⟩
    · refine ⟨[], (0, 9, 12, 13), [(0, 9, 16, 15)], rfl, rfl, by decide +kernel, ⟨by decide, "java/lang/IllegalArgumentException", gt_w_in (i := 508) (by decide +kernel), .inl ⟨rfl, gt_w_in (i := 516) (by decide +kernel)⟩⟩, fun z hz => .inr ?_⟩
      simp at hz
    · refine ⟨[(0, 9, 12, 13)], (0, 9, 16, 15), [], rfl, rfl, by decide +kernel, ⟨by decide, "java/lang/IllegalStateException", gt_w_in (i := 509) (by decide +kernel), .inl ⟨rfl, gt_w_in (i := 580) (by decide +kernel)⟩⟩, fun z hz => .inr ?_⟩
      have hz : z = (0, 9, 12, 13) := by simpa using hz
      rcases hz with rfl
      · exact ⟨by decide, "java/lang/IllegalArgumentException", gt_w_in (i := 508) (by decide +kernel), .inr ⟨rfl, gt_X_in (by decide +kernel)⟩⟩
theorem gt_h17 : ∀ pc, gt_Wr 17 pc = true → ai_hnd gt_Ts "GoalDeskLaw" [(0, 8, 11, 13), (0, 8, 14, 15)] gt_ex (gt_P.2.1 17 pc) pc := by
  intro pc hw
  have hpc : pc = 3 := by
    simp [gt_Wr, gt_wr, gt_hl] at hw
    omega
  subst hpc
  refine ⟨fun x hx => ?_, fun x pc' hx => ?_⟩
  · have hx : gt_hf gt_hl 17 3 x = some none := hx
    exact absurd hx (gt_hf_none _ _ _ _)
  · have hx : gt_hf gt_hl 17 3 x = some (some pc') := hx
    have hm := gt_hf_mem hx
    have : (x = 0 ∧ pc' = 11) ∨ (x = 1 ∧ pc' = 14) := by simpa [gt_hl] using hm
    rcases this with ⟨rfl, rfl⟩ | ⟨rfl, rfl⟩
    · refine ⟨[], (0, 8, 11, 13), [(0, 8, 14, 15)], rfl, rfl, by decide +kernel, ⟨by decide, "java/lang/IllegalArgumentException", gt_w_in (i := 508) (by decide +kernel), .inl ⟨rfl, gt_w_in (i := 516) (by decide +kernel)⟩⟩, fun z hz => .inr ?_⟩
      simp at hz
    · refine ⟨[(0, 8, 11, 13)], (0, 8, 14, 15), [], rfl, rfl, by decide +kernel, ⟨by decide, "java/lang/IllegalStateException", gt_w_in (i := 509) (by decide +kernel), .inl ⟨rfl, gt_w_in (i := 580) (by decide +kernel)⟩⟩, fun z hz => .inr ?_⟩
      have hz : z = (0, 8, 11, 13) := by simpa using hz
      rcases hz with rfl
      · exact ⟨by decide, "java/lang/IllegalArgumentException", gt_w_in (i := 508) (by decide +kernel), .inr ⟨rfl, gt_X_in (by decide +kernel)⟩⟩
theorem gt_h33 : ∀ pc, gt_Wr 33 pc = true → ai_hnd gt_Ts "GoalDeskLaw" [(0, 5, 8, 13)] gt_ex (gt_P.2.1 33 pc) pc := by
  intro pc hw
  have hpc : pc = 2 := by
    simp [gt_Wr, gt_wr, gt_hl] at hw
    omega
  subst hpc
  refine ⟨fun x hx => ?_, fun x pc' hx => ?_⟩
  · have hx : gt_hf gt_hl 33 2 x = some none := hx
    exact absurd hx (gt_hf_none _ _ _ _)
  · have hx : gt_hf gt_hl 33 2 x = some (some pc') := hx
    have hm := gt_hf_mem hx
    have : (x = 0 ∧ pc' = 8) := by simpa [gt_hl] using hm
    rcases this with ⟨rfl, rfl⟩
    · refine ⟨[], (0, 5, 8, 13), [], rfl, rfl, by decide +kernel, ⟨by decide, "java/lang/IllegalArgumentException", gt_w_in (i := 508) (by decide +kernel), .inl ⟨rfl, gt_w_in (i := 516) (by decide +kernel)⟩⟩, fun z hz => .inr ?_⟩
      simp at hz
theorem gt_h35 : ∀ pc, gt_Wr 35 pc = true → ai_hnd gt_Ts "GoalDeskLaw" [(0, 8, 11, 13), (0, 8, 14, 28), (0, 8, 17, 15), (0, 8, 20, 30)] gt_ex (gt_P.2.1 35 pc) pc := by
  intro pc hw
  have hpc : pc = 3 := by
    simp [gt_Wr, gt_wr, gt_hl] at hw
    omega
  subst hpc
  refine ⟨fun x hx => ?_, fun x pc' hx => ?_⟩
  · have hx : gt_hf gt_hl 35 3 x = some none := hx
    exact absurd hx (gt_hf_none _ _ _ _)
  · have hx : gt_hf gt_hl 35 3 x = some (some pc') := hx
    have hm := gt_hf_mem hx
    have : (x = 0 ∧ pc' = 11) ∨ (x = 2 ∧ pc' = 14) ∨ (x = 1 ∧ pc' = 17) ∨ (x = 3 ∧ pc' = 20) := by simpa [gt_hl] using hm
    rcases this with ⟨rfl, rfl⟩ | ⟨rfl, rfl⟩ | ⟨rfl, rfl⟩ | ⟨rfl, rfl⟩
    · refine ⟨[], (0, 8, 11, 13), [(0, 8, 14, 28), (0, 8, 17, 15), (0, 8, 20, 30)], rfl, rfl, by decide +kernel, ⟨by decide, "java/lang/IllegalArgumentException", gt_w_in (i := 508) (by decide +kernel), .inl ⟨rfl, gt_w_in (i := 516) (by decide +kernel)⟩⟩, fun z hz => .inr ?_⟩
      simp at hz
    · refine ⟨[(0, 8, 11, 13)], (0, 8, 14, 28), [(0, 8, 17, 15), (0, 8, 20, 30)], rfl, rfl, by decide +kernel, ⟨by decide, "java/util/NoSuchElementException", gt_w_in (i := 662) (by decide +kernel), .inl ⟨rfl, gt_w_in (i := 1013) (by decide +kernel)⟩⟩, fun z hz => .inr ?_⟩
      have hz : z = (0, 8, 11, 13) := by simpa using hz
      rcases hz with rfl
      · exact ⟨by decide, "java/lang/IllegalArgumentException", gt_w_in (i := 508) (by decide +kernel), .inr ⟨rfl, gt_X_in (by decide +kernel)⟩⟩
    · refine ⟨[(0, 8, 11, 13), (0, 8, 14, 28)], (0, 8, 17, 15), [(0, 8, 20, 30)], rfl, rfl, by decide +kernel, ⟨by decide, "java/lang/IllegalStateException", gt_w_in (i := 509) (by decide +kernel), .inl ⟨rfl, gt_w_in (i := 580) (by decide +kernel)⟩⟩, fun z hz => .inr ?_⟩
      have hz : z = (0, 8, 11, 13) ∨ z = (0, 8, 14, 28) := by simpa using hz
      rcases hz with rfl | rfl
      · exact ⟨by decide, "java/lang/IllegalArgumentException", gt_w_in (i := 508) (by decide +kernel), .inr ⟨rfl, gt_X_in (by decide +kernel)⟩⟩
      · exact ⟨by decide, "java/util/NoSuchElementException", gt_w_in (i := 662) (by decide +kernel), .inr ⟨rfl, gt_X_in (by decide +kernel)⟩⟩
    · refine ⟨[(0, 8, 11, 13), (0, 8, 14, 28), (0, 8, 17, 15)], (0, 8, 20, 30), [], rfl, rfl, by decide +kernel, ⟨by decide, "java/lang/UnsupportedOperationException", gt_w_in (i := 663) (by decide +kernel), .inl ⟨rfl, gt_w_in (i := 932) (by decide +kernel)⟩⟩, fun z hz => .inr ?_⟩
      have hz : z = (0, 8, 11, 13) ∨ z = (0, 8, 14, 28) ∨ z = (0, 8, 17, 15) := by simpa using hz
      rcases hz with rfl | rfl | rfl
      · exact ⟨by decide, "java/lang/IllegalArgumentException", gt_w_in (i := 508) (by decide +kernel), .inr ⟨rfl, gt_X_in (by decide +kernel)⟩⟩
      · exact ⟨by decide, "java/util/NoSuchElementException", gt_w_in (i := 662) (by decide +kernel), .inr ⟨rfl, gt_X_in (by decide +kernel)⟩⟩
      · exact ⟨by decide, "java/lang/IllegalStateException", gt_w_in (i := 509) (by decide +kernel), .inr ⟨rfl, gt_X_in (by decide +kernel)⟩⟩
theorem gt_h92 : ∀ pc, gt_Wr 92 pc = true → ai_hnd gt_Ts "GoalDeskLaw" [(0, 8, 11, 28), (0, 8, 14, 15), (0, 8, 17, 30)] gt_ex (gt_P.2.1 92 pc) pc := by
  intro pc hw
  have hpc : pc = 3 := by
    simp [gt_Wr, gt_wr, gt_hl] at hw
    omega
  subst hpc
  refine ⟨fun x hx => ?_, fun x pc' hx => ?_⟩
  · have hx : gt_hf gt_hl 92 3 x = some none := hx
    exact absurd hx (gt_hf_none _ _ _ _)
  · have hx : gt_hf gt_hl 92 3 x = some (some pc') := hx
    have hm := gt_hf_mem hx
    have : (x = 2 ∧ pc' = 11) ∨ (x = 1 ∧ pc' = 14) ∨ (x = 3 ∧ pc' = 17) := by simpa [gt_hl] using hm
    rcases this with ⟨rfl, rfl⟩ | ⟨rfl, rfl⟩ | ⟨rfl, rfl⟩
    · refine ⟨[], (0, 8, 11, 28), [(0, 8, 14, 15), (0, 8, 17, 30)], rfl, rfl, by decide +kernel, ⟨by decide, "java/util/NoSuchElementException", gt_w_in (i := 662) (by decide +kernel), .inl ⟨rfl, gt_w_in (i := 1013) (by decide +kernel)⟩⟩, fun z hz => .inr ?_⟩
      simp at hz
    · refine ⟨[(0, 8, 11, 28)], (0, 8, 14, 15), [(0, 8, 17, 30)], rfl, rfl, by decide +kernel, ⟨by decide, "java/lang/IllegalStateException", gt_w_in (i := 509) (by decide +kernel), .inl ⟨rfl, gt_w_in (i := 580) (by decide +kernel)⟩⟩, fun z hz => .inr ?_⟩
      have hz : z = (0, 8, 11, 28) := by simpa using hz
      rcases hz with rfl
      · exact ⟨by decide, "java/util/NoSuchElementException", gt_w_in (i := 662) (by decide +kernel), .inr ⟨rfl, gt_X_in (by decide +kernel)⟩⟩
    · refine ⟨[(0, 8, 11, 28), (0, 8, 14, 15)], (0, 8, 17, 30), [], rfl, rfl, by decide +kernel, ⟨by decide, "java/lang/UnsupportedOperationException", gt_w_in (i := 663) (by decide +kernel), .inl ⟨rfl, gt_w_in (i := 932) (by decide +kernel)⟩⟩, fun z hz => .inr ?_⟩
      have hz : z = (0, 8, 11, 28) ∨ z = (0, 8, 14, 15) := by simpa using hz
      rcases hz with rfl | rfl
      · exact ⟨by decide, "java/util/NoSuchElementException", gt_w_in (i := 662) (by decide +kernel), .inr ⟨rfl, gt_X_in (by decide +kernel)⟩⟩
      · exact ⟨by decide, "java/lang/IllegalStateException", gt_w_in (i := 509) (by decide +kernel), .inr ⟨rfl, gt_X_in (by decide +kernel)⟩⟩
theorem gt_h94 : ∀ pc, gt_Wr 94 pc = true → ai_hnd gt_Ts "GoalDeskLaw" [(0, 10, 13, 13), (0, 10, 17, 28)] gt_ex (gt_P.2.1 94 pc) pc := by
  intro pc hw
  have hpc : pc = 5 := by
    simp [gt_Wr, gt_wr, gt_hl] at hw
    omega
  subst hpc
  refine ⟨fun x hx => ?_, fun x pc' hx => ?_⟩
  · have hx : gt_hf gt_hl 94 5 x = some none := hx
    exact absurd hx (gt_hf_none _ _ _ _)
  · have hx : gt_hf gt_hl 94 5 x = some (some pc') := hx
    have hm := gt_hf_mem hx
    have : (x = 0 ∧ pc' = 13) ∨ (x = 2 ∧ pc' = 17) := by simpa [gt_hl] using hm
    rcases this with ⟨rfl, rfl⟩ | ⟨rfl, rfl⟩
    · refine ⟨[], (0, 10, 13, 13), [(0, 10, 17, 28)], rfl, rfl, by decide +kernel, ⟨by decide, "java/lang/IllegalArgumentException", gt_w_in (i := 508) (by decide +kernel), .inl ⟨rfl, gt_w_in (i := 516) (by decide +kernel)⟩⟩, fun z hz => .inr ?_⟩
      simp at hz
    · refine ⟨[(0, 10, 13, 13)], (0, 10, 17, 28), [], rfl, rfl, by decide +kernel, ⟨by decide, "java/util/NoSuchElementException", gt_w_in (i := 662) (by decide +kernel), .inl ⟨rfl, gt_w_in (i := 1013) (by decide +kernel)⟩⟩, fun z hz => .inr ?_⟩
      have hz : z = (0, 10, 13, 13) := by simpa using hz
      rcases hz with rfl
      · exact ⟨by decide, "java/lang/IllegalArgumentException", gt_w_in (i := 508) (by decide +kernel), .inr ⟨rfl, gt_X_in (by decide +kernel)⟩⟩
theorem gt_h99 : ∀ pc, gt_Wr 99 pc = true → ai_hnd gt_Ts "GoalDeskLaw" [(0, 9, 12, 13)] gt_ex (gt_P.2.1 99 pc) pc := by
  intro pc hw
  have hpc : pc = 4 := by
    simp [gt_Wr, gt_wr, gt_hl] at hw
    omega
  subst hpc
  refine ⟨fun x hx => ?_, fun x pc' hx => ?_⟩
  · have hx : gt_hf gt_hl 99 4 x = some none := hx
    exact absurd hx (gt_hf_none _ _ _ _)
  · have hx : gt_hf gt_hl 99 4 x = some (some pc') := hx
    have hm := gt_hf_mem hx
    have : (x = 0 ∧ pc' = 12) := by simpa [gt_hl] using hm
    rcases this with ⟨rfl, rfl⟩
    · refine ⟨[], (0, 9, 12, 13), [], rfl, rfl, by decide +kernel, ⟨by decide, "java/lang/IllegalArgumentException", gt_w_in (i := 508) (by decide +kernel), .inl ⟨rfl, gt_w_in (i := 516) (by decide +kernel)⟩⟩, fun z hz => .inr ?_⟩
      simp at hz
theorem gt_m0 : gt_mo 0 (⟨"GoalDesk", "<init>", "()V"⟩, prog_1_method_1_code, []) := gt_mo_init (o := 0) (t := gt_t0) (by decide +kernel) (gt_w_in (i := 96) (by decide +kernel)) (by decide +kernel) (gt_w_in (i := 129) (by decide +kernel)) (by decide +kernel) rfl (by decide +kernel) (fun _ => rfl) gt_r0
theorem gt_m1 : gt_mo 1 (⟨"GoalDesk$Terms", "<init>", "()V"⟩, prog_9_method_1_code, []) := gt_mo_init (o := 8) (t := gt_t1) (by decide +kernel) (gt_w_in (i := 97) (by decide +kernel)) (by decide +kernel) (gt_w_in (i := 139) (by decide +kernel)) (by decide +kernel) rfl (by decide +kernel) (fun _ => rfl) gt_r1
theorem gt_m2 : gt_mo 2 (⟨"GoalDesk$Variables", "<init>", "(LGoalDesk$Terms;)V"⟩, prog_11_method_1_code, []) := gt_mo_init (o := 10) (t := gt_t2) (by decide +kernel) (gt_w_in (i := 98) (by decide +kernel)) (by decide +kernel) (gt_w_in (i := 164) (by decide +kernel)) (by decide +kernel) rfl (by decide +kernel) (fun _ => rfl) gt_r2
theorem gt_m3 : gt_mo 3 (⟨"GoalDesk$Clause", "<init>", "(I)V"⟩, prog_4_method_1_code, []) := gt_mo_init (o := 3) (t := gt_t3) (by decide +kernel) (gt_w_in (i := 99) (by decide +kernel)) (by decide +kernel) (gt_w_in (i := 222) (by decide +kernel)) (by decide +kernel) rfl (by decide +kernel) (fun _ => rfl) gt_r3
theorem gt_m4 : gt_mo 4 (⟨"GoalDesk$Reader", "<init>", "(LGoalDesk$Terms;)V"⟩, prog_6_method_1_code, []) := gt_mo_init (o := 5) (t := gt_t4) (by decide +kernel) (gt_w_in (i := 100) (by decide +kernel)) (by decide +kernel) (gt_w_in (i := 261) (by decide +kernel)) (by decide +kernel) rfl (by decide +kernel) (fun _ => rfl) gt_r4
theorem gt_m5 : gt_mo 5 (⟨"GoalDesk$Search", "<init>", "(LGoalDesk$Terms;LGoalDesk$Variables;)V"⟩, prog_7_method_1_code, []) := gt_mo_init (o := 6) (t := gt_t5) (by decide +kernel) (gt_w_in (i := 101) (by decide +kernel)) (by decide +kernel) (gt_w_in (i := 284) (by decide +kernel)) (by decide +kernel) rfl (by decide +kernel) (fun _ => rfl) gt_r5
theorem gt_m6 : gt_mo 6 (⟨"java/util/ArrayList", "<init>", "()V"⟩, prog_28_method_2_code, []) := gt_mo_init (o := 16) (t := gt_t6) (by decide +kernel) (gt_w_in (i := 104) (by decide +kernel)) (by decide +kernel) (gt_w_in (i := 290) (by decide +kernel)) (by decide +kernel) rfl (by decide +kernel) (fun _ => rfl) gt_r6
theorem gt_m7 : gt_mo 7 (⟨"java/util/AbstractList", "<init>", "()V"⟩, prog_27_method_1_code, []) := gt_mo_init (o := 15) (t := gt_t7) (by decide +kernel) (gt_w_in (i := 103) (by decide +kernel)) (by decide +kernel) (gt_w_in (i := 293) (by decide +kernel)) (by decide +kernel) rfl (by decide +kernel) (fun _ => rfl) gt_r7
theorem gt_m8 : gt_mo 8 (⟨"java/util/AbstractCollection", "<init>", "()V"⟩, prog_26_method_1_code, []) := gt_mo_init (o := 14) (t := gt_t8) (by decide +kernel) (gt_w_in (i := 102) (by decide +kernel)) (by decide +kernel) (gt_w_in (i := 296) (by decide +kernel)) (by decide +kernel) rfl (by decide +kernel) (fun _ => rfl) gt_r8
theorem gt_m9 : gt_mo 9 (⟨"GoalDesk$Steps", "<init>", "()V"⟩, prog_8_method_1_code, []) := gt_mo_init (o := 7) (t := gt_t9) (by decide +kernel) (gt_w_in (i := 105) (by decide +kernel)) (by decide +kernel) (gt_w_in (i := 316) (by decide +kernel)) (by decide +kernel) rfl (by decide +kernel) (fun _ => rfl) gt_r9
theorem gt_m10 : gt_mo 10 (⟨"GoalDesk$Pairs", "<init>", "(LGoalDesk$Terms;LGoalDesk$Variables;LGoalDesk$Steps;)V"⟩, prog_5_method_1_code, []) := gt_mo_init (o := 4) (t := gt_t10) (by decide +kernel) (gt_w_in (i := 106) (by decide +kernel)) (by decide +kernel) (gt_w_in (i := 328) (by decide +kernel)) (by decide +kernel) rfl (by decide +kernel) (fun _ => rfl) gt_r10
theorem gt_m11 : gt_mo 11 (⟨"GoalDesk$Aparts", "<init>", "(LGoalDesk$Variables;LGoalDesk$Pairs;)V"⟩, prog_2_method_1_code, []) := gt_mo_init (o := 1) (t := gt_t11) (by decide +kernel) (gt_w_in (i := 107) (by decide +kernel)) (by decide +kernel) (gt_w_in (i := 362) (by decide +kernel)) (by decide +kernel) rfl (by decide +kernel) (fun _ => rfl) gt_r11
theorem gt_m12 : gt_mo 12 (⟨"GoalDesk$Writer", "<init>", "(LGoalDesk$Terms;LGoalDesk$Variables;)V"⟩, prog_12_method_1_code, []) := gt_mo_init (o := 11) (t := gt_t12) (by decide +kernel) (gt_w_in (i := 108) (by decide +kernel)) (by decide +kernel) (gt_w_in (i := 450) (by decide +kernel)) (by decide +kernel) rfl (by decide +kernel) (fun _ => rfl) gt_r12
theorem gt_m13 : gt_mo 13 (⟨"GoalDesk", "count", "(I)I"⟩, prog_1_method_9_code, []) := gt_mo_plain (o := 0) (t := gt_t13) (by decide +kernel) (gt_w_in (i := 96) (by decide +kernel)) (by decide +kernel) (gt_w_in (i := 500) (by decide +kernel)) (by decide +kernel) (by decide +kernel) (by decide +kernel) (fun _ => rfl) gt_r13
theorem gt_m14 : gt_mo 14 (⟨"GoalDesk$Aparts", "waitingNow", "()I"⟩, prog_2_method_7_code, []) := gt_mo_plain (o := 1) (t := gt_t14) (by decide +kernel) (gt_w_in (i := 107) (by decide +kernel)) (by decide +kernel) (gt_w_in (i := 504) (by decide +kernel)) (by decide +kernel) (by decide +kernel) (by decide +kernel) (fun _ => rfl) gt_r14
theorem gt_m15 : gt_mo 15 (⟨"GoalDeskLaw", "type", "(LGoalDesk;J[J)I"⟩, method_3_code, [(0, 9, 12, 13), (0, 9, 16, 15)]) := gt_mo_with (o := 12) (t := gt_t15) (by decide +kernel) (gt_w_in (i := 95) (by decide +kernel)) (by decide +kernel) (gt_w_in (i := 507) (by decide +kernel)) (by decide +kernel) gt_h15 (by decide +kernel) (fun _ => rfl) gt_r15
theorem gt_m16 : gt_mo 16 (⟨"GoalDesk", "type", "(J)I"⟩, prog_1_method_2_code, []) := gt_mo_plain (o := 0) (t := gt_t16) (by decide +kernel) (gt_w_in (i := 96) (by decide +kernel)) (by decide +kernel) (gt_w_in (i := 513) (by decide +kernel)) (by decide +kernel) (by decide +kernel) (by decide +kernel) (fun _ => rfl) gt_r16
theorem gt_m17 : gt_mo 17 (⟨"GoalDeskLaw", "add", "(LGoalDesk;[J)I"⟩, method_4_code, [(0, 8, 11, 13), (0, 8, 14, 15)]) := gt_mo_with (o := 12) (t := gt_t17) (by decide +kernel) (gt_w_in (i := 95) (by decide +kernel)) (by decide +kernel) (gt_w_in (i := 595) (by decide +kernel)) (by decide +kernel) gt_h17 (by decide +kernel) (fun _ => rfl) gt_r17
theorem gt_m18 : gt_mo 18 (⟨"GoalDesk", "add", "()I"⟩, prog_1_method_3_code, []) := gt_mo_plain (o := 0) (t := gt_t18) (by decide +kernel) (gt_w_in (i := 96) (by decide +kernel)) (by decide +kernel) (gt_w_in (i := 599) (by decide +kernel)) (by decide +kernel) (by decide +kernel) (by decide +kernel) (fun _ => rfl) gt_r18
theorem gt_m19 : gt_mo 19 (⟨"GoalDesk$Reader", "readClause", "([CILGoalDesk$Clause;)Z"⟩, prog_6_method_2_code, []) := gt_mo_plain (o := 5) (t := gt_t19) (by decide +kernel) (gt_w_in (i := 100) (by decide +kernel)) (by decide +kernel) (gt_w_in (i := 603) (by decide +kernel)) (by decide +kernel) (by decide +kernel) (by decide +kernel) (fun _ => rfl) gt_r19
theorem gt_m20 : gt_mo 20 (⟨"GoalDesk$Reader", "begin", "([CILGoalDesk$Clause;)V"⟩, prog_6_method_4_code, []) := gt_mo_plain (o := 5) (t := gt_t20) (by decide +kernel) (gt_w_in (i := 100) (by decide +kernel)) (by decide +kernel) (gt_w_in (i := 607) (by decide +kernel)) (by decide +kernel) (by decide +kernel) (by decide +kernel) (fun _ => rfl) gt_r20
theorem gt_m21 : gt_mo 21 (⟨"GoalDesk$Reader", "here", "()C"⟩, prog_6_method_5_code, []) := gt_mo_plain (o := 5) (t := gt_t21) (by decide +kernel) (gt_w_in (i := 100) (by decide +kernel)) (by decide +kernel) (gt_w_in (i := 611) (by decide +kernel)) (by decide +kernel) (by decide +kernel) (by decide +kernel) (fun _ => rfl) gt_r21
theorem gt_m22 : gt_mo 22 (⟨"GoalDesk", "isSmall", "(C)Z"⟩, prog_1_method_12_code, []) := gt_mo_plain (o := 0) (t := gt_t22) (by decide +kernel) (gt_w_in (i := 96) (by decide +kernel)) (by decide +kernel) (gt_w_in (i := 614) (by decide +kernel)) (by decide +kernel) (by decide +kernel) (by decide +kernel) (fun _ => rfl) gt_r22
theorem gt_m23 : gt_mo 23 (⟨"GoalDesk$Reader", "readTerm", "(I)Z"⟩, prog_6_method_9_code, []) := gt_mo_plain (o := 5) (t := gt_t23) (by decide +kernel) (gt_w_in (i := 100) (by decide +kernel)) (by decide +kernel) (gt_w_in (i := 618) (by decide +kernel)) (by decide +kernel) (by decide +kernel) (by decide +kernel) (fun _ => rfl) gt_r23
theorem gt_m24 : gt_mo 24 (⟨"GoalDesk", "isVariable", "(C)Z"⟩, prog_1_method_10_code, []) := gt_mo_plain (o := 0) (t := gt_t24) (by decide +kernel) (gt_w_in (i := 96) (by decide +kernel)) (by decide +kernel) (gt_w_in (i := 621) (by decide +kernel)) (by decide +kernel) (by decide +kernel) (by decide +kernel) (fun _ => rfl) gt_r24
theorem gt_m25 : gt_mo 25 (⟨"GoalDesk", "isDigit", "(C)Z"⟩, prog_1_method_11_code, []) := gt_mo_plain (o := 0) (t := gt_t25) (by decide +kernel) (gt_w_in (i := 96) (by decide +kernel)) (by decide +kernel) (gt_w_in (i := 624) (by decide +kernel)) (by decide +kernel) (by decide +kernel) (by decide +kernel) (fun _ => rfl) gt_r25
theorem gt_m26 : gt_mo 26 (⟨"GoalDesk$Reader", "readArguments", "(II)Z"⟩, prog_6_method_10_code, []) := gt_mo_plain (o := 5) (t := gt_t26) (by decide +kernel) (gt_w_in (i := 100) (by decide +kernel)) (by decide +kernel) (gt_w_in (i := 628) (by decide +kernel)) (by decide +kernel) (by decide +kernel) (by decide +kernel) (fun _ => rfl) gt_r26
theorem gt_m27 : gt_mo 27 (⟨"GoalDesk$Reader", "skip", "(C)Z"⟩, prog_6_method_6_code, []) := gt_mo_plain (o := 5) (t := gt_t27) (by decide +kernel) (gt_w_in (i := 100) (by decide +kernel)) (by decide +kernel) (gt_w_in (i := 632) (by decide +kernel)) (by decide +kernel) (by decide +kernel) (by decide +kernel) (fun _ => rfl) gt_r27
theorem gt_m28 : gt_mo 28 (⟨"GoalDesk$Reader", "readGoals", "()Z"⟩, prog_6_method_7_code, []) := gt_mo_plain (o := 5) (t := gt_t28) (by decide +kernel) (gt_w_in (i := 100) (by decide +kernel)) (by decide +kernel) (gt_w_in (i := 636) (by decide +kernel)) (by decide +kernel) (by decide +kernel) (by decide +kernel) (fun _ => rfl) gt_r28
theorem gt_m29 : gt_mo 29 (⟨"GoalDesk$Reader", "readGoal", "()Z"⟩, prog_6_method_8_code, []) := gt_mo_plain (o := 5) (t := gt_t29) (by decide +kernel) (gt_w_in (i := 100) (by decide +kernel)) (by decide +kernel) (gt_w_in (i := 640) (by decide +kernel)) (by decide +kernel) (by decide +kernel) (by decide +kernel) (fun _ => rfl) gt_r29
theorem gt_m30 : gt_mo 30 (⟨"GoalDesk$Clause", "putGoal", "(CII)V"⟩, prog_4_method_2_code, []) := gt_mo_plain (o := 3) (t := gt_t30) (by decide +kernel) (gt_w_in (i := 99) (by decide +kernel)) (by decide +kernel) (gt_w_in (i := 644) (by decide +kernel)) (by decide +kernel) (by decide +kernel) (by decide +kernel) (fun _ => rfl) gt_r30
theorem gt_m31 : gt_mo 31 (⟨"GoalDesk$Reader", "rankVariables", "()V"⟩, prog_6_method_11_code, []) := gt_mo_plain (o := 5) (t := gt_t31) (by decide +kernel) (gt_w_in (i := 100) (by decide +kernel)) (by decide +kernel) (gt_w_in (i := 648) (by decide +kernel)) (by decide +kernel) (by decide +kernel) (by decide +kernel) (fun _ => rfl) gt_r31
theorem gt_m32 : gt_mo 32 (⟨"java/util/Arrays", "fill", "([II)V"⟩, prog_29_method_103_code, []) := gt_mo_plain (o := 17) (t := gt_t32) (by decide +kernel) (gt_w_in (i := 115) (by decide +kernel)) (by decide +kernel) (gt_w_in (i := 651) (by decide +kernel)) (by decide +kernel) (by decide +kernel) (by decide +kernel) (fun _ => rfl) gt_r32
theorem gt_m33 : gt_mo 33 (⟨"GoalDeskLaw", "drop", "(LGoalDesk;I)I"⟩, method_5_code, [(0, 5, 8, 13)]) := gt_mo_with (o := 12) (t := gt_t33) (by decide +kernel) (gt_w_in (i := 95) (by decide +kernel)) (by decide +kernel) (gt_w_in (i := 654) (by decide +kernel)) (by decide +kernel) gt_h33 (by decide +kernel) (fun _ => rfl) gt_r33
theorem gt_m34 : gt_mo 34 (⟨"GoalDesk", "drop", "(I)V"⟩, prog_1_method_4_code, []) := gt_mo_plain (o := 0) (t := gt_t34) (by decide +kernel) (gt_w_in (i := 96) (by decide +kernel)) (by decide +kernel) (gt_w_in (i := 658) (by decide +kernel)) (by decide +kernel) (by decide +kernel) (by decide +kernel) (fun _ => rfl) gt_r34
theorem gt_m35 : gt_mo 35 (⟨"GoalDeskLaw", "ask", "(LGoalDesk;[J)I"⟩, method_6_code, [(0, 8, 11, 13), (0, 8, 14, 28), (0, 8, 17, 15), (0, 8, 20, 30)]) := gt_mo_with (o := 12) (t := gt_t35) (by decide +kernel) (gt_w_in (i := 95) (by decide +kernel)) (by decide +kernel) (gt_w_in (i := 661) (by decide +kernel)) (by decide +kernel) gt_h35 (by decide +kernel) (fun _ => rfl) gt_r35
theorem gt_m36 : gt_mo 36 (⟨"GoalDesk", "ask", "()I"⟩, prog_1_method_5_code, []) := gt_mo_plain (o := 0) (t := gt_t36) (by decide +kernel) (gt_w_in (i := 96) (by decide +kernel)) (by decide +kernel) (gt_w_in (i := 667) (by decide +kernel)) (by decide +kernel) (by decide +kernel) (by decide +kernel) (fun _ => rfl) gt_r36
theorem gt_m37 : gt_mo 37 (⟨"GoalDesk$Reader", "readQuestion", "([CILGoalDesk$Clause;)Z"⟩, prog_6_method_3_code, []) := gt_mo_plain (o := 5) (t := gt_t37) (by decide +kernel) (gt_w_in (i := 100) (by decide +kernel)) (by decide +kernel) (gt_w_in (i := 671) (by decide +kernel)) (by decide +kernel) (by decide +kernel) (by decide +kernel) (fun _ => rfl) gt_r37
theorem gt_m38 : gt_mo 38 (⟨"GoalDesk$Search", "begin", "(LGoalDesk$Clause;[LGoalDesk$Clause;I)V"⟩, prog_7_method_2_code, []) := gt_mo_plain (o := 6) (t := gt_t38) (by decide +kernel) (gt_w_in (i := 101) (by decide +kernel)) (by decide +kernel) (gt_w_in (i := 675) (by decide +kernel)) (by decide +kernel) (by decide +kernel) (by decide +kernel) (fun _ => rfl) gt_r38
theorem gt_m39 : gt_mo 39 (⟨"GoalDesk$Variables", "clear", "()V"⟩, prog_11_method_2_code, []) := gt_mo_plain (o := 10) (t := gt_t39) (by decide +kernel) (gt_w_in (i := 98) (by decide +kernel)) (by decide +kernel) (gt_w_in (i := 679) (by decide +kernel)) (by decide +kernel) (by decide +kernel) (by decide +kernel) (fun _ => rfl) gt_r39
theorem gt_m40 : gt_mo 40 (⟨"GoalDesk$Aparts", "clear", "()V"⟩, prog_2_method_2_code, []) := gt_mo_plain (o := 1) (t := gt_t40) (by decide +kernel) (gt_w_in (i := 107) (by decide +kernel)) (by decide +kernel) (gt_w_in (i := 683) (by decide +kernel)) (by decide +kernel) (by decide +kernel) (by decide +kernel) (fun _ => rfl) gt_r40
theorem gt_m41 : gt_mo 41 (⟨"GoalDesk$Variables", "make", "(I)I"⟩, prog_11_method_3_code, []) := gt_mo_plain (o := 10) (t := gt_t41) (by decide +kernel) (gt_w_in (i := 98) (by decide +kernel)) (by decide +kernel) (gt_w_in (i := 687) (by decide +kernel)) (by decide +kernel) (by decide +kernel) (by decide +kernel) (fun _ => rfl) gt_r41
theorem gt_m42 : gt_mo 42 (⟨"java/util/Arrays", "copyOf", "([II)[I"⟩, prog_29_method_123_code, []) := gt_mo_plain (o := 17) (t := gt_t42) (by decide +kernel) (gt_w_in (i := 115) (by decide +kernel)) (by decide +kernel) (gt_w_in (i := 690) (by decide +kernel)) (by decide +kernel) (by decide +kernel) (by decide +kernel) (fun _ => rfl) gt_r42
theorem gt_m43 : gt_mo 43 (⟨"GoalDesk$Search", "putBodyInFront", "(LGoalDesk$Clause;II)V"⟩, prog_7_method_13_code, []) := gt_mo_plain (o := 6) (t := gt_t43) (by decide +kernel) (gt_w_in (i := 101) (by decide +kernel)) (by decide +kernel) (gt_w_in (i := 708) (by decide +kernel)) (by decide +kernel) (by decide +kernel) (by decide +kernel) (fun _ => rfl) gt_r43
theorem gt_m44 : gt_mo 44 (⟨"GoalDesk$Terms", "termOf", "(II)I"⟩, prog_9_method_2_code, []) := gt_mo_plain (o := 8) (t := gt_t44) (by decide +kernel) (gt_w_in (i := 97) (by decide +kernel)) (by decide +kernel) (gt_w_in (i := 712) (by decide +kernel)) (by decide +kernel) (by decide +kernel) (by decide +kernel) (fun _ => rfl) gt_r44
theorem gt_m45 : gt_mo 45 (⟨"GoalDesk$Search", "putGoalInFront", "(CIII)V"⟩, prog_7_method_14_code, []) := gt_mo_plain (o := 6) (t := gt_t45) (by decide +kernel) (gt_w_in (i := 101) (by decide +kernel)) (by decide +kernel) (gt_w_in (i := 716) (by decide +kernel)) (by decide +kernel) (by decide +kernel) (by decide +kernel) (fun _ => rfl) gt_r45
theorem gt_m46 : gt_mo 46 (⟨"java/util/ArrayList", "size", "()I"⟩, prog_28_method_8_code, []) := gt_mo_plain (o := 16) (t := gt_t46) (by decide +kernel) (gt_w_in (i := 104) (by decide +kernel)) (by decide +kernel) (gt_w_in (i := 720) (by decide +kernel)) (by decide +kernel) (by decide +kernel) (by decide +kernel) (fun _ => rfl) gt_r46
theorem gt_m47 : gt_mo 47 (⟨"GoalDesk$ToDo", "<init>", "()V"⟩, prog_10_method_1_code, []) := gt_mo_init (o := 9) (t := gt_t47) (by decide +kernel) (gt_w_in (i := 118) (by decide +kernel)) (by decide +kernel) (gt_w_in (i := 725) (by decide +kernel)) (by decide +kernel) rfl (by decide +kernel) (fun _ => rfl) gt_r47
theorem gt_m48 : gt_mo 48 (⟨"java/util/ArrayList", "add", "(Ljava/lang/Object;)Z"⟩, prog_28_method_25_code, []) := gt_mo_plain (o := 16) (t := gt_t48) (by decide +kernel) (gt_w_in (i := 104) (by decide +kernel)) (by decide +kernel) (gt_w_in (i := 746) (by decide +kernel)) (by decide +kernel) (by decide +kernel) (by decide +kernel) (fun _ => rfl) gt_r48
theorem gt_m49 : gt_mo 49 (⟨"java/util/ArrayList", "add", "(Ljava/lang/Object;[Ljava/lang/Object;I)V"⟩, prog_28_method_24_code, []) := gt_mo_plain (o := 16) (t := gt_t49) (by decide +kernel) (gt_w_in (i := 104) (by decide +kernel)) (by decide +kernel) (gt_w_in (i := 750) (by decide +kernel)) (by decide +kernel) (by decide +kernel) (by decide +kernel) (fun _ => rfl) gt_r49
theorem gt_m50 : gt_mo 50 (⟨"java/util/ArrayList", "grow", "()[Ljava/lang/Object;"⟩, prog_28_method_7_code, []) := gt_mo_plain (o := 16) (t := gt_t50) (by decide +kernel) (gt_w_in (i := 104) (by decide +kernel)) (by decide +kernel) (gt_w_in (i := 754) (by decide +kernel)) (by decide +kernel) (by decide +kernel) (by decide +kernel) (fun _ => rfl) gt_r50
theorem gt_m51 : gt_mo 51 (⟨"java/util/ArrayList", "grow", "(I)[Ljava/lang/Object;"⟩, prog_28_method_6_code, []) := gt_mo_plain (o := 16) (t := gt_t51) (by decide +kernel) (gt_w_in (i := 104) (by decide +kernel)) (by decide +kernel) (gt_w_in (i := 758) (by decide +kernel)) (by decide +kernel) (by decide +kernel) (by decide +kernel) (fun _ => rfl) gt_r51
theorem gt_m52 : gt_mo 52 (⟨"jdk/internal/util/ArraysSupport", "newLength", "(III)I"⟩, prog_36_method_27_code, []) := gt_mo_plain (o := 19) (t := gt_t52) (by decide +kernel) (gt_w_in (i := 119) (by decide +kernel)) (by decide +kernel) (gt_w_in (i := 761) (by decide +kernel)) (by decide +kernel) (by decide +kernel) (by decide +kernel) (fun _ => rfl) gt_r52
theorem gt_m53 : gt_mo 53 (⟨"jdk/internal/util/ArraysSupport", "hugeLength", "(II)I"⟩, prog_36_method_28_code, []) := gt_mo_plain (o := 19) (t := gt_t53) (by decide +kernel) (gt_w_in (i := 119) (by decide +kernel)) (by decide +kernel) (gt_w_in (i := 768) (by decide +kernel)) (by decide +kernel) (by decide +kernel) (by decide +kernel) (fun _ => rfl) gt_r53
theorem gt_m54 : gt_mo 54 (⟨"java/util/Arrays", "copyOf", "([Ljava/lang/Object;I)[Ljava/lang/Object;"⟩, prog_29_method_119_code, []) := gt_mo_plain (o := 17) (t := gt_t54) (by decide +kernel) (gt_w_in (i := 115) (by decide +kernel)) (by decide +kernel) (gt_w_in (i := 771) (by decide +kernel)) (by decide +kernel) (by decide +kernel) (by decide +kernel) (fun _ => rfl) gt_r54
theorem gt_m55 : gt_mo 55 (⟨"java/util/Arrays", "copyOf", "([Ljava/lang/Object;ILjava/lang/Class;)[Ljava/lang/Object;"⟩, prog_29_method_120_code, []) := gt_mo_plain (o := 17) (t := gt_t55) (by decide +kernel) (gt_w_in (i := 115) (by decide +kernel)) (by decide +kernel) (gt_w_in (i := 796) (by decide +kernel)) (by decide +kernel) (by decide +kernel) (by decide +kernel) (fun _ => rfl) gt_r55
theorem gt_m56 : gt_mo 56 (⟨"java/util/ArrayList", "get", "(I)Ljava/lang/Object;"⟩, prog_28_method_20_code, []) := gt_mo_plain (o := 16) (t := gt_t56) (by decide +kernel) (gt_w_in (i := 104) (by decide +kernel)) (by decide +kernel) (gt_w_in (i := 805) (by decide +kernel)) (by decide +kernel) (by decide +kernel) (by decide +kernel) (fun _ => rfl) gt_r56
theorem gt_m57 : gt_mo 57 (⟨"java/util/Objects", "checkIndex", "(II)I"⟩, prog_33_method_17_code, []) := gt_mo_plain (o := 18) (t := gt_t57) (by decide +kernel) (gt_w_in (i := 120) (by decide +kernel)) (by decide +kernel) (gt_w_in (i := 808) (by decide +kernel)) (by decide +kernel) (by decide +kernel) (by decide +kernel) (fun _ => rfl) gt_r57
theorem gt_m58 : gt_mo 58 (⟨"jdk/internal/util/Preconditions", "checkIndex", "(IILjava/util/function/BiFunction;)I"⟩, prog_37_method_11_code, []) := gt_mo_plain (o := 20) (t := gt_t58) (by decide +kernel) (gt_w_in (i := 121) (by decide +kernel)) (by decide +kernel) (gt_w_in (i := 811) (by decide +kernel)) (by decide +kernel) (by decide +kernel) (by decide +kernel) (fun _ => rfl) gt_r58
theorem gt_m59 : gt_mo 59 (⟨"java/util/ArrayList", "elementData", "(I)Ljava/lang/Object;"⟩, prog_28_method_18_code, []) := gt_mo_plain (o := 16) (t := gt_t59) (by decide +kernel) (gt_w_in (i := 104) (by decide +kernel)) (by decide +kernel) (gt_w_in (i := 815) (by decide +kernel)) (by decide +kernel) (by decide +kernel) (by decide +kernel) (fun _ => rfl) gt_r59
theorem gt_m60 : gt_mo 60 (⟨"GoalDesk$Search", "seek", "(Z)Z"⟩, prog_7_method_3_code, []) := gt_mo_plain (o := 6) (t := gt_t60) (by decide +kernel) (gt_w_in (i := 101) (by decide +kernel)) (by decide +kernel) (gt_w_in (i := 819) (by decide +kernel)) (by decide +kernel) (by decide +kernel) (by decide +kernel) (fun _ => rfl) gt_r60
theorem gt_m61 : gt_mo 61 (⟨"GoalDesk$Pairs", "clear", "()V"⟩, prog_5_method_2_code, []) := gt_mo_plain (o := 4) (t := gt_t61) (by decide +kernel) (gt_w_in (i := 106) (by decide +kernel)) (by decide +kernel) (gt_w_in (i := 824) (by decide +kernel)) (by decide +kernel) (by decide +kernel) (by decide +kernel) (fun _ => rfl) gt_r61
theorem gt_m62 : gt_mo 62 (⟨"GoalDesk$Search", "doFirst", "(LGoalDesk$ToDo;)Z"⟩, prog_7_method_4_code, []) := gt_mo_plain (o := 6) (t := gt_t62) (by decide +kernel) (gt_w_in (i := 101) (by decide +kernel)) (by decide +kernel) (gt_w_in (i := 828) (by decide +kernel)) (by decide +kernel) (by decide +kernel) (by decide +kernel) (fun _ => rfl) gt_r62
theorem gt_m63 : gt_mo 63 (⟨"GoalDesk$Steps", "takeOne", "()V"⟩, prog_8_method_2_code, []) := gt_mo_plain (o := 7) (t := gt_t63) (by decide +kernel) (gt_w_in (i := 105) (by decide +kernel)) (by decide +kernel) (gt_w_in (i := 832) (by decide +kernel)) (by decide +kernel) (by decide +kernel) (by decide +kernel) (fun _ => rfl) gt_r63
theorem gt_m64 : gt_mo 64 (⟨"GoalDesk$Search", "beginCall", "(I)Z"⟩, prog_7_method_7_code, []) := gt_mo_plain (o := 6) (t := gt_t64) (by decide +kernel) (gt_w_in (i := 101) (by decide +kernel)) (by decide +kernel) (gt_w_in (i := 839) (by decide +kernel)) (by decide +kernel) (by decide +kernel) (by decide +kernel) (fun _ => rfl) gt_r64
theorem gt_m65 : gt_mo 65 (⟨"GoalDesk$Search", "findClause", "(II)I"⟩, prog_7_method_8_code, []) := gt_mo_plain (o := 6) (t := gt_t65) (by decide +kernel) (gt_w_in (i := 101) (by decide +kernel)) (by decide +kernel) (gt_w_in (i := 843) (by decide +kernel)) (by decide +kernel) (by decide +kernel) (by decide +kernel) (fun _ => rfl) gt_r65
theorem gt_m66 : gt_mo 66 (⟨"GoalDesk$Terms", "letterOf", "(I)C"⟩, prog_9_method_3_code, []) := gt_mo_plain (o := 8) (t := gt_t66) (by decide +kernel) (gt_w_in (i := 97) (by decide +kernel)) (by decide +kernel) (gt_w_in (i := 847) (by decide +kernel)) (by decide +kernel) (by decide +kernel) (by decide +kernel) (fun _ => rfl) gt_r66
theorem gt_m67 : gt_mo 67 (⟨"GoalDesk$Terms", "arityOf", "(I)I"⟩, prog_9_method_4_code, []) := gt_mo_plain (o := 8) (t := gt_t67) (by decide +kernel) (gt_w_in (i := 97) (by decide +kernel)) (by decide +kernel) (gt_w_in (i := 851) (by decide +kernel)) (by decide +kernel) (by decide +kernel) (by decide +kernel) (fun _ => rfl) gt_r67
theorem gt_m68 : gt_mo 68 (⟨"GoalDesk$Search", "leaveChoice", "(II)V"⟩, prog_7_method_9_code, []) := gt_mo_plain (o := 6) (t := gt_t68) (by decide +kernel) (gt_w_in (i := 101) (by decide +kernel)) (by decide +kernel) (gt_w_in (i := 855) (by decide +kernel)) (by decide +kernel) (by decide +kernel) (by decide +kernel) (fun _ => rfl) gt_r68
theorem gt_m69 : gt_mo 69 (⟨"GoalDesk$Choice", "<init>", "()V"⟩, prog_3_method_1_code, []) := gt_mo_init (o := 2) (t := gt_t69) (by decide +kernel) (gt_w_in (i := 122) (by decide +kernel)) (by decide +kernel) (gt_w_in (i := 860) (by decide +kernel)) (by decide +kernel) rfl (by decide +kernel) (fun _ => rfl) gt_r69
theorem gt_m70 : gt_mo 70 (⟨"GoalDesk$Search", "takeClause", "(III)V"⟩, prog_7_method_11_code, []) := gt_mo_plain (o := 6) (t := gt_t70) (by decide +kernel) (gt_w_in (i := 101) (by decide +kernel)) (by decide +kernel) (gt_w_in (i := 896) (by decide +kernel)) (by decide +kernel) (by decide +kernel) (by decide +kernel) (fun _ => rfl) gt_r70
theorem gt_m71 : gt_mo 71 (⟨"GoalDesk$Pairs", "putArguments", "(II)V"⟩, prog_5_method_4_code, []) := gt_mo_plain (o := 4) (t := gt_t71) (by decide +kernel) (gt_w_in (i := 106) (by decide +kernel)) (by decide +kernel) (gt_w_in (i := 900) (by decide +kernel)) (by decide +kernel) (by decide +kernel) (by decide +kernel) (fun _ => rfl) gt_r71
theorem gt_m72 : gt_mo 72 (⟨"GoalDesk$Terms", "argumentOf", "(II)I"⟩, prog_9_method_5_code, []) := gt_mo_plain (o := 8) (t := gt_t72) (by decide +kernel) (gt_w_in (i := 97) (by decide +kernel)) (by decide +kernel) (gt_w_in (i := 905) (by decide +kernel)) (by decide +kernel) (by decide +kernel) (by decide +kernel) (fun _ => rfl) gt_r72
theorem gt_m73 : gt_mo 73 (⟨"GoalDesk$Pairs", "put", "(II)V"⟩, prog_5_method_3_code, []) := gt_mo_plain (o := 4) (t := gt_t73) (by decide +kernel) (gt_w_in (i := 106) (by decide +kernel)) (by decide +kernel) (gt_w_in (i := 909) (by decide +kernel)) (by decide +kernel) (by decide +kernel) (by decide +kernel) (fun _ => rfl) gt_r73
theorem gt_m74 : gt_mo 74 (⟨"GoalDesk$Aparts", "putNewest", "(II)V"⟩, prog_2_method_3_code, []) := gt_mo_plain (o := 1) (t := gt_t74) (by decide +kernel) (gt_w_in (i := 107) (by decide +kernel)) (by decide +kernel) (gt_w_in (i := 914) (by decide +kernel)) (by decide +kernel) (by decide +kernel) (by decide +kernel) (fun _ => rfl) gt_r74
theorem gt_m75 : gt_mo 75 (⟨"GoalDesk$Variables", "valueOf", "(I)I"⟩, prog_11_method_4_code, []) := gt_mo_plain (o := 10) (t := gt_t75) (by decide +kernel) (gt_w_in (i := 98) (by decide +kernel)) (by decide +kernel) (gt_w_in (i := 918) (by decide +kernel)) (by decide +kernel) (by decide +kernel) (by decide +kernel) (fun _ => rfl) gt_r75
theorem gt_m76 : gt_mo 76 (⟨"GoalDesk$Terms", "variableOf", "(I)I"⟩, prog_9_method_6_code, []) := gt_mo_plain (o := 8) (t := gt_t76) (by decide +kernel) (gt_w_in (i := 97) (by decide +kernel)) (by decide +kernel) (gt_w_in (i := 924) (by decide +kernel)) (by decide +kernel) (by decide +kernel) (by decide +kernel) (fun _ => rfl) gt_r76
theorem gt_m77 : gt_mo 77 (⟨"GoalDesk$Search", "isLess", "(II)Z"⟩, prog_7_method_5_code, []) := gt_mo_plain (o := 6) (t := gt_t77) (by decide +kernel) (gt_w_in (i := 101) (by decide +kernel)) (by decide +kernel) (gt_w_in (i := 928) (by decide +kernel)) (by decide +kernel) (by decide +kernel) (by decide +kernel) (fun _ => rfl) gt_r77
theorem gt_m78 : gt_mo 78 (⟨"GoalDesk$Search", "sleepOn", "(II)V"⟩, prog_7_method_6_code, []) := gt_mo_plain (o := 6) (t := gt_t78) (by decide +kernel) (gt_w_in (i := 101) (by decide +kernel)) (by decide +kernel) (gt_w_in (i := 948) (by decide +kernel)) (by decide +kernel) (by decide +kernel) (by decide +kernel) (fun _ => rfl) gt_r78
theorem gt_m79 : gt_mo 79 (⟨"GoalDesk$Variables", "putToSleep", "(II)V"⟩, prog_11_method_7_code, []) := gt_mo_plain (o := 10) (t := gt_t79) (by decide +kernel) (gt_w_in (i := 98) (by decide +kernel)) (by decide +kernel) (gt_w_in (i := 952) (by decide +kernel)) (by decide +kernel) (by decide +kernel) (by decide +kernel) (fun _ => rfl) gt_r79
theorem gt_m80 : gt_mo 80 (⟨"GoalDesk$Variables", "linkBehind", "(III)V"⟩, prog_11_method_8_code, []) := gt_mo_plain (o := 10) (t := gt_t80) (by decide +kernel) (gt_w_in (i := 98) (by decide +kernel)) (by decide +kernel) (gt_w_in (i := 956) (by decide +kernel)) (by decide +kernel) (by decide +kernel) (by decide +kernel) (fun _ => rfl) gt_r80
theorem gt_m81 : gt_mo 81 (⟨"GoalDesk$Search", "goBack", "(LGoalDesk$Choice;)V"⟩, prog_7_method_10_code, []) := gt_mo_plain (o := 6) (t := gt_t81) (by decide +kernel) (gt_w_in (i := 101) (by decide +kernel)) (by decide +kernel) (gt_w_in (i := 960) (by decide +kernel)) (by decide +kernel) (by decide +kernel) (by decide +kernel) (fun _ => rfl) gt_r81
theorem gt_m82 : gt_mo 82 (⟨"GoalDesk$Variables", "free", "(I)V"⟩, prog_11_method_6_code, []) := gt_mo_plain (o := 10) (t := gt_t82) (by decide +kernel) (gt_w_in (i := 98) (by decide +kernel)) (by decide +kernel) (gt_w_in (i := 964) (by decide +kernel)) (by decide +kernel) (by decide +kernel) (by decide +kernel) (fun _ => rfl) gt_r82
theorem gt_m83 : gt_mo 83 (⟨"GoalDesk$Variables", "unlink", "(II)V"⟩, prog_11_method_9_code, []) := gt_mo_plain (o := 10) (t := gt_t83) (by decide +kernel) (gt_w_in (i := 98) (by decide +kernel)) (by decide +kernel) (gt_w_in (i := 968) (by decide +kernel)) (by decide +kernel) (by decide +kernel) (by decide +kernel) (fun _ => rfl) gt_r83
theorem gt_m84 : gt_mo 84 (⟨"GoalDesk$Aparts", "goBack", "(II)V"⟩, prog_2_method_6_code, []) := gt_mo_plain (o := 1) (t := gt_t84) (by decide +kernel) (gt_w_in (i := 107) (by decide +kernel)) (by decide +kernel) (gt_w_in (i := 972) (by decide +kernel)) (by decide +kernel) (by decide +kernel) (by decide +kernel) (fun _ => rfl) gt_r84
theorem gt_m85 : gt_mo 85 (⟨"GoalDesk$Pairs", "makeSame", "(Z)Z"⟩, prog_5_method_5_code, []) := gt_mo_plain (o := 4) (t := gt_t85) (by decide +kernel) (gt_w_in (i := 106) (by decide +kernel)) (by decide +kernel) (gt_w_in (i := 976) (by decide +kernel)) (by decide +kernel) (by decide +kernel) (by decide +kernel) (fun _ => rfl) gt_r85
theorem gt_m86 : gt_mo 86 (⟨"GoalDesk$Pairs", "makePairSame", "(IIZ)Z"⟩, prog_5_method_6_code, []) := gt_mo_plain (o := 4) (t := gt_t86) (by decide +kernel) (gt_w_in (i := 106) (by decide +kernel)) (by decide +kernel) (gt_w_in (i := 982) (by decide +kernel)) (by decide +kernel) (by decide +kernel) (by decide +kernel) (fun _ => rfl) gt_r86
theorem gt_m87 : gt_mo 87 (⟨"GoalDesk$Variables", "bind", "(II)V"⟩, prog_11_method_5_code, []) := gt_mo_plain (o := 10) (t := gt_t87) (by decide +kernel) (gt_w_in (i := 98) (by decide +kernel)) (by decide +kernel) (gt_w_in (i := 990) (by decide +kernel)) (by decide +kernel) (by decide +kernel) (by decide +kernel) (fun _ => rfl) gt_r87
theorem gt_m88 : gt_mo 88 (⟨"GoalDesk$Pairs", "wake", "(I)V"⟩, prog_5_method_7_code, []) := gt_mo_plain (o := 4) (t := gt_t88) (by decide +kernel) (gt_w_in (i := 106) (by decide +kernel)) (by decide +kernel) (gt_w_in (i := 995) (by decide +kernel)) (by decide +kernel) (by decide +kernel) (by decide +kernel) (fun _ => rfl) gt_r88
theorem gt_m89 : gt_mo 89 (⟨"GoalDesk$Aparts", "hold", "(I)Z"⟩, prog_2_method_4_code, []) := gt_mo_plain (o := 1) (t := gt_t89) (by decide +kernel) (gt_w_in (i := 107) (by decide +kernel)) (by decide +kernel) (gt_w_in (i := 999) (by decide +kernel)) (by decide +kernel) (by decide +kernel) (by decide +kernel) (fun _ => rfl) gt_r89
theorem gt_m90 : gt_mo 90 (⟨"GoalDesk$Aparts", "settle", "(I)V"⟩, prog_2_method_5_code, []) := gt_mo_plain (o := 1) (t := gt_t90) (by decide +kernel) (gt_w_in (i := 107) (by decide +kernel)) (by decide +kernel) (gt_w_in (i := 1006) (by decide +kernel)) (by decide +kernel) (by decide +kernel) (by decide +kernel) (fun _ => rfl) gt_r90
theorem gt_m91 : gt_mo 91 (⟨"GoalDesk$Search", "putInFront", "()V"⟩, prog_7_method_12_code, []) := gt_mo_plain (o := 6) (t := gt_t91) (by decide +kernel) (gt_w_in (i := 101) (by decide +kernel)) (by decide +kernel) (gt_w_in (i := 1010) (by decide +kernel)) (by decide +kernel) (by decide +kernel) (by decide +kernel) (fun _ => rfl) gt_r91
theorem gt_m92 : gt_mo 92 (⟨"GoalDeskLaw", "next", "(LGoalDesk;[J)I"⟩, method_7_code, [(0, 8, 11, 28), (0, 8, 14, 15), (0, 8, 17, 30)]) := gt_mo_with (o := 12) (t := gt_t92) (by decide +kernel) (gt_w_in (i := 95) (by decide +kernel)) (by decide +kernel) (gt_w_in (i := 1028) (by decide +kernel)) (by decide +kernel) gt_h92 (by decide +kernel) (fun _ => rfl) gt_r92
theorem gt_m93 : gt_mo 93 (⟨"GoalDesk", "next", "()I"⟩, prog_1_method_6_code, []) := gt_mo_plain (o := 0) (t := gt_t93) (by decide +kernel) (gt_w_in (i := 96) (by decide +kernel)) (by decide +kernel) (gt_w_in (i := 1032) (by decide +kernel)) (by decide +kernel) (by decide +kernel) (by decide +kernel) (fun _ => rfl) gt_r93
theorem gt_m94 : gt_mo 94 (⟨"GoalDeskLaw", "letter", "(LGoalDesk;II[J)I"⟩, method_8_code, [(0, 10, 13, 13), (0, 10, 17, 28)]) := gt_mo_with (o := 12) (t := gt_t94) (by decide +kernel) (gt_w_in (i := 95) (by decide +kernel)) (by decide +kernel) (gt_w_in (i := 1035) (by decide +kernel)) (by decide +kernel) gt_h94 (by decide +kernel) (fun _ => rfl) gt_r94
theorem gt_m95 : gt_mo 95 (⟨"GoalDesk", "letter", "(II)I"⟩, prog_1_method_7_code, []) := gt_mo_plain (o := 0) (t := gt_t95) (by decide +kernel) (gt_w_in (i := 96) (by decide +kernel)) (by decide +kernel) (gt_w_in (i := 1039) (by decide +kernel)) (by decide +kernel) (by decide +kernel) (by decide +kernel) (fun _ => rfl) gt_r95
theorem gt_m96 : gt_mo 96 (⟨"GoalDesk$Writer", "write", "(I)I"⟩, prog_12_method_2_code, []) := gt_mo_plain (o := 11) (t := gt_t96) (by decide +kernel) (gt_w_in (i := 108) (by decide +kernel)) (by decide +kernel) (gt_w_in (i := 1043) (by decide +kernel)) (by decide +kernel) (by decide +kernel) (by decide +kernel) (fun _ => rfl) gt_r96
theorem gt_m97 : gt_mo 97 (⟨"GoalDesk$Writer", "writeTerm", "(II)V"⟩, prog_12_method_4_code, []) := gt_mo_plain (o := 11) (t := gt_t97) (by decide +kernel) (gt_w_in (i := 108) (by decide +kernel)) (by decide +kernel) (gt_w_in (i := 1047) (by decide +kernel)) (by decide +kernel) (by decide +kernel) (by decide +kernel) (fun _ => rfl) gt_r97
theorem gt_m98 : gt_mo 98 (⟨"GoalDesk$Writer", "put", "(C)V"⟩, prog_12_method_3_code, []) := gt_mo_plain (o := 11) (t := gt_t98) (by decide +kernel) (gt_w_in (i := 108) (by decide +kernel)) (by decide +kernel) (gt_w_in (i := 1052) (by decide +kernel)) (by decide +kernel) (by decide +kernel) (by decide +kernel) (fun _ => rfl) gt_r98
theorem gt_m99 : gt_mo 99 (⟨"GoalDeskLaw", "sleeping", "(LGoalDesk;I[J)I"⟩, method_9_code, [(0, 9, 12, 13)]) := gt_mo_with (o := 12) (t := gt_t99) (by decide +kernel) (gt_w_in (i := 95) (by decide +kernel)) (by decide +kernel) (gt_w_in (i := 1058) (by decide +kernel)) (by decide +kernel) gt_h99 (by decide +kernel) (fun _ => rfl) gt_r99
theorem gt_m100 : gt_mo 100 (⟨"GoalDesk", "sleeping", "(I)I"⟩, prog_1_method_8_code, []) := gt_mo_plain (o := 0) (t := gt_t100) (by decide +kernel) (gt_w_in (i := 96) (by decide +kernel)) (by decide +kernel) (gt_w_in (i := 1062) (by decide +kernel)) (by decide +kernel) (by decide +kernel) (by decide +kernel) (fun _ => rfl) gt_r100
theorem gt_m101 : gt_mo 101 (⟨"GoalDesk$Variables", "asleepOn", "(I)I"⟩, prog_11_method_10_code, []) := gt_mo_plain (o := 10) (t := gt_t101) (by decide +kernel) (gt_w_in (i := 98) (by decide +kernel)) (by decide +kernel) (gt_w_in (i := 1066) (by decide +kernel)) (by decide +kernel) (by decide +kernel) (by decide +kernel) (fun _ => rfl) gt_r101
theorem gt_m102 : gt_mo 102 (⟨"GoalDeskModel", "<init>", "()V"⟩, prog_14_method_1_code, []) := gt_mo_init (o := 13) (t := gt_t102) (by decide +kernel) (gt_w_in (i := 109) (by decide +kernel)) (by decide +kernel) (gt_w_in (i := 1072) (by decide +kernel)) (by decide +kernel) rfl (by decide +kernel) (fun _ => rfl) gt_r102
theorem gt_m103 : gt_mo 103 (⟨"GoalDeskModel", "thrown", "()I"⟩, prog_14_method_2_code, []) := gt_mo_plain (o := 13) (t := gt_t103) (by decide +kernel) (gt_w_in (i := 109) (by decide +kernel)) (by decide +kernel) (gt_w_in (i := 1271) (by decide +kernel)) (by decide +kernel) (by decide +kernel) (by decide +kernel) (fun _ => rfl) gt_r103
theorem gt_m104 : gt_mo 104 (⟨"GoalDeskModel", "type", "(J)I"⟩, prog_14_method_6_code, []) := gt_mo_plain (o := 13) (t := gt_t104) (by decide +kernel) (gt_w_in (i := 109) (by decide +kernel)) (by decide +kernel) (gt_w_in (i := 1275) (by decide +kernel)) (by decide +kernel) (by decide +kernel) (by decide +kernel) (fun _ => rfl) gt_r104
theorem gt_m105 : gt_mo 105 (⟨"GoalDeskModel", "in", "(III)Z"⟩, prog_14_method_3_code, []) := gt_mo_plain (o := 13) (t := gt_t105) (by decide +kernel) (gt_w_in (i := 109) (by decide +kernel)) (by decide +kernel) (gt_w_in (i := 1278) (by decide +kernel)) (by decide +kernel) (by decide +kernel) (by decide +kernel) (fun _ => rfl) gt_r105
theorem gt_m106 : gt_mo 106 (⟨"GoalDeskModel", "bad", "(Z)Z"⟩, prog_14_method_4_code, []) := gt_mo_plain (o := 13) (t := gt_t106) (by decide +kernel) (gt_w_in (i := 109) (by decide +kernel)) (by decide +kernel) (gt_w_in (i := 1282) (by decide +kernel)) (by decide +kernel) (by decide +kernel) (by decide +kernel) (fun _ => rfl) gt_r106
theorem gt_m107 : gt_mo 107 (⟨"GoalDeskModel", "fail", "(I)I"⟩, prog_14_method_5_code, []) := gt_mo_plain (o := 13) (t := gt_t107) (by decide +kernel) (gt_w_in (i := 109) (by decide +kernel)) (by decide +kernel) (gt_w_in (i := 1286) (by decide +kernel)) (by decide +kernel) (by decide +kernel) (by decide +kernel) (fun _ => rfl) gt_r107
theorem gt_m108 : gt_mo 108 (⟨"GoalDeskModel", "add", "()I"⟩, prog_14_method_12_code, []) := gt_mo_plain (o := 13) (t := gt_t108) (by decide +kernel) (gt_w_in (i := 109) (by decide +kernel)) (by decide +kernel) (gt_w_in (i := 1290) (by decide +kernel)) (by decide +kernel) (by decide +kernel) (by decide +kernel) (fun _ => rfl) gt_r108
theorem gt_m109 : gt_mo 109 (⟨"GoalDeskModel", "readClause", "()Z"⟩, prog_14_method_11_code, []) := gt_mo_plain (o := 13) (t := gt_t109) (by decide +kernel) (gt_w_in (i := 109) (by decide +kernel)) (by decide +kernel) (gt_w_in (i := 1294) (by decide +kernel)) (by decide +kernel) (by decide +kernel) (by decide +kernel) (fun _ => rfl) gt_r109
theorem gt_m110 : gt_mo 110 (⟨"GoalDeskModel", "readTerm", "(Z)Z"⟩, prog_14_method_9_code, []) := gt_mo_plain (o := 13) (t := gt_t110) (by decide +kernel) (gt_w_in (i := 109) (by decide +kernel)) (by decide +kernel) (gt_w_in (i := 1298) (by decide +kernel)) (by decide +kernel) (by decide +kernel) (by decide +kernel) (fun _ => rfl) gt_r110
theorem gt_m111 : gt_mo 111 (⟨"GoalDeskModel", "look", "()I"⟩, prog_14_method_7_code, []) := gt_mo_plain (o := 13) (t := gt_t111) (by decide +kernel) (gt_w_in (i := 109) (by decide +kernel)) (by decide +kernel) (gt_w_in (i := 1302) (by decide +kernel)) (by decide +kernel) (by decide +kernel) (by decide +kernel) (fun _ => rfl) gt_r111
theorem gt_m112 : gt_mo 112 (⟨"GoalDeskModel", "passes", "(I)Z"⟩, prog_14_method_8_code, []) := gt_mo_plain (o := 13) (t := gt_t112) (by decide +kernel) (gt_w_in (i := 109) (by decide +kernel)) (by decide +kernel) (gt_w_in (i := 1306) (by decide +kernel)) (by decide +kernel) (by decide +kernel) (by decide +kernel) (fun _ => rfl) gt_r112
theorem gt_m113 : gt_mo 113 (⟨"GoalDeskModel", "readGoals", "()Z"⟩, prog_14_method_10_code, []) := gt_mo_plain (o := 13) (t := gt_t113) (by decide +kernel) (gt_w_in (i := 109) (by decide +kernel)) (by decide +kernel) (gt_w_in (i := 1310) (by decide +kernel)) (by decide +kernel) (by decide +kernel) (by decide +kernel) (fun _ => rfl) gt_r113
theorem gt_m114 : gt_mo 114 (⟨"GoalDeskModel", "drop", "(I)V"⟩, prog_14_method_13_code, []) := gt_mo_plain (o := 13) (t := gt_t114) (by decide +kernel) (gt_w_in (i := 109) (by decide +kernel)) (by decide +kernel) (gt_w_in (i := 1314) (by decide +kernel)) (by decide +kernel) (by decide +kernel) (by decide +kernel) (fun _ => rfl) gt_r114
theorem gt_m115 : gt_mo 115 (⟨"GoalDeskModel", "ask", "()I"⟩, prog_14_method_42_code, []) := gt_mo_plain (o := 13) (t := gt_t115) (by decide +kernel) (gt_w_in (i := 109) (by decide +kernel)) (by decide +kernel) (gt_w_in (i := 1318) (by decide +kernel)) (by decide +kernel) (by decide +kernel) (by decide +kernel) (fun _ => rfl) gt_r115
theorem gt_m116 : gt_mo 116 (⟨"GoalDeskModel", "number", "()V"⟩, prog_14_method_15_code, []) := gt_mo_plain (o := 13) (t := gt_t116) (by decide +kernel) (gt_w_in (i := 109) (by decide +kernel)) (by decide +kernel) (gt_w_in (i := 1322) (by decide +kernel)) (by decide +kernel) (by decide +kernel) (by decide +kernel) (fun _ => rfl) gt_r116
theorem gt_m117 : gt_mo 117 (⟨"GoalDeskModel", "born", "()I"⟩, prog_14_method_16_code, []) := gt_mo_plain (o := 13) (t := gt_t117) (by decide +kernel) (gt_w_in (i := 109) (by decide +kernel)) (by decide +kernel) (gt_w_in (i := 1326) (by decide +kernel)) (by decide +kernel) (by decide +kernel) (by decide +kernel) (fun _ => rfl) gt_r117
theorem gt_m118 : gt_mo 118 (⟨"GoalDeskModel", "buildGoals", "(II)I"⟩, prog_14_method_21_code, []) := gt_mo_plain (o := 13) (t := gt_t118) (by decide +kernel) (gt_w_in (i := 109) (by decide +kernel)) (by decide +kernel) (gt_w_in (i := 1331) (by decide +kernel)) (by decide +kernel) (by decide +kernel) (by decide +kernel) (fun _ => rfl) gt_r118
theorem gt_m119 : gt_mo 119 (⟨"GoalDeskModel", "at", "(I)I"⟩, prog_14_method_14_code, []) := gt_mo_plain (o := 13) (t := gt_t119) (by decide +kernel) (gt_w_in (i := 109) (by decide +kernel)) (by decide +kernel) (gt_w_in (i := 1335) (by decide +kernel)) (by decide +kernel) (by decide +kernel) (by decide +kernel) (fun _ => rfl) gt_r119
theorem gt_m120 : gt_mo 120 (⟨"GoalDeskModel", "goal", "(IIIII)I"⟩, prog_14_method_20_code, []) := gt_mo_plain (o := 13) (t := gt_t120) (by decide +kernel) (gt_w_in (i := 109) (by decide +kernel)) (by decide +kernel) (gt_w_in (i := 1339) (by decide +kernel)) (by decide +kernel) (by decide +kernel) (by decide +kernel) (fun _ => rfl) gt_r120
theorem gt_m121 : gt_mo 121 (⟨"GoalDeskModel", "build", "()I"⟩, prog_14_method_18_code, []) := gt_mo_plain (o := 13) (t := gt_t121) (by decide +kernel) (gt_w_in (i := 109) (by decide +kernel)) (by decide +kernel) (gt_w_in (i := 1343) (by decide +kernel)) (by decide +kernel) (by decide +kernel) (by decide +kernel) (fun _ => rfl) gt_r121
theorem gt_m122 : gt_mo 122 (⟨"GoalDeskModel", "cell", "(I)I"⟩, prog_14_method_17_code, []) := gt_mo_plain (o := 13) (t := gt_t122) (by decide +kernel) (gt_w_in (i := 109) (by decide +kernel)) (by decide +kernel) (gt_w_in (i := 1347) (by decide +kernel)) (by decide +kernel) (by decide +kernel) (by decide +kernel) (fun _ => rfl) gt_r122
theorem gt_m123 : gt_mo 123 (⟨"GoalDeskModel", "hang", "(II)V"⟩, prog_14_method_19_code, []) := gt_mo_plain (o := 13) (t := gt_t123) (by decide +kernel) (gt_w_in (i := 109) (by decide +kernel)) (by decide +kernel) (gt_w_in (i := 1351) (by decide +kernel)) (by decide +kernel) (by decide +kernel) (by decide +kernel) (fun _ => rfl) gt_r123
theorem gt_m124 : gt_mo 124 (⟨"GoalDeskModel", "seek", "(Z)I"⟩, prog_14_method_41_code, []) := gt_mo_plain (o := 13) (t := gt_t124) (by decide +kernel) (gt_w_in (i := 109) (by decide +kernel)) (by decide +kernel) (gt_w_in (i := 1355) (by decide +kernel)) (by decide +kernel) (by decide +kernel) (by decide +kernel) (fun _ => rfl) gt_r124
theorem gt_m125 : gt_mo 125 (⟨"GoalDeskModel", "back", "()Z"⟩, prog_14_method_36_code, []) := gt_mo_plain (o := 13) (t := gt_t125) (by decide +kernel) (gt_w_in (i := 109) (by decide +kernel)) (by decide +kernel) (gt_w_in (i := 1359) (by decide +kernel)) (by decide +kernel) (by decide +kernel) (by decide +kernel) (fun _ => rfl) gt_r125
theorem gt_m126 : gt_mo 126 (⟨"GoalDeskModel", "nextFit", "(II)I"⟩, prog_14_method_33_code, []) := gt_mo_plain (o := 13) (t := gt_t126) (by decide +kernel) (gt_w_in (i := 109) (by decide +kernel)) (by decide +kernel) (gt_w_in (i := 1363) (by decide +kernel)) (by decide +kernel) (by decide +kernel) (by decide +kernel) (fun _ => rfl) gt_r126
theorem gt_m127 : gt_mo 127 (⟨"GoalDeskModel", "fits", "(II)Z"⟩, prog_14_method_32_code, []) := gt_mo_plain (o := 13) (t := gt_t127) (by decide +kernel) (gt_w_in (i := 109) (by decide +kernel)) (by decide +kernel) (gt_w_in (i := 1367) (by decide +kernel)) (by decide +kernel) (by decide +kernel) (by decide +kernel) (fun _ => rfl) gt_r127
theorem gt_m128 : gt_mo 128 (⟨"GoalDeskModel", "undo", "(I)V"⟩, prog_14_method_23_code, []) := gt_mo_plain (o := 13) (t := gt_t128) (by decide +kernel) (gt_w_in (i := 109) (by decide +kernel)) (by decide +kernel) (gt_w_in (i := 1371) (by decide +kernel)) (by decide +kernel) (by decide +kernel) (by decide +kernel) (fun _ => rfl) gt_r128
theorem gt_m129 : gt_mo 129 (⟨"GoalDeskModel", "take", "(IIII)Z"⟩, prog_14_method_34_code, []) := gt_mo_plain (o := 13) (t := gt_t129) (by decide +kernel) (gt_w_in (i := 109) (by decide +kernel)) (by decide +kernel) (gt_w_in (i := 1375) (by decide +kernel)) (by decide +kernel) (by decide +kernel) (by decide +kernel) (fun _ => rfl) gt_r129
theorem gt_m130 : gt_mo 130 (⟨"GoalDeskModel", "pair", "(II)V"⟩, prog_14_method_28_code, []) := gt_mo_plain (o := 13) (t := gt_t130) (by decide +kernel) (gt_w_in (i := 109) (by decide +kernel)) (by decide +kernel) (gt_w_in (i := 1379) (by decide +kernel)) (by decide +kernel) (by decide +kernel) (by decide +kernel) (fun _ => rfl) gt_r130
theorem gt_m131 : gt_mo 131 (⟨"GoalDeskModel", "unify", "(I)Z"⟩, prog_14_method_31_code, []) := gt_mo_plain (o := 13) (t := gt_t131) (by decide +kernel) (gt_w_in (i := 109) (by decide +kernel)) (by decide +kernel) (gt_w_in (i := 1383) (by decide +kernel)) (by decide +kernel) (by decide +kernel) (by decide +kernel) (fun _ => rfl) gt_r131
theorem gt_m132 : gt_mo 132 (⟨"GoalDeskModel", "same", "()Z"⟩, prog_14_method_29_code, []) := gt_mo_plain (o := 13) (t := gt_t132) (by decide +kernel) (gt_w_in (i := 109) (by decide +kernel)) (by decide +kernel) (gt_w_in (i := 1387) (by decide +kernel)) (by decide +kernel) (by decide +kernel) (by decide +kernel) (fun _ => rfl) gt_r132
theorem gt_m133 : gt_mo 133 (⟨"GoalDeskModel", "step", "()Z"⟩, prog_14_method_25_code, []) := gt_mo_plain (o := 13) (t := gt_t133) (by decide +kernel) (gt_w_in (i := 109) (by decide +kernel)) (by decide +kernel) (gt_w_in (i := 1391) (by decide +kernel)) (by decide +kernel) (by decide +kernel) (by decide +kernel) (fun _ => rfl) gt_r133
theorem gt_m134 : gt_mo 134 (⟨"GoalDeskModel", "value", "(I)I"⟩, prog_14_method_24_code, []) := gt_mo_plain (o := 13) (t := gt_t134) (by decide +kernel) (gt_w_in (i := 109) (by decide +kernel)) (by decide +kernel) (gt_w_in (i := 1395) (by decide +kernel)) (by decide +kernel) (by decide +kernel) (by decide +kernel) (fun _ => rfl) gt_r134
theorem gt_m135 : gt_mo 135 (⟨"GoalDeskModel", "tie", "(II)V"⟩, prog_14_method_26_code, []) := gt_mo_plain (o := 13) (t := gt_t135) (by decide +kernel) (gt_w_in (i := 109) (by decide +kernel)) (by decide +kernel) (gt_w_in (i := 1399) (by decide +kernel)) (by decide +kernel) (by decide +kernel) (by decide +kernel) (fun _ => rfl) gt_r135
theorem gt_m136 : gt_mo 136 (⟨"GoalDeskModel", "change", "(II)V"⟩, prog_14_method_22_code, []) := gt_mo_plain (o := 13) (t := gt_t136) (by decide +kernel) (gt_w_in (i := 109) (by decide +kernel)) (by decide +kernel) (gt_w_in (i := 1403) (by decide +kernel)) (by decide +kernel) (by decide +kernel) (by decide +kernel) (fun _ => rfl) gt_r136
theorem gt_m137 : gt_mo 137 (⟨"GoalDeskModel", "follow", "(III)V"⟩, prog_14_method_27_code, []) := gt_mo_plain (o := 13) (t := gt_t137) (by decide +kernel) (gt_w_in (i := 109) (by decide +kernel)) (by decide +kernel) (gt_w_in (i := 1407) (by decide +kernel)) (by decide +kernel) (by decide +kernel) (by decide +kernel) (fun _ => rfl) gt_r137
theorem gt_m138 : gt_mo 138 (⟨"GoalDeskModel", "test", "(II)I"⟩, prog_14_method_30_code, []) := gt_mo_plain (o := 13) (t := gt_t138) (by decide +kernel) (gt_w_in (i := 109) (by decide +kernel)) (by decide +kernel) (gt_w_in (i := 1411) (by decide +kernel)) (by decide +kernel) (by decide +kernel) (by decide +kernel) (fun _ => rfl) gt_r138
theorem gt_m139 : gt_mo 139 (⟨"GoalDeskModel", "perform", "(I)Z"⟩, prog_14_method_40_code, []) := gt_mo_plain (o := 13) (t := gt_t139) (by decide +kernel) (gt_w_in (i := 109) (by decide +kernel)) (by decide +kernel) (gt_w_in (i := 1415) (by decide +kernel)) (by decide +kernel) (by decide +kernel) (by decide +kernel) (fun _ => rfl) gt_r139
theorem gt_m140 : gt_mo 140 (⟨"GoalDeskModel", "call", "(II)Z"⟩, prog_14_method_35_code, []) := gt_mo_plain (o := 13) (t := gt_t140) (by decide +kernel) (gt_w_in (i := 109) (by decide +kernel)) (by decide +kernel) (gt_w_in (i := 1419) (by decide +kernel)) (by decide +kernel) (by decide +kernel) (by decide +kernel) (fun _ => rfl) gt_r140
theorem gt_m141 : gt_mo 141 (⟨"GoalDeskModel", "apart", "(III)Z"⟩, prog_14_method_37_code, []) := gt_mo_plain (o := 13) (t := gt_t141) (by decide +kernel) (gt_w_in (i := 109) (by decide +kernel)) (by decide +kernel) (gt_w_in (i := 1423) (by decide +kernel)) (by decide +kernel) (by decide +kernel) (by decide +kernel) (fun _ => rfl) gt_r141
theorem gt_m142 : gt_mo 142 (⟨"GoalDeskModel", "less", "(III)Z"⟩, prog_14_method_38_code, []) := gt_mo_plain (o := 13) (t := gt_t142) (by decide +kernel) (gt_w_in (i := 109) (by decide +kernel)) (by decide +kernel) (gt_w_in (i := 1427) (by decide +kernel)) (by decide +kernel) (by decide +kernel) (by decide +kernel) (fun _ => rfl) gt_r142
theorem gt_m143 : gt_mo 143 (⟨"GoalDeskModel", "sleep", "(III)Z"⟩, prog_14_method_39_code, []) := gt_mo_plain (o := 13) (t := gt_t143) (by decide +kernel) (gt_w_in (i := 109) (by decide +kernel)) (by decide +kernel) (gt_w_in (i := 1431) (by decide +kernel)) (by decide +kernel) (by decide +kernel) (by decide +kernel) (fun _ => rfl) gt_r143
theorem gt_m144 : gt_mo 144 (⟨"GoalDeskModel", "next", "()I"⟩, prog_14_method_43_code, []) := gt_mo_plain (o := 13) (t := gt_t144) (by decide +kernel) (gt_w_in (i := 109) (by decide +kernel)) (by decide +kernel) (gt_w_in (i := 1435) (by decide +kernel)) (by decide +kernel) (by decide +kernel) (by decide +kernel) (fun _ => rfl) gt_r144
theorem gt_m145 : gt_mo 145 (⟨"GoalDeskModel", "letter", "(II)I"⟩, prog_14_method_46_code, []) := gt_mo_plain (o := 13) (t := gt_t145) (by decide +kernel) (gt_w_in (i := 109) (by decide +kernel)) (by decide +kernel) (gt_w_in (i := 1439) (by decide +kernel)) (by decide +kernel) (by decide +kernel) (by decide +kernel) (fun _ => rfl) gt_r145
theorem gt_m146 : gt_mo 146 (⟨"GoalDeskModel", "write", "(I)V"⟩, prog_14_method_45_code, []) := gt_mo_plain (o := 13) (t := gt_t146) (by decide +kernel) (gt_w_in (i := 109) (by decide +kernel)) (by decide +kernel) (gt_w_in (i := 1443) (by decide +kernel)) (by decide +kernel) (by decide +kernel) (by decide +kernel) (fun _ => rfl) gt_r146
theorem gt_m147 : gt_mo 147 (⟨"GoalDeskModel", "put", "(I)V"⟩, prog_14_method_44_code, []) := gt_mo_plain (o := 13) (t := gt_t147) (by decide +kernel) (gt_w_in (i := 109) (by decide +kernel)) (by decide +kernel) (gt_w_in (i := 1448) (by decide +kernel)) (by decide +kernel) (by decide +kernel) (by decide +kernel) (fun _ => rfl) gt_r147
theorem gt_m148 : gt_mo 148 (⟨"GoalDeskModel", "sleeping", "(I)I"⟩, prog_14_method_47_code, []) := gt_mo_plain (o := 13) (t := gt_t148) (by decide +kernel) (gt_w_in (i := 109) (by decide +kernel)) (by decide +kernel) (gt_w_in (i := 1454) (by decide +kernel)) (by decide +kernel) (by decide +kernel) (by decide +kernel) (fun _ => rfl) gt_r148
theorem gt_m149 : gt_mo 149 (⟨"GoalDeskModel", "count", "(I)I"⟩, prog_14_method_48_code, []) := gt_mo_plain (o := 13) (t := gt_t149) (by decide +kernel) (gt_w_in (i := 109) (by decide +kernel)) (by decide +kernel) (gt_w_in (i := 1458) (by decide +kernel)) (by decide +kernel) (by decide +kernel) (by decide +kernel) (fun _ => rfl) gt_r149
theorem gt_mall : ai_allQ gt_mo 0 gt_Ml := ⟨gt_m0, gt_m1, gt_m2, gt_m3, gt_m4, gt_m5, gt_m6, gt_m7, gt_m8, gt_m9, gt_m10, gt_m11, gt_m12, gt_m13, gt_m14, gt_m15, gt_m16, gt_m17, gt_m18, gt_m19, gt_m20, gt_m21, gt_m22, gt_m23, gt_m24, gt_m25, gt_m26, gt_m27, gt_m28, gt_m29, gt_m30, gt_m31, gt_m32, gt_m33, gt_m34, gt_m35, gt_m36, gt_m37, gt_m38, gt_m39, gt_m40, gt_m41, gt_m42, gt_m43, gt_m44, gt_m45, gt_m46, gt_m47, gt_m48, gt_m49, gt_m50, gt_m51, gt_m52, gt_m53, gt_m54, gt_m55, gt_m56, gt_m57, gt_m58, gt_m59, gt_m60, gt_m61, gt_m62, gt_m63, gt_m64, gt_m65, gt_m66, gt_m67, gt_m68, gt_m69, gt_m70, gt_m71, gt_m72, gt_m73, gt_m74, gt_m75, gt_m76, gt_m77, gt_m78, gt_m79, gt_m80, gt_m81, gt_m82, gt_m83, gt_m84, gt_m85, gt_m86, gt_m87, gt_m88, gt_m89, gt_m90, gt_m91, gt_m92, gt_m93, gt_m94, gt_m95, gt_m96, gt_m97, gt_m98, gt_m99, gt_m100, gt_m101, gt_m102, gt_m103, gt_m104, gt_m105, gt_m106, gt_m107, gt_m108, gt_m109, gt_m110, gt_m111, gt_m112, gt_m113, gt_m114, gt_m115, gt_m116, gt_m117, gt_m118, gt_m119, gt_m120, gt_m121, gt_m122, gt_m123, gt_m124, gt_m125, gt_m126, gt_m127, gt_m128, gt_m129, gt_m130, gt_m131, gt_m132, gt_m133, gt_m134, gt_m135, gt_m136, gt_m137, gt_m138, gt_m139, gt_m140, gt_m141, gt_m142, gt_m143, gt_m144, gt_m145, gt_m146, gt_m147, gt_m148, gt_m149, trivial⟩
theorem gt_mok : ai_mok gt_Ts gt_cl gt_P gt_M gt_ex := by
  intro mi y cc hh h
  have := ai_allQ_at gt_mall h
  rw [Nat.zero_add] at this
  exact this
end
section
/-! THE TYPED MACHINE. Its state: ints in fields, references in fields, ints in arrays, references in arrays, the law's row of longs, the arrays' lengths, how many were made where, cells, slots. Ints are whole numbers; ty_J takes them to the machine's. -/
abbrev ty_S : Type := (ai_A → Nat → Int) × (ai_A → Nat → Option ai_A) × (ai_A → Int → Int) × (ai_A → Int → Option ai_A) × (Int → Int64) × (ai_A → Nat) × (Nat → Nat) × Nat × Nat
def ty_J (z : Int) : Int32 := Int32.ofInt z
/-- what is made at a site: 1 objects of a class, 2 arrays of ints of a type, 3 of longs, 4 of references, 5 a thing of a number, 6 what was there before -/
def ty_skL : List (Nat × Nat) := [(6, 0), (5, 1), (0, 0), (0, 0), (0, 0), (0, 0), (0, 0), (0, 0), (0, 0), (0, 0), (2, 1), (4, 4), (1, 1), (1, 2), (1, 3), (1, 3), (1, 4), (1, 5), (1, 10), (2, 1), (2, 0), (2, 0), (2, 0), (2, 0), (2, 0), (2, 0), (2, 0), (2, 0), (2, 0), (2, 0), (2, 0), (2, 1), (2, 0), (2, 0), (2, 0), (1, 6), (1, 6), (1, 7), (1, 8), (1, 9), (2, 0), (2, 0), (2, 0), (2, 0), (2, 0), (2, 2), (2, 0), (2, 1), (2, 0), (1, 11), (4, 5), (4, 5), (1, 12), (2, 0), (2, 0), (2, 0), (2, 0), (2, 0), (2, 0), (2, 0), (2, 0), (2, 0), (2, 0), (2, 0), (2, 0), (2, 0), (2, 0), (2, 0), (2, 0), (2, 0), (2, 0), (2, 0), (2, 0), (2, 0), (2, 0), (2, 0), (2, 0), (2, 0), (2, 0), (2, 0), (2, 0), (2, 0), (2, 0), (2, 0), (2, 0), (2, 0), (2, 0), (2, 0), (2, 0), (2, 0), (2, 0), (2, 0), (2, 0), (1, 0), (1, 13), (3, 3)]
def ty_sk (s : Nat) : Nat × Nat := ty_skL.getD s (0, 0)
/-- a class's fields: is it a reference? -/
def ty_kdL : List (List Bool) := [[true, false, false, true, false, true, false, true, true, true], [true, true, true, true], [true, true, true, true, false, false, true, false, true, true, false, true, true, false], [false, true, true, true, false, true, false], [true, true, false, false, true], [true, true, true, true, true, true, false, true, false, true, true, false, false, true, false, false], [true, false, false], [false], [true, true, true, true, true, false, true, false], [true, true, true, true, true, false, true, false], [true, true, true, false], [false, false, false, false, true], [false, false, true, false, false, false, false, false, false, false], [true, true, true, true, true, true, true, false, false, false, false, false, false, false, true, true, true, true, true, true, true, true, true, true, true, false, false, false, false, false, false, false, false, false, false, false, false, false, false, false, false, true, true, true, true, true, true, true, true, true, true, true, true, true, true, true, true, true, true, true, true, true, true, false]]
def ty_kd (ci : Nat) : List Bool := ty_kdL.getD ci []
def ty_op (i : Nat) : Nat := match i with
  | 0 => 0
  | 1 => 2
  | _ => 3
def ty_fl (S : ty_S) (a : ai_A) : Nat → List Bool → List ai_V
  | _, [] => []
  | k, r :: t => (if r = true then .inr (.inr (S.2.1 a k)) else .inl (ty_J (S.1 a k))) :: ty_fl S a (k + 1) t
def ty_cell (S : ty_S) (a : ai_A) : ai_C := match ty_sk a.1 with
  | (1, ci) => .inl (ci, ty_fl S a 0 (ty_kd ci))
  | (2, t) => .inr (.inl (t, S.2.2.2.2.2.1 a, .inl fun j => ty_J (S.2.2.1 a j)))
  | (3, t) => .inr (.inl (t, S.2.2.2.2.2.1 a, .inr (.inl fun j => S.2.2.2.2.1 j)))
  | (4, t) => .inr (.inl (t, S.2.2.2.2.2.1 a, .inr (.inr fun j => S.2.2.2.1 a j)))
  | (5, k) => .inr (.inr k)
  | _ => .inr (.inr (ty_op a.2))
def ty_H (S : ty_S) : ai_H := (fun a => if a.2 < S.2.2.2.2.2.2.1 a.1 then some (ty_cell S a) else none, S.2.2.2.2.2.2.1, S.2.2.2.2.2.2.2.1, S.2.2.2.2.2.2.2.2)
/-- writes -/
def ty_sI (S : ty_S) (a : ai_A) (k : Nat) (v : Int) : ty_S := (fun b j => if b = a ∧ j = k then v else S.1 b j, S.2)
def ty_sR (S : ty_S) (a : ai_A) (k : Nat) (v : Option ai_A) : ty_S := (S.1, fun b j => if b = a ∧ j = k then v else S.2.1 b j, S.2.2)
def ty_sA (S : ty_S) (a : ai_A) (i v : Int) : ty_S := (S.1, S.2.1, fun b j => if b = a ∧ j = i then v else S.2.2.1 b j, S.2.2.2)
def ty_sQ (S : ty_S) (a : ai_A) (i : Int) (v : Option ai_A) : ty_S := (S.1, S.2.1, S.2.2.1, fun b j => if b = a ∧ j = i then v else S.2.2.2.1 b j, S.2.2.2.2)
def ty_sZ (S : ty_S) (i : Int) (v : Int64) : ty_S := (S.1, S.2.1, S.2.2.1, S.2.2.2.1, fun j => if j = i then v else S.2.2.2.2.1 j, S.2.2.2.2.2)
/-- whole arrays -/
def ty_mA (S : ty_S) (a : ai_A) (f : Int → Int) : ty_S := (S.1, S.2.1, fun b => if b = a then f else S.2.2.1 b, S.2.2.2)
def ty_mQ (S : ty_S) (a : ai_A) (f : Int → Option ai_A) : ty_S := (S.1, S.2.1, S.2.2.1, fun b => if b = a then f else S.2.2.2.1 b, S.2.2.2.2)
/-- makings: of an object (n fields), of an array of n -/
def ty_nO (S : ty_S) (s n : Nat) : ty_S := (fun b j => if b = (s, S.2.2.2.2.2.2.1 s) then 0 else S.1 b j, fun b j => if b = (s, S.2.2.2.2.2.2.1 s) then none else S.2.1 b j, S.2.2.1, S.2.2.2.1, S.2.2.2.2.1, S.2.2.2.2.2.1,
  fun j => if j = s then S.2.2.2.2.2.2.1 s + 1 else S.2.2.2.2.2.2.1 j, S.2.2.2.2.2.2.2.1 + 1, S.2.2.2.2.2.2.2.2 + n)
def ty_nA (S : ty_S) (s n : Nat) : ty_S := (S.1, S.2.1, fun b => if b = (s, S.2.2.2.2.2.2.1 s) then fun _ => 0 else S.2.2.1 b, fun b => if b = (s, S.2.2.2.2.2.2.1 s) then fun _ => none else S.2.2.2.1 b, if (ty_sk s).1 = 3 then fun _ => 0 else S.2.2.2.2.1, fun b => if b = (s, S.2.2.2.2.2.2.1 s) then n else S.2.2.2.2.2.1 b,
  fun j => if j = s then S.2.2.2.2.2.2.1 s + 1 else S.2.2.2.2.2.2.1 j, S.2.2.2.2.2.2.2.1 + 1, S.2.2.2.2.2.2.2.2 + n)
/-- a throw's cost; a caught exception -/
def ty_th (S : ty_S) : ty_S := (S.1, S.2.1, S.2.2.1, S.2.2.2.1, S.2.2.2.2.1, S.2.2.2.2.2.1, S.2.2.2.2.2.2.1, S.2.2.2.2.2.2.2.1 + 1, S.2.2.2.2.2.2.2.2 + 6)
def ty_ex (S : ty_S) : ty_S := (S.1, S.2.1, S.2.2.1, S.2.2.2.1, S.2.2.2.2.1, S.2.2.2.2.2.1, fun j => if j = 1 then S.2.2.2.2.2.2.1 1 + 1 else S.2.2.2.2.2.2.1 j, S.2.2.2.2.2.2.2.1, S.2.2.2.2.2.2.2.2)
theorem ty_H_at {S : ty_S} {a : ai_A} (h : a.2 < S.2.2.2.2.2.2.1 a.1) : (ty_H S).1 a = some (ty_cell S a) := if_pos h
theorem ty_cell_o {S : ty_S} {a : ai_A} {ci : Nat} (h : ty_sk a.1 = (1, ci)) : ty_cell S a = .inl (ci, ty_fl S a 0 (ty_kd ci)) := by simp only [ty_cell, h]
theorem ty_cell_i {S : ty_S} {a : ai_A} {t : Nat} (h : ty_sk a.1 = (2, t)) : ty_cell S a = .inr (.inl (t, S.2.2.2.2.2.1 a, .inl fun j => ty_J (S.2.2.1 a j))) := by simp only [ty_cell, h]
theorem ty_cell_l {S : ty_S} {a : ai_A} {t : Nat} (h : ty_sk a.1 = (3, t)) : ty_cell S a = .inr (.inl (t, S.2.2.2.2.2.1 a, .inr (.inl fun j => S.2.2.2.2.1 j))) := by simp only [ty_cell, h]
theorem ty_cell_q {S : ty_S} {a : ai_A} {t : Nat} (h : ty_sk a.1 = (4, t)) : ty_cell S a = .inr (.inl (t, S.2.2.2.2.2.1 a, .inr (.inr fun j => S.2.2.2.1 a j))) := by simp only [ty_cell, h]
theorem ty_fl_at {S : ty_S} {a : ai_A} : ∀ (ks : List Bool) (j k : Nat) (r : Bool), ks[k]? = some r → (ty_fl S a j ks)[k]? = some (if r = true then .inr (.inr (S.2.1 a (j + k))) else .inl (ty_J (S.1 a (j + k))))
  | [], _, _, _, h => by simp at h
  | b :: ks, j, 0, r, h => by
    simp only [List.getElem?_cons_zero, Option.some.injEq] at h
    subst h
    rfl
  | b :: ks, j, k + 1, r, h => by
    simp only [List.getElem?_cons_succ] at h
    have := ty_fl_at (S := S) (a := a) ks (j + 1) k r h
    rw [show j + 1 + k = j + (k + 1) by omega] at this
    exact this
theorem ty_fl_len {S : ty_S} {a : ai_A} : ∀ (ks : List Bool) (j : Nat), (ty_fl S a j ks).length = ks.length
  | [], _ => rfl
  | _ :: ks, j => congrArg (· + 1) (ty_fl_len ks (j + 1))
/-- fields that look alike -/
theorem ty_fl_eq {S S' : ty_S} {a : ai_A} : ∀ (ks : List Bool) (j : Nat), (∀ k, j ≤ k → S.1 a k = S'.1 a k) → (∀ k, j ≤ k → S.2.1 a k = S'.2.1 a k) → ty_fl S a j ks = ty_fl S' a j ks
  | [], _, _, _ => rfl
  | b :: ks, j, h1, h2 => by
    unfold ty_fl
    rw [h1 j (Nat.le_refl _), h2 j (Nat.le_refl _), ty_fl_eq ks (j + 1) (fun k hk => h1 k (by omega)) (fun k hk => h2 k (by omega))]
theorem ty_fl_setI {S : ty_S} {a : ai_A} {v : Int} : ∀ (ks : List Bool) (j k : Nat), ks[k]? = some false → (ty_fl S a j ks).set k (.inl (ty_J v)) = ty_fl (ty_sI S a (j + k) v) a j ks
  | [], _, _, h => by simp at h
  | b :: ks, j, 0, h => by
    simp only [List.getElem?_cons_zero, Option.some.injEq] at h
    subst h
    show Sum.inl (ty_J v) :: ty_fl S a (j + 1) ks = Sum.inl (ty_J ((ty_sI S a (j + 0) v).1 a j)) :: ty_fl (ty_sI S a (j + 0) v) a (j + 1) ks
    have e : ty_fl S a (j + 1) ks = ty_fl (ty_sI S a (j + 0) v) a (j + 1) ks := ty_fl_eq ks (j + 1) (fun k hk => by
      simp only [ty_sI]
      rw [if_neg (fun z => absurd z.2 (by omega))]) (fun k hk => rfl)
    have e2 : (ty_sI S a (j + 0) v).1 a j = v := by simp [ty_sI]
    rw [← e, e2]
  | b :: ks, j, k + 1, h => by
    simp only [List.getElem?_cons_succ] at h
    have ih := ty_fl_setI (S := S) (a := a) (v := v) ks (j + 1) k h
    rw [show j + 1 + k = j + (k + 1) by omega] at ih
    unfold ty_fl
    rw [List.set_cons_succ, ih]
    have e1 : (ty_sI S a (j + (k + 1)) v).1 a j = S.1 a j := by
      simp only [ty_sI]
      rw [if_neg (fun z => absurd z.2 (by omega))]
    rw [e1]
    rfl
theorem ty_fl_setR {S : ty_S} {a : ai_A} {v : Option ai_A} : ∀ (ks : List Bool) (j k : Nat), ks[k]? = some true → (ty_fl S a j ks).set k (.inr (.inr v)) = ty_fl (ty_sR S a (j + k) v) a j ks
  | [], _, _, h => by simp at h
  | b :: ks, j, 0, h => by
    simp only [List.getElem?_cons_zero, Option.some.injEq] at h
    subst h
    show Sum.inr (Sum.inr v) :: ty_fl S a (j + 1) ks = Sum.inr (Sum.inr ((ty_sR S a (j + 0) v).2.1 a j)) :: ty_fl (ty_sR S a (j + 0) v) a (j + 1) ks
    have e : ty_fl S a (j + 1) ks = ty_fl (ty_sR S a (j + 0) v) a (j + 1) ks := ty_fl_eq ks (j + 1) (fun k hk => rfl) (fun k hk => by
      simp only [ty_sR]
      rw [if_neg (fun z => absurd z.2 (by omega))])
    have e2 : (ty_sR S a (j + 0) v).2.1 a j = v := by simp [ty_sR]
    rw [← e, e2]
  | b :: ks, j, k + 1, h => by
    simp only [List.getElem?_cons_succ] at h
    have ih := ty_fl_setR (S := S) (a := a) (v := v) ks (j + 1) k h
    rw [show j + 1 + k = j + (k + 1) by omega] at ih
    unfold ty_fl
    rw [List.set_cons_succ, ih]
    have e1 : (ty_sR S a (j + (k + 1)) v).2.1 a j = S.2.1 a j := by
      simp only [ty_sR]
      rw [if_neg (fun z => absurd z.2 (by omega))]
    rw [e1]
    rfl
/-- two states whose cells are alike are one heap -/
theorem ty_H_ext {S S' : ty_S} {f : ai_A → Option ai_C} (hc : S'.2.2.2.2.2.2 = S.2.2.2.2.2.2) (h : ∀ a, f a = if a.2 < S.2.2.2.2.2.2.1 a.1 then some (ty_cell S' a) else none) : ((f, (ty_H S).2) : ai_H) = ty_H S' := by
  have e1 : f = (ty_H S').1 := by
    funext a
    rw [h a]
    show _ = if a.2 < S'.2.2.2.2.2.2.1 a.1 then some (ty_cell S' a) else none
    rw [hc]
  rw [e1]
  show ((ty_H S').1, (ty_H S).2) = ((ty_H S').1, (ty_H S').2)
  have e2 : (ty_H S).2 = (ty_H S').2 := by
    show (S.2.2.2.2.2.2.1, S.2.2.2.2.2.2.2.1, S.2.2.2.2.2.2.2.2) = (S'.2.2.2.2.2.2.1, S'.2.2.2.2.2.2.2.1, S'.2.2.2.2.2.2.2.2)
    rw [hc]
  rw [e2]
theorem ty_put {S S' : ty_S} {a : ai_A} {x : ai_C} (hc : S'.2.2.2.2.2.2 = S.2.2.2.2.2.2) (hp : a.2 < S.2.2.2.2.2.2.1 a.1) (hx : ty_cell S' a = x) (ho : ∀ b, b ≠ a → ty_cell S' b = ty_cell S b) : ai_put (ty_H S) a x = ty_H S' := by
  refine ty_H_ext (f := ai_upd (ty_H S).1 a x) hc (fun b => ?_)
  by_cases e : b = a
  · subst e
    rw [if_pos hp, hx]
    simp [ai_upd]
  · show (if b = a then some x else (ty_H S).1 b) = _
    rw [if_neg e, ho b e]
    rfl
theorem ty_cell_sI {S : ty_S} {a b : ai_A} {k : Nat} {v : Int} (h : b ≠ a) : ty_cell (ty_sI S a k v) b = ty_cell S b := by
  unfold ty_cell
  split <;> first | rfl | (rw [ty_fl_eq (S := ty_sI S a k v) (S' := S) _ 0 (fun j _ => (by simp [ty_sI, h])) (fun j _ => rfl)])
theorem ty_cell_sR {S : ty_S} {a b : ai_A} {k : Nat} {v : Option ai_A} (h : b ≠ a) : ty_cell (ty_sR S a k v) b = ty_cell S b := by
  unfold ty_cell
  split <;> first | rfl | (rw [ty_fl_eq (S := ty_sR S a k v) (S' := S) _ 0 (fun j _ => rfl) (fun j _ => (by simp [ty_sR, h]))])
theorem ty_cell_sA {S : ty_S} {a b : ai_A} {i v : Int} (h : b ≠ a) : ty_cell (ty_sA S a i v) b = ty_cell S b := by
  unfold ty_cell
  split <;> first | rfl | (simp [ty_sA, h]; done) | (rw [ty_fl_eq (S := ty_sA S a i v) (S' := S) _ 0 (fun j _ => rfl) (fun j _ => rfl)])
theorem ty_cell_sQ {S : ty_S} {a b : ai_A} {i : Int} {v : Option ai_A} (h : b ≠ a) : ty_cell (ty_sQ S a i v) b = ty_cell S b := by
  unfold ty_cell
  split <;> first | rfl | (simp [ty_sQ, h]; done) | (rw [ty_fl_eq (S := ty_sQ S a i v) (S' := S) _ 0 (fun j _ => rfl) (fun j _ => rfl)])
theorem ty_cell_mA {S : ty_S} {a b : ai_A} {f : Int → Int} (h : b ≠ a) : ty_cell (ty_mA S a f) b = ty_cell S b := by
  unfold ty_cell
  split <;> first | rfl | (simp [ty_mA, h]; done) | (rw [ty_fl_eq (S := ty_mA S a f) (S' := S) _ 0 (fun j _ => rfl) (fun j _ => rfl)])
theorem ty_cell_mQ {S : ty_S} {a b : ai_A} {f : Int → Option ai_A} (h : b ≠ a) : ty_cell (ty_mQ S a f) b = ty_cell S b := by
  unfold ty_cell
  split <;> first | rfl | (simp [ty_mQ, h]; done) | (rw [ty_fl_eq (S := ty_mQ S a f) (S' := S) _ 0 (fun j _ => rfl) (fun j _ => rfl)])
/-- makings -/
theorem ty_new {S S' : ty_S} {s n : Nat} {x : ai_C} (hc : S'.2.2.2.2.2.2.1 = fun j => if j = s then S.2.2.2.2.2.2.1 s + 1 else S.2.2.2.2.2.2.1 j) (hn : S'.2.2.2.2.2.2.2 = (S.2.2.2.2.2.2.2.1 + 1, S.2.2.2.2.2.2.2.2 + n)) (hx : ty_cell S' (s, S.2.2.2.2.2.2.1 s) = x) (ho : ∀ b, b ≠ (s, S.2.2.2.2.2.2.1 s) → ty_cell S' b = ty_cell S b) : ai_new (ty_H S) s x n = ty_H S' := by
  have e1 : ai_upd (ty_H S).1 (s, S.2.2.2.2.2.2.1 s) x = (ty_H S').1 := by
    funext b
    show (if b = (s, S.2.2.2.2.2.2.1 s) then some x else if b.2 < S.2.2.2.2.2.2.1 b.1 then some (ty_cell S b) else none) = if b.2 < S'.2.2.2.2.2.2.1 b.1 then some (ty_cell S' b) else none
    rw [hc]
    by_cases e : b = (s, S.2.2.2.2.2.2.1 s)
    · rw [if_pos e, e, hx]
      simp
    · rw [if_neg e, ho b e]
      by_cases e2 : b.1 = s
      · have e3 : b.2 ≠ S.2.2.2.2.2.2.1 s := fun z => e (Prod.ext e2 z)
        simp only [e2, if_true]
        by_cases e4 : b.2 < S.2.2.2.2.2.2.1 s
        · rw [if_pos e4, if_pos (by omega)]
        · rw [if_neg e4, if_neg (by omega)]
      · simp only [e2, if_false]
  have e3 : (S'.2.2.2.2.2.2.2.1, S'.2.2.2.2.2.2.2.2) = (S.2.2.2.2.2.2.2.1 + 1, S.2.2.2.2.2.2.2.2 + n) := hn
  show (ai_upd (ty_H S).1 (s, S.2.2.2.2.2.2.1 s) x, (fun j => if j = s then S.2.2.2.2.2.2.1 s + 1 else S.2.2.2.2.2.2.1 j), S.2.2.2.2.2.2.2.1 + 1, S.2.2.2.2.2.2.2.2 + n) = ((ty_H S').1, S'.2.2.2.2.2.2.1, S'.2.2.2.2.2.2.2.1, S'.2.2.2.2.2.2.2.2)
  rw [e1, hc]
  simp only [Prod.mk.injEq] at e3
  rw [e3.1, e3.2]
theorem ty_none {S : ty_S} {s : Nat} : ((ty_H S).1 (s, (ty_H S).2.1 s)).isNone = true := by
  show (if S.2.2.2.2.2.2.1 s < S.2.2.2.2.2.2.1 s then some (ty_cell S (s, S.2.2.2.2.2.2.1 s)) else none).isNone = true
  rw [if_neg (Nat.lt_irrefl _)]
  rfl
theorem ty_cell_nO {S : ty_S} {s n : Nat} {b : ai_A} (h : b ≠ (s, S.2.2.2.2.2.2.1 s)) : ty_cell (ty_nO S s n) b = ty_cell S b := by
  unfold ty_cell
  split <;> first | rfl | (rw [ty_fl_eq (S := ty_nO S s n) (S' := S) _ 0 (fun j _ => (by simp [ty_nO, h])) (fun j _ => (by simp [ty_nO, h]))])
theorem ty_cell_nA {S : ty_S} {s n : Nat} {b : ai_A} (h : b ≠ (s, S.2.2.2.2.2.2.1 s)) (h3 : (ty_sk s).1 ≠ 3) : ty_cell (ty_nA S s n) b = ty_cell S b := by
  unfold ty_cell
  split <;> first | rfl | (simp [ty_nA, h, h3]; done) | (rw [ty_fl_eq (S := ty_nA S s n) (S' := S) _ 0 (fun j _ => rfl) (fun j _ => rfl)])
end
section
/-! Ints as whole numbers. -/
theorem ty_J_toInt {x : Int} (h : -2147483648 ≤ x ∧ x ≤ 2147483647) : (ty_J x).toInt = x := Int32.toInt_ofInt_of_le (by omega) (by omega)
theorem ty_J_add (x y : Int) : ty_J x + ty_J y = ty_J (x + y) := (Int32.ofInt_add x y).symm
theorem ty_J_sub (x y : Int) : ty_J x - ty_J y = ty_J (x - y) := by
  unfold ty_J
  rw [Int.sub_eq_add_neg, Int32.ofInt_add, Int32.ofInt_neg, Int32.sub_eq_add_neg]
theorem ty_J_mul (x y : Int) : ty_J x * ty_J y = ty_J (x * y) := (Int32.ofInt_mul x y).symm
theorem ty_J_neg (x : Int) : -ty_J x = ty_J (-x) := (Int32.ofInt_neg (a := x)).symm
theorem ty_J_eq {x y : Int} (hx : -2147483648 ≤ x ∧ x ≤ 2147483647) (hy : -2147483648 ≤ y ∧ y ≤ 2147483647) : ty_J x = ty_J y ↔ x = y := by
  rw [← Int32.toInt_inj, ty_J_toInt hx, ty_J_toInt hy]
theorem ty_J_lt {x y : Int} (hx : -2147483648 ≤ x ∧ x ≤ 2147483647) (hy : -2147483648 ≤ y ∧ y ≤ 2147483647) : ty_J x < ty_J y ↔ x < y := by
  rw [Int32.lt_iff_toInt_lt, ty_J_toInt hx, ty_J_toInt hy]
theorem ty_J_le {x y : Int} (hx : -2147483648 ≤ x ∧ x ≤ 2147483647) (hy : -2147483648 ≤ y ∧ y ≤ 2147483647) : ty_J x ≤ ty_J y ↔ x ≤ y := by
  rw [Int32.le_iff_toInt_le, ty_J_toInt hx, ty_J_toInt hy]
theorem ty_J_zero : ty_J 0 = 0 := by decide
theorem ty_J_nat {x : Int} (h : 0 ≤ x ∧ x ≤ 2147483647) : (ty_J x).toNatClampNeg = x.toNat := by
  rw [← Int32.toNat_toInt, ty_J_toInt (by omega)]
theorem ty_J_of (x : Int32) : ty_J x.toInt = x := Int32.ofInt_toInt x
theorem ty_toInt_r (x : Int32) : -2147483648 ≤ x.toInt ∧ x.toInt ≤ 2147483647 := by
  have h1 := Int32.le_toInt x
  have h2 := Int32.toInt_lt x
  omega
theorem ty_J_nneg {x : Int} (h : 0 ≤ x ∧ x ≤ 2147483647) : ¬ ty_J x < 0 := by
  rw [← ty_J_zero, ty_J_lt (by omega) (by omega)]
  omega
theorem ty_J_ofNat (n : Nat) : Int32.ofNat n = ty_J n := (Int32.ofInt_eq_ofNat (n := n)).symm
theorem ty_J_div {x y : Int} (hx : 0 ≤ x ∧ x ≤ 2147483647) (hy : 0 < y ∧ y ≤ 2147483647) : ty_J x / ty_J y = ty_J (x / y) := by
  have hq : 0 ≤ x / y := Int.ediv_nonneg (by omega) (by omega)
  have hq2 : x / y ≤ x := Int.ediv_le_self y (by omega)
  rw [← Int32.toInt_inj, ty_J_toInt (by omega), Int32.toInt_div, ty_J_toInt (by omega), ty_J_toInt (by omega), Int.tdiv_eq_ediv_of_nonneg (by omega)]
  rw [Int.bmod_eq_of_le] <;> omega
theorem ty_J_rem {x y : Int} (hx : 0 ≤ x ∧ x ≤ 2147483647) (hy : 0 < y ∧ y ≤ 2147483647) : ty_J x - ty_J x / ty_J y * ty_J y = ty_J (x % y) := by
  rw [ty_J_div hx hy, ty_J_mul, ty_J_sub]
  congr 1
  have := Int.emod_add_mul_ediv x y
  have e : y * (x / y) = x / y * y := Int.mul_comm _ _
  omega
theorem ty_bi {n : Int} (h : -128 ≤ n ∧ n ≤ 127) : (Int8.ofInt n).toInt32 = ty_J n := by
  rw [← Int32.toInt_inj, Int8.toInt_toInt32, Int8.toInt_ofInt_of_le (by omega) (by omega), ty_J_toInt (by omega)]
theorem ty_si {n : Int} (h : -32768 ≤ n ∧ n ≤ 32767) : (Int16.ofInt n).toInt32 = ty_J n := by
  rw [← Int32.toInt_inj, Int16.toInt_toInt32, Int16.toInt_ofInt_of_le (by omega) (by omega), ty_J_toInt (by omega)]
theorem ty_i2c {x : Int} (h : 0 ≤ x ∧ x ≤ 65535) : ((ty_J x).toUInt32 % 65536).toInt32 = ty_J x := by
  have e := lg_i2c_small (v := ty_J x) (by rw [ty_J_toInt (by omega)]; omega) (by rw [ty_J_toInt (by omega)]; omega)
  rw [UInt32.toUInt32_toUInt16] at e
  exact e
theorem ty_nar_c {x : Int} (h : 0 ≤ x ∧ x ≤ 65535) : vp_nar .char (ty_J x) = ty_J x := by
  have z2 : ty_J 65535 = 65535 := by decide
  have hf : ai_fit .char (.inl (ty_J x)) = true := by
    simp only [ai_fit, decide_eq_true_eq]
    rw [← ty_J_zero, ← z2, ty_J_le (by omega) (by omega), ty_J_le (by omega) (by omega)]
    exact h
  have e : narrow .char (.int (ty_J x)) = .int (ty_J x) := (ai_fit_ok (ρ := fun _ => 0) hf).1
  unfold vp_nar
  rw [e]
theorem ty_nar_z {x : Int} (h : x = 0 ∨ x = 1) : vp_nar .boolean (ty_J x) = ty_J x := by
  rcases h with rfl | rfl
  · rfl
  · rfl
theorem ty_not (x : Int) : ty_J x ^^^ ty_J (-1) = ty_J (-1 - x) := by
  have h1 : ty_J (-1) = -1 := by decide
  have h2 : ty_J (-1 - x) = -1 - ty_J x := by rw [← ty_J_sub, h1]
  rw [h1, h2]
  generalize ty_J x = w
  rw [← Int32.toBitVec_inj]
  simp only [Int32.toBitVec_xor, Int32.toBitVec_sub]
  generalize w.toBitVec = b
  have h3 : (-1 : Int32).toBitVec = BitVec.allOnes 32 := by decide
  rw [h3, BitVec.xor_allOnes]
  have h4 := BitVec.add_not_self b
  rw [← h4]
  rw [BitVec.add_comm, BitVec.add_sub_cancel]
theorem ty_fit_z {x : Int} (h : x = 0 ∨ x = 1) : ai_fit .boolean (.inl (ty_J x)) = true := by
  rcases h with rfl | rfl
  · rfl
  · rfl
theorem ty_fit_c {x : Int} (h : 0 ≤ x ∧ x ≤ 65535) : ai_fit .char (.inl (ty_J x)) = true := by
  have z2 : ty_J 65535 = 65535 := by decide
  simp only [ai_fit, decide_eq_true_eq]
  rw [← ty_J_zero, ← z2, ty_J_le (by omega) (by omega), ty_J_le (by omega) (by omega)]
  exact h
end
section
/-! Runs of the typed machine, with as much fuel as it takes. -/
theorem ai_run_fuel {P : ai_P} {L : Nat} {xs : Nat → Int32} {call call' : Nat → List ai_V → ai_H → Option (ai_O × ai_H)} (hc : ∀ mi av h r, call mi av h = some r → call' mi av h = some r) {mi : Nat} :
    ∀ n n' pc ls st h r, n ≤ n' → ai_run P L xs call mi n pc ls st h = some r → ai_run P L xs call' mi n' pc ls st h = some r := by
  intro n
  induction n with
  | zero => intro n' pc ls st h r _ hr; cases hr
  | succ n ih =>
    intro n' pc ls st h r hn hr
    cases n' with
    | zero => omega
    | succ m =>
      have hm : n ≤ m := by omega
      unfold ai_run at hr ⊢
      split at hr
      · cases hr
      · rename_i kd ins ks hrow
        split at hr
        · split at hr
          · rename_i hp
            try simp only [hp]
            exact ih _ _ _ _ _ _ hm hr
          · cases hr
        · split at hr
          · rename_i hp
            try simp only [hp]
            exact ih _ _ _ _ _ _ hm hr
          · cases hr
        · split at hr
          · rename_i hp
            try simp only [hp]
            exact ih _ _ _ _ _ _ hm hr
          · cases hr
        · split at hr
          · rename_i hp
            try simp only [hp]
            exact ih _ _ _ _ _ _ hm hr
          · cases hr
        · split at hr
          · rename_i hp
            try simp only [hp]
            split at hr
            · rename_i hh
              simp only [hc _ _ _ _ hh]
              exact ih _ _ _ _ _ _ hm hr
            · rename_i hh
              simp only [hc _ _ _ _ hh]
              split at hr
              · rename_i hx
                try simp only [hx]
                split at hr
                · rename_i hy
                  try rw [if_pos hy]
                  exact ih _ _ _ _ _ _ hm hr
                · cases hr
              · rename_i hx
                try simp only [hx]
                exact hr
              · cases hr
            · cases hr
          · cases hr
        · exact hr
        · exact hr
        · split at hr
          · split at hr
            · rename_i hy
              try rw [if_pos hy]
              exact ih _ _ _ _ _ _ hm hr
            · cases hr
          · cases hr
        · split at hr
          · split at hr
            · rename_i hy
              try rw [if_pos hy]
              exact ih _ _ _ _ _ _ hm hr
            · cases hr
          · cases hr
        · split at hr
          · split at hr
            · rename_i hy
              try rw [if_pos hy]
              exact ih _ _ _ _ _ _ hm hr
            · cases hr
          · cases hr
        · split at hr
          · rename_i hp
            try simp only [hp]
            exact ih _ _ _ _ _ _ hm hr
          · cases hr
        · cases hr
theorem ai_call_fuel {P : ai_P} {L : Nat} {xs : Nat → Int32} : ∀ d d' N N' mi av h r, d ≤ d' → N ≤ N' → ai_call P L xs N d mi av h = some r → ai_call P L xs N' d' mi av h = some r := by
  intro d
  induction d with
  | zero => intro d' N N' mi av h r _ _ hr; cases hr
  | succ d ih =>
    intro d' N N' mi av h r hd hN hr
    cases d' with
    | zero => omega
    | succ e =>
      unfold ai_call at hr ⊢
      split at hr
      · rename_i hl
        rw [if_pos hl]
        exact ai_run_fuel (fun mi av h r z => ih e N N' mi av h r (by omega) hN z) _ _ _ _ _ _ _ hN hr
      · cases hr
def ty_W (L : Nat) (xs : Nat → Int32) (d mi pc : Nat) (ls : ai_L) (st : List ai_V) (S : ty_S) (Q : ai_O → ty_S → Prop) : Prop :=
  ∃ (N n : Nat) (o : ai_O) (S' : ty_S), ai_run gt_P L xs (ai_call gt_P L xs N d) mi n pc ls st (ty_H S) = some (o, ty_H S') ∧ Q o S'
def ty_C (L : Nat) (xs : Nat → Int32) (d mi : Nat) (av : List ai_V) (S : ty_S) (Q : ai_O → ty_S → Prop) : Prop :=
  ∃ (N : Nat) (o : ai_O) (S' : ty_S), ai_call gt_P L xs N d mi av (ty_H S) = some (o, ty_H S') ∧ Q o S'
section TYR
variable {L : Nat} {xs : Nat → Int32} {d mi pc : Nat} {ls : ai_L} {st : List ai_V} {S : ty_S} {Q : ai_O → ty_S → Prop}
theorem ty_W.mono {Q' : ai_O → ty_S → Prop} (k : ty_W L xs d mi pc ls st S Q) (h : ∀ o S', Q o S' → Q' o S') : ty_W L xs d mi pc ls st S Q' := by
  obtain ⟨N, n, o, S', a, b⟩ := k
  exact ⟨N, n, o, S', a, h _ _ b⟩
theorem ty_C.mono {av : List ai_V} {Q' : ai_O → ty_S → Prop} (k : ty_C L xs d mi av S Q) (h : ∀ o S', Q o S' → Q' o S') : ty_C L xs d mi av S Q' := by
  obtain ⟨N, o, S', a, b⟩ := k
  exact ⟨N, o, S', a, h _ _ b⟩
theorem ty_C.deeper {av : List ai_V} {d' : Nat} (k : ty_C L xs d mi av S Q) (h : d ≤ d') : ty_C L xs d' mi av S Q := by
  obtain ⟨N, o, S', a, b⟩ := k
  exact ⟨N, o, S', ai_call_fuel _ _ _ _ _ _ _ _ h (Nat.le_refl _) a, b⟩
theorem ty_enter {av : List ai_V} {ml : Nat} (hm : (gt_P.2.2.1 mi).1 = ml) (he : ai_ent av ++ List.replicate (ml - (ai_ent av).length) none = ls) (hle : (ai_ent av).length ≤ ml) (k : ty_W L xs d mi 0 ls [] S Q) : ty_C L xs (d + 1) mi av S Q := by
  obtain ⟨N, n, o, S', a, b⟩ := k
  refine ⟨max N n, o, S', ?_, b⟩
  unfold ai_call
  rw [if_pos (by rw [hm]; exact hle), hm, he]
  exact ai_run_fuel (fun mi av h r z => ai_call_fuel _ _ _ _ _ _ _ _ (Nat.le_refl _) (Nat.le_max_left _ _) z) _ _ _ _ _ _ _ (Nat.le_max_right _ _) a
theorem ty_step {pc' : Nat} {ls' : ai_L} {st' : List ai_V} {S' : ty_S} (hs : ∀ (call : Nat → List ai_V → ai_H → Option (ai_O × ai_H)) (n : Nat), ai_run gt_P L xs call mi (n + 1) pc ls st (ty_H S) = ai_run gt_P L xs call mi n pc' ls' st' (ty_H S')) (k : ty_W L xs d mi pc' ls' st' S' Q) : ty_W L xs d mi pc ls st S Q := by
  obtain ⟨N, n, o, S2, a, b⟩ := k
  exact ⟨N, n + 1, o, S2, by rw [hs]; exact a, b⟩
/-! the stack alone -/
theorem ty_pure {ins : Instr} {ks : List Nat} {st' : List ai_V} (row : gt_P.1 mi pc = some (0, ins, ks)) (hp : ai_pure ins st = some st') (k : ty_W L xs d mi (pc + ai_len ins) ls st' S Q) : ty_W L xs d mi pc ls st S Q :=
  ty_step (fun call n => by simp only [ai_run, row, hp]) k
theorem ty_iconst {n : Int} {ks : List Nat} (row : gt_P.1 mi pc = some (0, .iconst n, ks)) (k : ty_W L xs d mi (pc + 1) ls (.inl (ty_J n) :: st) S Q) : ty_W L xs d mi pc ls st S Q := ty_pure row rfl k
theorem ty_bipush {n : Int} {ks : List Nat} (row : gt_P.1 mi pc = some (0, .bipush n, ks)) (h : -128 ≤ n ∧ n ≤ 127) (k : ty_W L xs d mi (pc + 2) ls (.inl (ty_J n) :: st) S Q) : ty_W L xs d mi pc ls st S Q := ty_pure row (by simp only [ai_pure]; rw [ty_bi h]) k
theorem ty_sipush {n : Int} {ks : List Nat} (row : gt_P.1 mi pc = some (0, .sipush n, ks)) (h : -32768 ≤ n ∧ n ≤ 32767) (k : ty_W L xs d mi (pc + 3) ls (.inl (ty_J n) :: st) S Q) : ty_W L xs d mi pc ls st S Q := ty_pure row (by simp only [ai_pure]; rw [ty_si h]) k
theorem ty_null {ks : List Nat} (row : gt_P.1 mi pc = some (0, .aconst_null, ks)) (k : ty_W L xs d mi (pc + 1) ls (.inr (.inr none) :: st) S Q) : ty_W L xs d mi pc ls st S Q := ty_pure row rfl k
theorem ty_dup {ks : List Nat} {v : ai_V} (row : gt_P.1 mi pc = some (0, .dup, ks)) (h : ai_two v = false) (k : ty_W L xs d mi (pc + 1) ls (v :: v :: st) S Q) : ty_W L xs d mi pc ls (v :: st) S Q := ty_pure row (by simp [ai_pure, h]) k
theorem ty_dup_x1 {ks : List Nat} {v w : ai_V} (row : gt_P.1 mi pc = some (0, .dup_x1, ks)) (h : ai_two v = false) (h2 : ai_two w = false) (k : ty_W L xs d mi (pc + 1) ls (v :: w :: v :: st) S Q) : ty_W L xs d mi pc ls (v :: w :: st) S Q := ty_pure row (by simp [ai_pure, h, h2]) k
theorem ty_dup_x2 {ks : List Nat} {v w u : ai_V} (row : gt_P.1 mi pc = some (0, .dup_x2, ks)) (h : ai_two v = false) (h2 : ai_two w = false) (h3 : ai_two u = false) (k : ty_W L xs d mi (pc + 1) ls (v :: w :: u :: v :: st) S Q) : ty_W L xs d mi pc ls (v :: w :: u :: st) S Q := ty_pure row (by simp [ai_pure, h, h2, h3]) k
theorem ty_dup2 {ks : List Nat} {v w : ai_V} (row : gt_P.1 mi pc = some (0, .dup2, ks)) (h : ai_two v = false) (h2 : ai_two w = false) (k : ty_W L xs d mi (pc + 1) ls (v :: w :: v :: w :: st) S Q) : ty_W L xs d mi pc ls (v :: w :: st) S Q := ty_pure row (by simp [ai_pure, h, h2]) k
theorem ty_pop {ks : List Nat} {v : ai_V} (row : gt_P.1 mi pc = some (0, .pop, ks)) (h : ai_two v = false) (k : ty_W L xs d mi (pc + 1) ls st S Q) : ty_W L xs d mi pc ls (v :: st) S Q := ty_pure row (by simp [ai_pure, h]) k
theorem ty_iadd {ks : List Nat} {x y : Int} (row : gt_P.1 mi pc = some (0, .iadd, ks)) (k : ty_W L xs d mi (pc + 1) ls (.inl (ty_J (x + y)) :: st) S Q) : ty_W L xs d mi pc ls (.inl (ty_J y) :: .inl (ty_J x) :: st) S Q := ty_pure row (by simp only [ai_pure, ai_ii, ty_J_add]) k
theorem ty_isub {ks : List Nat} {x y : Int} (row : gt_P.1 mi pc = some (0, .isub, ks)) (k : ty_W L xs d mi (pc + 1) ls (.inl (ty_J (x - y)) :: st) S Q) : ty_W L xs d mi pc ls (.inl (ty_J y) :: .inl (ty_J x) :: st) S Q := ty_pure row (by simp only [ai_pure, ai_ii, ty_J_sub]) k
theorem ty_imul {ks : List Nat} {x y : Int} (row : gt_P.1 mi pc = some (0, .imul, ks)) (k : ty_W L xs d mi (pc + 1) ls (.inl (ty_J (x * y)) :: st) S Q) : ty_W L xs d mi pc ls (.inl (ty_J y) :: .inl (ty_J x) :: st) S Q := ty_pure row (by simp only [ai_pure, ai_ii, ty_J_mul]) k
theorem ty_idiv {ks : List Nat} {x y : Int} (row : gt_P.1 mi pc = some (0, .idiv, ks)) (hx : 0 ≤ x ∧ x ≤ 2147483647) (hy : 0 < y ∧ y ≤ 2147483647) (k : ty_W L xs d mi (pc + 1) ls (.inl (ty_J (x / y)) :: st) S Q) : ty_W L xs d mi pc ls (.inl (ty_J y) :: .inl (ty_J x) :: st) S Q := by
  refine ty_pure row ?_ k
  have h0 : ty_J y ≠ 0 := by
    rw [← ty_J_zero, Ne, ty_J_eq (by omega) (by omega)]
    omega
  simp only [ai_pure, if_neg h0, ty_J_div hx hy]
theorem ty_irem {ks : List Nat} {x y : Int} (row : gt_P.1 mi pc = some (0, .irem, ks)) (hx : 0 ≤ x ∧ x ≤ 2147483647) (hy : 0 < y ∧ y ≤ 2147483647) (k : ty_W L xs d mi (pc + 1) ls (.inl (ty_J (x % y)) :: st) S Q) : ty_W L xs d mi pc ls (.inl (ty_J y) :: .inl (ty_J x) :: st) S Q := by
  refine ty_pure row ?_ k
  have h0 : ty_J y ≠ 0 := by
    rw [← ty_J_zero, Ne, ty_J_eq (by omega) (by omega)]
    omega
  simp only [ai_pure, if_neg h0, ty_J_rem hx hy]
theorem ty_inot {ks : List Nat} {x : Int} (row : gt_P.1 mi pc = some (0, .ixor, ks)) (k : ty_W L xs d mi (pc + 1) ls (.inl (ty_J (-1 - x)) :: st) S Q) : ty_W L xs d mi pc ls (.inl (ty_J (-1)) :: .inl (ty_J x) :: st) S Q := ty_pure row (by simp only [ai_pure, ai_ii, ty_not]) k
theorem ty_i2c_ {ks : List Nat} {x : Int} (row : gt_P.1 mi pc = some (0, .i2c, ks)) (h : 0 ≤ x ∧ x ≤ 65535) (k : ty_W L xs d mi (pc + 1) ls (.inl (ty_J x) :: st) S Q) : ty_W L xs d mi pc ls (.inl (ty_J x) :: st) S Q := ty_pure row (by simp only [ai_pure, ty_i2c h]) k
/-! jumps -/
theorem ty_jmp {ins : Instr} {ks : List Nat} {st' : List ai_V} {pc' : Nat} (row : gt_P.1 mi pc = some (1, ins, ks)) (hp : ai_jmp ins pc ks st = some (pc', st')) (k : ty_W L xs d mi pc' ls st' S Q) : ty_W L xs d mi pc ls st S Q :=
  ty_step (fun call n => by simp only [ai_run, row, hp]) k
theorem ty_goto {off : Int} {t : Nat} {ks : List Nat} (row : gt_P.1 mi pc = some (1, .goto off, t :: ks)) (k : ty_W L xs d mi t ls st S Q) : ty_W L xs d mi pc ls st S Q := ty_jmp row rfl k
theorem ty_br {q : ClassFile.Cond} {x y : Int} {p : Prop} (hp : ai_cmp q (ty_J x) (ty_J y) = true ↔ p) {off : Int} {t : Nat} {ks : List Nat} (row : gt_P.1 mi pc = some (1, .if_icmp q off, t :: ks)) (k1 : p → ty_W L xs d mi t ls st S Q) (k2 : ¬ p → ty_W L xs d mi (pc + 3) ls st S Q) : ty_W L xs d mi pc ls (.inl (ty_J y) :: .inl (ty_J x) :: st) S Q := by
  by_cases h : p
  · exact ty_jmp row (by simp only [ai_jmp]; rw [if_pos (hp.mpr h)]; rfl) (k1 h)
  · exact ty_jmp row (by simp only [ai_jmp]; rw [if_neg (fun z => h (hp.mp z))]) (k2 h)
theorem ty_br0 {q : ClassFile.Cond} {x : Int} {p : Prop} (hp : ai_cmp q (ty_J x) 0 = true ↔ p) {off : Int} {t : Nat} {ks : List Nat} (row : gt_P.1 mi pc = some (1, .ifCond q off, t :: ks)) (k1 : p → ty_W L xs d mi t ls st S Q) (k2 : ¬ p → ty_W L xs d mi (pc + 3) ls st S Q) : ty_W L xs d mi pc ls (.inl (ty_J x) :: st) S Q := by
  by_cases h : p
  · exact ty_jmp row (by simp only [ai_jmp]; rw [if_pos (hp.mpr h)]; rfl) (k1 h)
  · exact ty_jmp row (by simp only [ai_jmp]; rw [if_neg (fun z => h (hp.mp z))]) (k2 h)
section TYB
variable {x y : Int} {off : Int} {t : Nat} {ks : List Nat}
theorem ty_icmp_eq (row : gt_P.1 mi pc = some (1, .if_icmp .eq off, t :: ks)) (hx : -2147483648 ≤ x ∧ x ≤ 2147483647) (hy : -2147483648 ≤ y ∧ y ≤ 2147483647) (k1 : x = y → ty_W L xs d mi t ls st S Q) (k2 : x ≠ y → ty_W L xs d mi (pc + 3) ls st S Q) : ty_W L xs d mi pc ls (.inl (ty_J y) :: .inl (ty_J x) :: st) S Q :=
  ty_br (p := x = y) (by simp only [ai_cmp, decide_eq_true_eq]; exact ty_J_eq hx hy) row k1 k2
theorem ty_icmp_ne (row : gt_P.1 mi pc = some (1, .if_icmp .ne off, t :: ks)) (hx : -2147483648 ≤ x ∧ x ≤ 2147483647) (hy : -2147483648 ≤ y ∧ y ≤ 2147483647) (k1 : x ≠ y → ty_W L xs d mi t ls st S Q) (k2 : x = y → ty_W L xs d mi (pc + 3) ls st S Q) : ty_W L xs d mi pc ls (.inl (ty_J y) :: .inl (ty_J x) :: st) S Q :=
  ty_br (p := x ≠ y) (by simp only [ai_cmp, decide_eq_true_eq]; rw [ty_J_eq hx hy]) row k1 (fun h => k2 (Decidable.not_not.mp h))
theorem ty_icmp_lt (row : gt_P.1 mi pc = some (1, .if_icmp .lt off, t :: ks)) (hx : -2147483648 ≤ x ∧ x ≤ 2147483647) (hy : -2147483648 ≤ y ∧ y ≤ 2147483647) (k1 : x < y → ty_W L xs d mi t ls st S Q) (k2 : y ≤ x → ty_W L xs d mi (pc + 3) ls st S Q) : ty_W L xs d mi pc ls (.inl (ty_J y) :: .inl (ty_J x) :: st) S Q :=
  ty_br (p := x < y) (by simp only [ai_cmp, decide_eq_true_eq]; exact ty_J_lt hx hy) row k1 (fun h => k2 (by omega))
theorem ty_icmp_ge (row : gt_P.1 mi pc = some (1, .if_icmp .ge off, t :: ks)) (hx : -2147483648 ≤ x ∧ x ≤ 2147483647) (hy : -2147483648 ≤ y ∧ y ≤ 2147483647) (k1 : y ≤ x → ty_W L xs d mi t ls st S Q) (k2 : x < y → ty_W L xs d mi (pc + 3) ls st S Q) : ty_W L xs d mi pc ls (.inl (ty_J y) :: .inl (ty_J x) :: st) S Q :=
  ty_br (p := y ≤ x) (by simp only [ai_cmp, decide_eq_true_eq]; exact ty_J_le hy hx) row k1 (fun h => k2 (by omega))
theorem ty_icmp_gt (row : gt_P.1 mi pc = some (1, .if_icmp .gt off, t :: ks)) (hx : -2147483648 ≤ x ∧ x ≤ 2147483647) (hy : -2147483648 ≤ y ∧ y ≤ 2147483647) (k1 : y < x → ty_W L xs d mi t ls st S Q) (k2 : x ≤ y → ty_W L xs d mi (pc + 3) ls st S Q) : ty_W L xs d mi pc ls (.inl (ty_J y) :: .inl (ty_J x) :: st) S Q :=
  ty_br (p := y < x) (by simp only [ai_cmp, decide_eq_true_eq]; exact ty_J_lt hy hx) row k1 (fun h => k2 (by omega))
theorem ty_icmp_le (row : gt_P.1 mi pc = some (1, .if_icmp .le off, t :: ks)) (hx : -2147483648 ≤ x ∧ x ≤ 2147483647) (hy : -2147483648 ≤ y ∧ y ≤ 2147483647) (k1 : x ≤ y → ty_W L xs d mi t ls st S Q) (k2 : y < x → ty_W L xs d mi (pc + 3) ls st S Q) : ty_W L xs d mi pc ls (.inl (ty_J y) :: .inl (ty_J x) :: st) S Q :=
  ty_br (p := x ≤ y) (by simp only [ai_cmp, decide_eq_true_eq]; exact ty_J_le hx hy) row k1 (fun h => k2 (by omega))
theorem ty_if_eq (row : gt_P.1 mi pc = some (1, .ifCond .eq off, t :: ks)) (hx : -2147483648 ≤ x ∧ x ≤ 2147483647) (k1 : x = 0 → ty_W L xs d mi t ls st S Q) (k2 : x ≠ 0 → ty_W L xs d mi (pc + 3) ls st S Q) : ty_W L xs d mi pc ls (.inl (ty_J x) :: st) S Q :=
  ty_br0 (p := x = 0) (by rw [← ty_J_zero]; simp only [ai_cmp, decide_eq_true_eq]; exact ty_J_eq hx (by omega)) row k1 k2
theorem ty_if_ne (row : gt_P.1 mi pc = some (1, .ifCond .ne off, t :: ks)) (hx : -2147483648 ≤ x ∧ x ≤ 2147483647) (k1 : x ≠ 0 → ty_W L xs d mi t ls st S Q) (k2 : x = 0 → ty_W L xs d mi (pc + 3) ls st S Q) : ty_W L xs d mi pc ls (.inl (ty_J x) :: st) S Q :=
  ty_br0 (p := x ≠ 0) (by rw [← ty_J_zero]; simp only [ai_cmp, decide_eq_true_eq]; rw [ty_J_eq hx (by omega)]) row k1 (fun h => k2 (Decidable.not_not.mp h))
theorem ty_if_lt (row : gt_P.1 mi pc = some (1, .ifCond .lt off, t :: ks)) (hx : -2147483648 ≤ x ∧ x ≤ 2147483647) (k1 : x < 0 → ty_W L xs d mi t ls st S Q) (k2 : 0 ≤ x → ty_W L xs d mi (pc + 3) ls st S Q) : ty_W L xs d mi pc ls (.inl (ty_J x) :: st) S Q :=
  ty_br0 (p := x < 0) (by rw [← ty_J_zero]; simp only [ai_cmp, decide_eq_true_eq]; exact ty_J_lt hx (by omega)) row k1 (fun h => k2 (by omega))
theorem ty_if_ge (row : gt_P.1 mi pc = some (1, .ifCond .ge off, t :: ks)) (hx : -2147483648 ≤ x ∧ x ≤ 2147483647) (k1 : 0 ≤ x → ty_W L xs d mi t ls st S Q) (k2 : x < 0 → ty_W L xs d mi (pc + 3) ls st S Q) : ty_W L xs d mi pc ls (.inl (ty_J x) :: st) S Q :=
  ty_br0 (p := 0 ≤ x) (by rw [← ty_J_zero]; simp only [ai_cmp, decide_eq_true_eq]; exact ty_J_le (by omega) hx) row k1 (fun h => k2 (by omega))
theorem ty_if_gt (row : gt_P.1 mi pc = some (1, .ifCond .gt off, t :: ks)) (hx : -2147483648 ≤ x ∧ x ≤ 2147483647) (k1 : 0 < x → ty_W L xs d mi t ls st S Q) (k2 : x ≤ 0 → ty_W L xs d mi (pc + 3) ls st S Q) : ty_W L xs d mi pc ls (.inl (ty_J x) :: st) S Q :=
  ty_br0 (p := 0 < x) (by rw [← ty_J_zero]; simp only [ai_cmp, decide_eq_true_eq]; exact ty_J_lt (by omega) hx) row k1 (fun h => k2 (by omega))
theorem ty_if_le (row : gt_P.1 mi pc = some (1, .ifCond .le off, t :: ks)) (hx : -2147483648 ≤ x ∧ x ≤ 2147483647) (k1 : x ≤ 0 → ty_W L xs d mi t ls st S Q) (k2 : 0 < x → ty_W L xs d mi (pc + 3) ls st S Q) : ty_W L xs d mi pc ls (.inl (ty_J x) :: st) S Q :=
  ty_br0 (p := x ≤ 0) (by rw [← ty_J_zero]; simp only [ai_cmp, decide_eq_true_eq]; exact ty_J_le hx (by omega)) row k1 (fun h => k2 (by omega))
theorem ty_ifnull {v : Option ai_A} (row : gt_P.1 mi pc = some (1, .ifnull off, t :: ks)) (k1 : v = none → ty_W L xs d mi t ls st S Q) (k2 : v ≠ none → ty_W L xs d mi (pc + 3) ls st S Q) : ty_W L xs d mi pc ls (.inr (.inr v) :: st) S Q := by
  cases v with
  | none => exact ty_jmp row rfl (k1 rfl)
  | some a => exact ty_jmp row rfl (k2 (by simp))
theorem ty_ifnonnull {v : Option ai_A} (row : gt_P.1 mi pc = some (1, .ifnonnull off, t :: ks)) (k1 : v ≠ none → ty_W L xs d mi t ls st S Q) (k2 : v = none → ty_W L xs d mi (pc + 3) ls st S Q) : ty_W L xs d mi pc ls (.inr (.inr v) :: st) S Q := by
  cases v with
  | none => exact ty_jmp row rfl (k2 rfl)
  | some a => exact ty_jmp row rfl (k1 (by simp))
end TYB
/-! locals -/
theorem ty_loc {ins : Instr} {ks : List Nat} {ls' : ai_L} {st' : List ai_V} (row : gt_P.1 mi pc = some (2, ins, ks)) (hp : ai_loc ins ls st = some (ls', st')) (k : ty_W L xs d mi (pc + ai_len ins) ls' st' S Q) : ty_W L xs d mi pc ls st S Q :=
  ty_step (fun call n => by simp only [ai_run, row, hp]) k
section TYL
variable {ks : List Nat} {x : Int32} {v : Option ai_A} {w : Int64} {ls' : ai_L}
theorem ty_iload {i : Nat} (row : gt_P.1 mi pc = some (2, .iload i, ks)) (hl : ls[i]? = some (some (.inl x))) (k : ty_W L xs d mi (pc + 2) ls (.inl x :: st) S Q) : ty_W L xs d mi pc ls st S Q := ty_loc row (by simp only [ai_loc, hl]) k
theorem ty_iload_n {i : Fin 4} (row : gt_P.1 mi pc = some (2, .iload_n i, ks)) (hl : ls[(i : Nat)]? = some (some (.inl x))) (k : ty_W L xs d mi (pc + 1) ls (.inl x :: st) S Q) : ty_W L xs d mi pc ls st S Q := ty_loc row (by simp only [ai_loc, hl]) k
theorem ty_aload {i : Nat} (row : gt_P.1 mi pc = some (2, .aload i, ks)) (hl : ls[i]? = some (some (.inr (.inr v)))) (k : ty_W L xs d mi (pc + 2) ls (.inr (.inr v) :: st) S Q) : ty_W L xs d mi pc ls st S Q := ty_loc row (by simp only [ai_loc, hl]) k
theorem ty_aload_n {i : Fin 4} (row : gt_P.1 mi pc = some (2, .aload_n i, ks)) (hl : ls[(i : Nat)]? = some (some (.inr (.inr v)))) (k : ty_W L xs d mi (pc + 1) ls (.inr (.inr v) :: st) S Q) : ty_W L xs d mi pc ls st S Q := ty_loc row (by simp only [ai_loc, hl]) k
theorem ty_lload_n {i : Fin 4} (row : gt_P.1 mi pc = some (2, .lload_n i, ks)) (hl : ls[(i : Nat)]? = some (some (.inr (.inl w)))) (k : ty_W L xs d mi (pc + 1) ls (.inr (.inl w) :: st) S Q) : ty_W L xs d mi pc ls st S Q := ty_loc row (by simp only [ai_loc, hl]) k
theorem ty_istore {i : Nat} (row : gt_P.1 mi pc = some (2, .istore i, ks)) (hs : ai_st1 ls i (.inl x) = some ls') (k : ty_W L xs d mi (pc + 2) ls' st S Q) : ty_W L xs d mi pc ls (.inl x :: st) S Q := ty_loc row (by simp only [ai_loc, hs]; rfl) k
theorem ty_istore_n {i : Fin 4} (row : gt_P.1 mi pc = some (2, .istore_n i, ks)) (hs : ai_st1 ls i (.inl x) = some ls') (k : ty_W L xs d mi (pc + 1) ls' st S Q) : ty_W L xs d mi pc ls (.inl x :: st) S Q := ty_loc row (by simp only [ai_loc, hs]; rfl) k
theorem ty_astore {i : Nat} (row : gt_P.1 mi pc = some (2, .astore i, ks)) (hs : ai_st1 ls i (.inr (.inr v)) = some ls') (k : ty_W L xs d mi (pc + 2) ls' st S Q) : ty_W L xs d mi pc ls (.inr (.inr v) :: st) S Q := ty_loc row (by simp only [ai_loc, hs]; rfl) k
theorem ty_astore_n {i : Fin 4} (row : gt_P.1 mi pc = some (2, .astore_n i, ks)) (hs : ai_st1 ls i (.inr (.inr v)) = some ls') (k : ty_W L xs d mi (pc + 1) ls' st S Q) : ty_W L xs d mi pc ls (.inr (.inr v) :: st) S Q := ty_loc row (by simp only [ai_loc, hs]; rfl) k
theorem ty_iinc {i : Nat} {n z : Int} (row : gt_P.1 mi pc = some (2, .iinc i n, ks)) (hl : ls[i]? = some (some (.inl (ty_J z)))) (hs : ai_st1 ls i (.inl (ty_J (z + n))) = some ls') (k : ty_W L xs d mi (pc + 3) ls' st S Q) : ty_W L xs d mi pc ls st S Q := by
  refine ty_loc row ?_ k
  simp only [ai_loc, hl]
  rw [show Int32.ofInt n = ty_J n from rfl, ty_J_add, hs]
  rfl
end TYL
end TYR
end
section
/-! Rules of the heap, of calls and ends. -/
section TYH
variable {L : Nat} {xs : Nat → Int32} {d mi pc : Nat} {ls : ai_L} {st : List ai_V} {S : ty_S} {Q : ai_O → ty_S → Prop} {ks : List Nat} {a : ai_A}
theorem ty_heap {ins : Instr} {st' : List ai_V} {S' : ty_S} (row : gt_P.1 mi pc = some (3, ins, ks)) (hp : ai_heap gt_dfl (fun t => gt_tyL.getD t .float) gt_tyF gt_asg L xs ins ks st (ty_H S) = some (st', ty_H S')) (k : ty_W L xs d mi (pc + ai_len ins) ls st' S' Q) : ty_W L xs d mi pc ls st S Q :=
  ty_step (fun call n => by
    simp only [ai_run, row]
    rw [show ai_heap gt_P.2.2.2.1 (fun t => gt_P.2.2.2.2.1.getD t .float) gt_P.2.2.2.2.2.1 gt_P.2.2.2.2.2.2 L xs ins ks st (ty_H S) = some (st', ty_H S') from hp]) k
theorem ty_getI {idx ci f : Nat} (row : gt_P.1 mi pc = some (3, .getfield idx, [ci, f])) (hs : ty_sk a.1 = (1, ci)) (hk : (ty_kd ci)[f]? = some false) (hp : a.2 < S.2.2.2.2.2.2.1 a.1) (k : ∀ v, S.1 a f = v → ty_W L xs d mi (pc + 3) ls (.inl (ty_J v) :: st) S Q) : ty_W L xs d mi pc ls (.inr (.inr (some a)) :: st) S Q := by
  refine ty_heap row ?_ (k _ rfl)
  have h1 := ty_H_at (S := S) hp
  rw [ty_cell_o hs] at h1
  have h2 := ty_fl_at (S := S) (a := a) (ty_kd ci) 0 f false hk
  simp only [ai_heap, h1]
  show (if ci = ci then ((ty_fl S a 0 (ty_kd ci))[f]?).map (fun v => (v :: st, ty_H S)) else none) = _
  rw [if_pos rfl, h2]
  simp
theorem ty_getR {idx ci f : Nat} (row : gt_P.1 mi pc = some (3, .getfield idx, [ci, f])) (hs : ty_sk a.1 = (1, ci)) (hk : (ty_kd ci)[f]? = some true) (hp : a.2 < S.2.2.2.2.2.2.1 a.1) (k : ∀ v, S.2.1 a f = v → ty_W L xs d mi (pc + 3) ls (.inr (.inr v) :: st) S Q) : ty_W L xs d mi pc ls (.inr (.inr (some a)) :: st) S Q := by
  refine ty_heap row ?_ (k _ rfl)
  have h1 := ty_H_at (S := S) hp
  rw [ty_cell_o hs] at h1
  have h2 := ty_fl_at (S := S) (a := a) (ty_kd ci) 0 f true hk
  simp only [ai_heap, h1]
  show (if ci = ci then ((ty_fl S a 0 (ty_kd ci))[f]?).map (fun v => (v :: st, ty_H S)) else none) = _
  rw [if_pos rfl, h2]
  simp
theorem ty_put_ {idx ci f : Nat} {v : ai_V} {S' : ty_S} (row : gt_P.1 mi pc = some (3, .putfield idx, [ci, f])) (hs : ty_sk a.1 = (1, ci)) (hk : f < (ty_kd ci).length) (hp : a.2 < S.2.2.2.2.2.2.1 a.1) (hf : ai_fit (gt_tyF ci f) v = true) (hS : ai_put (ty_H S) a (.inl (ci, (ty_fl S a 0 (ty_kd ci)).set f v)) = ty_H S') (k : ty_W L xs d mi (pc + 3) ls st S' Q) : ty_W L xs d mi pc ls (v :: .inr (.inr (some a)) :: st) S Q := by
  refine ty_heap row ?_ k
  have h1 := ty_H_at (S := S) hp
  rw [ty_cell_o hs] at h1
  simp only [ai_heap, h1]
  show (if ci = ci ∧ f < (ty_fl S a 0 (ty_kd ci)).length ∧ ai_fit (gt_tyF ci f) v = true then some (st, ai_put (ty_H S) a (.inl (ci, (ty_fl S a 0 (ty_kd ci)).set f v))) else none) = _
  rw [if_pos ⟨rfl, by rw [ty_fl_len]; exact hk, hf⟩, hS]
theorem ty_putF {idx ci f : Nat} {v : Int} (row : gt_P.1 mi pc = some (3, .putfield idx, [ci, f])) (hs : ty_sk a.1 = (1, ci)) (hk : (ty_kd ci)[f]? = some false) (hf : ai_fit (gt_tyF ci f) (.inl (ty_J v)) = true) (hp : a.2 < S.2.2.2.2.2.2.1 a.1) (k : ty_W L xs d mi (pc + 3) ls st (ty_sI S a f v) Q) : ty_W L xs d mi pc ls (.inl (ty_J v) :: .inr (.inr (some a)) :: st) S Q := by
  refine ty_put_ row hs (List.getElem?_eq_some_iff.mp hk).1 hp hf (ty_put (S' := ty_sI S a f v) rfl hp ?_ (fun b hb => ty_cell_sI hb)) k
  rw [ty_cell_o hs, ty_fl_setI _ 0 f hk, Nat.zero_add]
theorem ty_putI {idx ci f : Nat} {v : Int} (row : gt_P.1 mi pc = some (3, .putfield idx, [ci, f])) (hs : ty_sk a.1 = (1, ci)) (hk : (ty_kd ci)[f]? = some false) (hf : gt_tyF ci f = .int) (hp : a.2 < S.2.2.2.2.2.2.1 a.1) (k : ty_W L xs d mi (pc + 3) ls st (ty_sI S a f v) Q) : ty_W L xs d mi pc ls (.inl (ty_J v) :: .inr (.inr (some a)) :: st) S Q :=
  ty_putF row hs hk (by rw [hf]; rfl) hp k
theorem ty_putZ {idx ci f : Nat} {v : Int} (row : gt_P.1 mi pc = some (3, .putfield idx, [ci, f])) (hs : ty_sk a.1 = (1, ci)) (hk : (ty_kd ci)[f]? = some false) (hf : gt_tyF ci f = .boolean) (hp : a.2 < S.2.2.2.2.2.2.1 a.1) (hv : v = 0 ∨ v = 1) (k : ty_W L xs d mi (pc + 3) ls st (ty_sI S a f v) Q) : ty_W L xs d mi pc ls (.inl (ty_J v) :: .inr (.inr (some a)) :: st) S Q :=
  ty_putF row hs hk (by rw [hf]; exact ty_fit_z hv) hp k
theorem ty_putC {idx ci f : Nat} {v : Int} (row : gt_P.1 mi pc = some (3, .putfield idx, [ci, f])) (hs : ty_sk a.1 = (1, ci)) (hk : (ty_kd ci)[f]? = some false) (hf : gt_tyF ci f = .char) (hp : a.2 < S.2.2.2.2.2.2.1 a.1) (hv : 0 ≤ v ∧ v ≤ 65535) (k : ty_W L xs d mi (pc + 3) ls st (ty_sI S a f v) Q) : ty_W L xs d mi pc ls (.inl (ty_J v) :: .inr (.inr (some a)) :: st) S Q :=
  ty_putF row hs hk (by rw [hf]; exact ty_fit_c hv) hp k
theorem ty_putR {idx ci f : Nat} {v : Option ai_A} (row : gt_P.1 mi pc = some (3, .putfield idx, [ci, f])) (hs : ty_sk a.1 = (1, ci)) (hk : (ty_kd ci)[f]? = some true) (hf : ai_fit (gt_tyF ci f) (.inr (.inr v)) = true) (hp : a.2 < S.2.2.2.2.2.2.1 a.1) (k : ty_W L xs d mi (pc + 3) ls st (ty_sR S a f v) Q) : ty_W L xs d mi pc ls (.inr (.inr v) :: .inr (.inr (some a)) :: st) S Q := by
  refine ty_put_ row hs (List.getElem?_eq_some_iff.mp hk).1 hp hf (ty_put (S' := ty_sR S a f v) rfl hp ?_ (fun b hb => ty_cell_sR hb)) k
  rw [ty_cell_o hs, ty_fl_setR _ 0 f hk, Nat.zero_add]
/-! arrays -/
theorem ty_ix {i : Int} {n : Nat} (hi : 0 ≤ i ∧ i < n ∧ i ≤ 2147483647) : ¬ (ty_J i < 0 ∨ n ≤ (ty_J i).toNatClampNeg) := by
  rw [ty_J_nat (by omega)]
  rintro (h | h)
  · exact ty_J_nneg (by omega) h
  · omega
theorem ty_iaload {t n : Nat} {i : Int} (row : gt_P.1 mi pc = some (3, .iaload, ks)) (hs : ty_sk a.1 = (2, t)) (ht : gt_tyL.getD t .float = .int) (hp : a.2 < S.2.2.2.2.2.2.1 a.1) (hn : S.2.2.2.2.2.1 a = n) (hi : 0 ≤ i ∧ i < n ∧ i ≤ 2147483647) (k : ∀ v, S.2.2.1 a i = v → ty_W L xs d mi (pc + 1) ls (.inl (ty_J v) :: st) S Q) : ty_W L xs d mi pc ls (.inl (ty_J i) :: .inr (.inr (some a)) :: st) S Q := by
  refine ty_heap row ?_ (k _ rfl)
  have h1 := ty_H_at (S := S) hp
  rw [ty_cell_i hs] at h1
  simp only [ai_heap, h1]
  rw [if_pos ⟨ht, by rw [hn]; exact ty_ix hi⟩, ty_J_nat (by omega), Int.toNat_of_nonneg hi.1]
theorem ty_caload {t n : Nat} {i : Int} (row : gt_P.1 mi pc = some (3, .caload, ks)) (hs : ty_sk a.1 = (2, t)) (ht : gt_tyL.getD t .float = .char) (hp : a.2 < S.2.2.2.2.2.2.1 a.1) (hn : S.2.2.2.2.2.1 a = n) (hi : 0 ≤ i ∧ i < n ∧ i ≤ 2147483647) (k : ∀ v, S.2.2.1 a i = v → ty_W L xs d mi (pc + 1) ls (.inl (ty_J v) :: st) S Q) : ty_W L xs d mi pc ls (.inl (ty_J i) :: .inr (.inr (some a)) :: st) S Q := by
  refine ty_heap row ?_ (k _ rfl)
  have h1 := ty_H_at (S := S) hp
  rw [ty_cell_i hs] at h1
  simp only [ai_heap, h1]
  rw [if_pos ⟨ht, by rw [hn]; exact ty_ix hi⟩, ty_J_nat (by omega), Int.toNat_of_nonneg hi.1]
theorem ty_baload {t n : Nat} {i : Int} (row : gt_P.1 mi pc = some (3, .baload, ks)) (hs : ty_sk a.1 = (2, t)) (ht : gt_tyL.getD t .float = .boolean) (hp : a.2 < S.2.2.2.2.2.2.1 a.1) (hn : S.2.2.2.2.2.1 a = n) (hi : 0 ≤ i ∧ i < n ∧ i ≤ 2147483647) (k : ∀ v, S.2.2.1 a i = v → ty_W L xs d mi (pc + 1) ls (.inl (ty_J v) :: st) S Q) : ty_W L xs d mi pc ls (.inl (ty_J i) :: .inr (.inr (some a)) :: st) S Q := by
  refine ty_heap row ?_ (k _ rfl)
  have h1 := ty_H_at (S := S) hp
  rw [ty_cell_i hs] at h1
  simp only [ai_heap, h1]
  rw [if_pos ⟨ht, by rw [hn]; exact ty_ix hi⟩, ty_J_nat (by omega), Int.toNat_of_nonneg hi.1]
theorem ty_aaload {t n : Nat} {i : Int} (row : gt_P.1 mi pc = some (3, .aaload, ks)) (hs : ty_sk a.1 = (4, t)) (ht : ai_obj (gt_tyL.getD t .float) = true) (hp : a.2 < S.2.2.2.2.2.2.1 a.1) (hn : S.2.2.2.2.2.1 a = n) (hi : 0 ≤ i ∧ i < n ∧ i ≤ 2147483647) (k : ∀ v, S.2.2.2.1 a i = v → ty_W L xs d mi (pc + 1) ls (.inr (.inr v) :: st) S Q) : ty_W L xs d mi pc ls (.inl (ty_J i) :: .inr (.inr (some a)) :: st) S Q := by
  refine ty_heap row ?_ (k _ rfl)
  have h1 := ty_H_at (S := S) hp
  rw [ty_cell_q hs] at h1
  simp only [ai_heap, h1]
  rw [if_pos ⟨ht, by rw [hn]; exact ty_ix hi⟩, ty_J_nat (by omega), Int.toNat_of_nonneg hi.1]
theorem ty_laload {t n : Nat} {i : Int} (row : gt_P.1 mi pc = some (3, .laload, ks)) (hs : ty_sk a.1 = (3, t)) (ht : gt_tyL.getD t .float = .long) (hp : a.2 < S.2.2.2.2.2.2.1 a.1) (hn : S.2.2.2.2.2.1 a = n) (hi : 0 ≤ i ∧ i < n ∧ i ≤ 2147483647) (k : ∀ v, S.2.2.2.2.1 i = v → ty_W L xs d mi (pc + 1) ls (.inr (.inl v) :: st) S Q) : ty_W L xs d mi pc ls (.inl (ty_J i) :: .inr (.inr (some a)) :: st) S Q := by
  refine ty_heap row ?_ (k _ rfl)
  have h1 := ty_H_at (S := S) hp
  rw [ty_cell_l hs] at h1
  simp only [ai_heap, h1]
  rw [if_pos ⟨ht, by rw [hn]; exact ty_ix hi⟩, ty_J_nat (by omega), Int.toNat_of_nonneg hi.1]
/-- the script -/
theorem ty_script {i : Int} (row : gt_P.1 mi pc = some (3, .iaload, ks)) (hp : 0 < S.2.2.2.2.2.2.1 0) (hi : 0 ≤ i ∧ i < L ∧ i ≤ 2147483647) (k : ∀ v, (xs i.toNat).toInt = v → ty_W L xs d mi (pc + 1) ls (.inl (ty_J v) :: st) S Q) : ty_W L xs d mi pc ls (.inl (ty_J i) :: .inr (.inr (some (0, 0))) :: st) S Q := by
  refine ty_heap row ?_ (k _ rfl)
  have h1 := ty_H_at (S := S) (a := (0, 0)) hp
  have h2 : ty_cell S (0, 0) = .inr (.inr 0) := rfl
  rw [h2] at h1
  simp only [ai_heap, h1]
  rw [if_pos (ty_ix hi), ty_J_nat (by omega), ty_J_of]
theorem ty_upd {S : ty_S} {a : ai_A} {i v : Int} (hi : 0 ≤ i) : (fun j : Nat => ty_J ((ty_sA S a i v).2.2.1 a j)) = upd (fun j : Nat => ty_J (S.2.2.1 a j)) i.toNat (ty_J v) := by
  funext j
  by_cases e : j = i.toNat
  · have : (j : Int) = i := by omega
    simp [ty_sA, upd, e, Int.toNat_of_nonneg hi]
  · have : ¬ (j : Int) = i := by omega
    simp [ty_sA, upd, e, this]
theorem ty_put_a {t : Nat} {i v : Int} (hs : ty_sk a.1 = (2, t)) (hp : a.2 < S.2.2.2.2.2.2.1 a.1) (hi : 0 ≤ i) : ai_put (ty_H S) a (.inr (.inl (t, S.2.2.2.2.2.1 a, .inl (upd (fun j : Nat => ty_J (S.2.2.1 a j)) i.toNat (ty_J v))))) = ty_H (ty_sA S a i v) := by
  refine ty_put (S' := ty_sA S a i v) rfl hp ?_ (fun b hb => ty_cell_sA hb)
  rw [ty_cell_i hs, ty_upd hi]
  rfl
theorem ty_iastore {t n : Nat} {i v : Int} (row : gt_P.1 mi pc = some (3, .iastore, ks)) (hs : ty_sk a.1 = (2, t)) (ht : gt_tyL.getD t .float = .int) (hp : a.2 < S.2.2.2.2.2.2.1 a.1) (hn : S.2.2.2.2.2.1 a = n) (hi : 0 ≤ i ∧ i < n ∧ i ≤ 2147483647) (k : ty_W L xs d mi (pc + 1) ls st (ty_sA S a i v) Q) : ty_W L xs d mi pc ls (.inl (ty_J v) :: .inl (ty_J i) :: .inr (.inr (some a)) :: st) S Q := by
  refine ty_heap row ?_ k
  have h1 := ty_H_at (S := S) hp
  rw [ty_cell_i hs] at h1
  simp only [ai_heap, h1]
  rw [if_pos ⟨ht, by rw [hn]; exact ty_ix hi⟩, ty_J_nat (by omega), ty_put_a hs hp hi.1]
theorem ty_castore {t n : Nat} {i v : Int} (row : gt_P.1 mi pc = some (3, .castore, ks)) (hs : ty_sk a.1 = (2, t)) (ht : gt_tyL.getD t .float = .char) (hp : a.2 < S.2.2.2.2.2.2.1 a.1) (hn : S.2.2.2.2.2.1 a = n) (hi : 0 ≤ i ∧ i < n ∧ i ≤ 2147483647) (hv : 0 ≤ v ∧ v ≤ 65535) (k : ty_W L xs d mi (pc + 1) ls st (ty_sA S a i v) Q) : ty_W L xs d mi pc ls (.inl (ty_J v) :: .inl (ty_J i) :: .inr (.inr (some a)) :: st) S Q := by
  refine ty_heap row ?_ k
  have h1 := ty_H_at (S := S) hp
  rw [ty_cell_i hs] at h1
  simp only [ai_heap, h1]
  rw [if_pos ⟨ht, by rw [hn]; exact ty_ix hi⟩, ty_J_nat (by omega), ty_nar_c hv, ty_put_a hs hp hi.1]
theorem ty_bastore {t n : Nat} {i v : Int} (row : gt_P.1 mi pc = some (3, .bastore, ks)) (hs : ty_sk a.1 = (2, t)) (ht : gt_tyL.getD t .float = .boolean) (hp : a.2 < S.2.2.2.2.2.2.1 a.1) (hn : S.2.2.2.2.2.1 a = n) (hi : 0 ≤ i ∧ i < n ∧ i ≤ 2147483647) (hv : v = 0 ∨ v = 1) (k : ty_W L xs d mi (pc + 1) ls st (ty_sA S a i v) Q) : ty_W L xs d mi pc ls (.inl (ty_J v) :: .inl (ty_J i) :: .inr (.inr (some a)) :: st) S Q := by
  refine ty_heap row ?_ k
  have h1 := ty_H_at (S := S) hp
  rw [ty_cell_i hs] at h1
  simp only [ai_heap, h1]
  rw [if_pos ⟨ht, by rw [hn]; exact ty_ix hi⟩, ty_J_nat (by omega), ty_nar_z hv, ty_put_a hs hp hi.1]
theorem ty_lastore {n : Nat} {i : Int} {v : Int64} (row : gt_P.1 mi pc = some (3, .lastore, ks)) (ha : a = (95, 0)) (hp : a.2 < S.2.2.2.2.2.2.1 a.1) (h1s : S.2.2.2.2.2.2.1 95 = 1) (hn : S.2.2.2.2.2.1 a = n) (hi : 0 ≤ i ∧ i < n ∧ i ≤ 2147483647) (k : ty_W L xs d mi (pc + 1) ls st (ty_sZ S i v) Q) : ty_W L xs d mi pc ls (.inr (.inl v) :: .inl (ty_J i) :: .inr (.inr (some a)) :: st) S Q := by
  refine ty_heap row ?_ k
  subst ha
  have hs : ty_sk (95, 0).1 = (3, 3) := by decide +kernel
  have h1 := ty_H_at (S := S) hp
  rw [ty_cell_l hs] at h1
  simp only [ai_heap, h1]
  rw [if_pos ⟨by decide, by rw [hn]; exact ty_ix hi⟩, ty_J_nat (by omega)]
  congr 2
  refine ty_H_ext (S := S) (S' := ty_sZ S i v) (f := ai_upd (ty_H S).1 (95, 0) _) rfl (fun b => ?_)
  show (if b = (95, 0) then some _ else (ty_H S).1 b) = _
  by_cases e : b = (95, 0)
  · subst e
    rw [if_pos rfl, if_pos hp, ty_cell_l hs]
    have e9 : (fun j : Nat => (ty_sZ S i v).2.2.2.2.1 j) = vp_updL (fun j : Nat => S.2.2.2.2.1 j) i.toNat v := by
      funext j
      by_cases e : j = i.toNat
      · have : (j : Int) = i := by omega
        simp [ty_sZ, vp_updL, e, Int.toNat_of_nonneg hi.1]
      · have : ¬ (j : Int) = i := by omega
        simp [ty_sZ, vp_updL, e, this]
    rw [e9]
    rfl
  · rw [if_neg e]
    show (if b.2 < S.2.2.2.2.2.2.1 b.1 then some (ty_cell S b) else none) = _
    by_cases e3 : (ty_sk b.1).1 = 3
    · have h5 : ∀ s : Nat, (ty_sk s).1 = 3 → s = 95 := by
        intro s h
        have hl : s < ty_skL.length := by
          rcases Nat.lt_or_ge s ty_skL.length with q | q
          · exact q
          · exfalso
            have : ty_sk s = (0, 0) := by simp [ty_sk, List.getD_eq_getElem?_getD, List.getElem?_eq_none q]
            rw [this] at h
            cases h
        have hall : (List.range ty_skL.length).all (fun s => !decide ((ty_sk s).1 = 3) || decide (s = 95)) = true := by decide +kernel
        have := List.all_eq_true.mp hall s (List.mem_range.mpr hl)
        simp [h] at this
        exact this
      have hb := h5 _ e3
      rw [hb, h1s]
      by_cases e6 : b.2 < 1
      · exact absurd (Prod.ext hb (by show b.2 = 0; omega)) e
      · rw [if_neg e6, if_neg e6]
    · have : ty_cell (ty_sZ S i v) b = ty_cell S b := by
        unfold ty_cell
        split <;> first | rfl | (rename_i hh; rw [hh] at e3; exact absurd rfl e3) | (rw [ty_fl_eq (S := ty_sZ S i v) (S' := S) _ 0 (fun j _ => rfl) (fun j _ => rfl)])
      rw [this]
theorem ty_putq {t : Nat} {i : Int} {v : Option ai_A} (hs : ty_sk a.1 = (4, t)) (hp : a.2 < S.2.2.2.2.2.2.1 a.1) (hi : 0 ≤ i) : ai_put (ty_H S) a (.inr (.inl (t, S.2.2.2.2.2.1 a, .inr (.inr (va_up (fun j : Nat => S.2.2.2.1 a j) i.toNat v))))) = ty_H (ty_sQ S a i v) := by
  refine ty_put (S' := ty_sQ S a i v) rfl hp ?_ (fun b hb => ty_cell_sQ hb)
  rw [ty_cell_q hs]
  have e : (fun j : Nat => (ty_sQ S a i v).2.2.2.1 a j) = va_up (fun j : Nat => S.2.2.2.1 a j) i.toNat v := by
    funext j
    by_cases e : j = i.toNat
    · have : (j : Int) = i := by omega
      simp [ty_sQ, va_up, e, Int.toNat_of_nonneg hi]
    · have : ¬ (j : Int) = i := by omega
      simp [ty_sQ, va_up, e, this]
  rw [e]
  rfl
theorem ty_aastore {t n cj : Nat} {i : Int} {b : ai_A} (row : gt_P.1 mi pc = some (3, .aastore, ks)) (hs : ty_sk a.1 = (4, t)) (hp : a.2 < S.2.2.2.2.2.2.1 a.1) (hn : S.2.2.2.2.2.1 a = n) (hi : 0 ≤ i ∧ i < n ∧ i ≤ 2147483647) (hb : ty_sk b.1 = (1, cj)) (hbp : b.2 < S.2.2.2.2.2.2.1 b.1) (hg : gt_asg t cj = true) (k : ty_W L xs d mi (pc + 1) ls st (ty_sQ S a i (some b)) Q) : ty_W L xs d mi pc ls (.inr (.inr (some b)) :: .inl (ty_J i) :: .inr (.inr (some a)) :: st) S Q := by
  refine ty_heap row ?_ k
  have h1 := ty_H_at (S := S) hp
  rw [ty_cell_q hs] at h1
  have h2 := ty_H_at (S := S) hbp
  rw [ty_cell_o hb] at h2
  simp only [ai_heap, h1, h2]
  rw [if_pos ⟨hg, by rw [hn]; exact ty_ix hi⟩, ty_J_nat (by omega), ty_putq hs hp hi.1]
theorem ty_length {t n : Nat} (row : gt_P.1 mi pc = some (3, .arraylength, ks)) (hs : ty_sk a.1 = (2, t) ∨ ty_sk a.1 = (4, t)) (ht : gt_tyL.getD t .float ≠ .float) (hp : a.2 < S.2.2.2.2.2.2.1 a.1) (hn : S.2.2.2.2.2.1 a = n) (k : ty_W L xs d mi (pc + 1) ls (.inl (ty_J n) :: st) S Q) : ty_W L xs d mi pc ls (.inr (.inr (some a)) :: st) S Q := by
  refine ty_heap row ?_ k
  have h1 := ty_H_at (S := S) hp
  rcases hs with hs | hs
  · rw [ty_cell_i hs] at h1
    simp only [ai_heap, h1]
    rw [if_neg ht, hn, ty_J_ofNat]
  · rw [ty_cell_q hs] at h1
    simp only [ai_heap, h1]
    rw [if_neg ht, hn, ty_J_ofNat]
theorem ty_lengthS (row : gt_P.1 mi pc = some (3, .arraylength, ks)) (hp : 0 < S.2.2.2.2.2.2.1 0) (k : ty_W L xs d mi (pc + 1) ls (.inl (ty_J L) :: st) S Q) : ty_W L xs d mi pc ls (.inr (.inr (some (0, 0))) :: st) S Q := by
  refine ty_heap row ?_ k
  have h1 := ty_H_at (S := S) (a := (0, 0)) hp
  have h2 : ty_cell S (0, 0) = .inr (.inr 0) := rfl
  rw [h2] at h1
  simp only [ai_heap, h1, ty_J_ofNat]
theorem ty_lengthE (row : gt_P.1 mi pc = some (3, .arraylength, ks)) (hp : 1 < S.2.2.2.2.2.2.1 0) (k : ty_W L xs d mi (pc + 1) ls (.inl (ty_J 0) :: st) S Q) : ty_W L xs d mi pc ls (.inr (.inr (some (0, 1))) :: st) S Q := by
  refine ty_heap row ?_ k
  have h1 := ty_H_at (S := S) (a := (0, 1)) hp
  have h2 : ty_cell S (0, 1) = .inr (.inr 2) := rfl
  rw [h2] at h1
  simp only [ai_heap, h1, ty_J_zero]
def ty_df (r : Bool) : ai_V := if r = true then .inr (.inr none) else .inl 0
theorem ty_fl_new {S : ty_S} {a : ai_A} (h1 : ∀ k, S.1 a k = 0) (h2 : ∀ k, S.2.1 a k = none) : ∀ (ks : List Bool) (j : Nat), ty_fl S a j ks = ks.map ty_df
  | [], _ => rfl
  | b :: ks, j => by
    unfold ty_fl
    rw [h1, h2, ty_fl_new h1 h2 ks (j + 1), ty_J_zero]
    rfl
theorem ty_newO {idx ci s : Nat} (row : gt_P.1 mi pc = some (3, .new idx, [ci, s])) (hs : ty_sk s = (1, ci)) (hd : gt_dfl ci = (ty_kd ci).map ty_df) (k : ty_W L xs d mi (pc + 3) ls (.inr (.inr (some (s, S.2.2.2.2.2.2.1 s))) :: st) (ty_nO S s (ty_kd ci).length) Q) : ty_W L xs d mi pc ls st S Q := by
  refine ty_heap row ?_ k
  have e1 : ai_new (ty_H S) s (.inl (ci, gt_dfl ci)) (gt_dfl ci).length = ty_H (ty_nO S s (ty_kd ci).length) := by
    refine ty_new rfl ?_ ?_ (fun b hb => ty_cell_nO hb)
    · rw [hd, List.length_map]
      rfl
    · rw [ty_cell_o (a := (s, S.2.2.2.2.2.2.1 s)) hs, hd, ty_fl_new (fun k => by simp [ty_nO]) (fun k => by simp [ty_nO])]
  simp only [ai_heap]
  show (if ((ty_H S).1 (s, (ty_H S).2.1 s)).isNone = true then some (Sum.inr (Sum.inr (some (s, (ty_H S).2.1 s))) :: st, ai_new (ty_H S) s (.inl (ci, gt_dfl ci)) (gt_dfl ci).length) else none) = _
  rw [if_pos ty_none, e1]
  rfl
theorem ty_newA {at_ : ClassFile.ArrayType} {t s : Nat} {n : Int} (row : gt_P.1 mi pc = some (3, .newarray at_, [t, s])) (hs : ty_sk s = (2, t)) (ht : gt_tyL.getD t .float ≠ .long) (hn : 0 ≤ n ∧ n ≤ 67108864) (k : ty_W L xs d mi (pc + 2) ls (.inr (.inr (some (s, S.2.2.2.2.2.2.1 s))) :: st) (ty_nA S s n.toNat) Q) : ty_W L xs d mi pc ls (.inl (ty_J n) :: st) S Q := by
  refine ty_heap row ?_ k
  have e1 : ai_new (ty_H S) s (.inr (.inl (t, n.toNat, .inl fun _ => 0))) n.toNat = ty_H (ty_nA S s n.toNat) := by
    refine ty_new rfl rfl ?_ (fun b hb => ty_cell_nA hb (by rw [hs]; simp))
    rw [ty_cell_i (a := (s, S.2.2.2.2.2.2.1 s)) hs]
    simp [ty_nA, ty_J_zero]
  simp only [ai_heap]
  show (if ((ty_H S).1 (s, (ty_H S).2.1 s)).isNone = true ∧ ¬ ty_J n < 0 ∧ (ty_J n).toNatClampNeg * 8 ≤ 536870912 then some (Sum.inr (Sum.inr (some (s, (ty_H S).2.1 s))) :: st, ai_new (ty_H S) s (.inr (.inl (t, (ty_J n).toNatClampNeg, if gt_tyL.getD t .float = .long then .inr (.inl fun _ => 0) else .inl fun _ => 0))) (ty_J n).toNatClampNeg) else none) = _
  rw [if_pos ⟨ty_none, ty_J_nneg (by omega), by rw [ty_J_nat (by omega)]; omega⟩, if_neg ht, ty_J_nat (by omega), e1]
  rfl
theorem ty_newQ {idx t s : Nat} {n : Int} (row : gt_P.1 mi pc = some (3, .anewarray idx, [t, s])) (hs : ty_sk s = (4, t)) (hn : 0 ≤ n ∧ n ≤ 67108864) (k : ty_W L xs d mi (pc + 3) ls (.inr (.inr (some (s, S.2.2.2.2.2.2.1 s))) :: st) (ty_nA S s n.toNat) Q) : ty_W L xs d mi pc ls (.inl (ty_J n) :: st) S Q := by
  refine ty_heap row ?_ k
  have e1 : ai_new (ty_H S) s (.inr (.inl (t, n.toNat, .inr (.inr fun _ => none)))) n.toNat = ty_H (ty_nA S s n.toNat) := by
    refine ty_new rfl rfl ?_ (fun b hb => ty_cell_nA hb (by rw [hs]; simp))
    rw [ty_cell_q (a := (s, S.2.2.2.2.2.2.1 s)) hs]
    simp [ty_nA]
  simp only [ai_heap]
  show (if ((ty_H S).1 (s, (ty_H S).2.1 s)).isNone = true ∧ ¬ ty_J n < 0 ∧ (ty_J n).toNatClampNeg * 8 ≤ 536870912 then some (Sum.inr (Sum.inr (some (s, (ty_H S).2.1 s))) :: st, ai_new (ty_H S) s (.inr (.inl (t, (ty_J n).toNatClampNeg, .inr (.inr fun _ => none)))) (ty_J n).toNatClampNeg) else none) = _
  rw [if_pos ⟨ty_none, ty_J_nneg (by omega), by rw [ty_J_nat (by omega)]; omega⟩, ty_J_nat (by omega), e1]
  rfl
theorem ty_cast {idx ci : Nat} (row : gt_P.1 mi pc = some (3, .checkcast idx, [ci])) (hs : ty_sk a.1 = (1, ci)) (hp : a.2 < S.2.2.2.2.2.2.1 a.1) (k : ty_W L xs d mi (pc + 3) ls (.inr (.inr (some a)) :: st) S Q) : ty_W L xs d mi pc ls (.inr (.inr (some a)) :: st) S Q := by
  refine ty_heap row ?_ k
  have h1 := ty_H_at (S := S) hp
  rw [ty_cell_o hs] at h1
  simp only [ai_heap, h1]
  exact if_pos rfl
theorem ty_ldc {idx c : Nat} {z : Int} (row : gt_P.1 mi pc = some (3, .ldc idx, [c])) (hz : Int32.ofNat c = ty_J z) (k : ty_W L xs d mi (pc + 2) ls (.inl (ty_J z) :: st) S Q) : ty_W L xs d mi pc ls st S Q := by
  refine ty_heap row ?_ k
  rw [← hz]
  rfl
theorem ty_ldc_w {idx c : Nat} {z : Int} (row : gt_P.1 mi pc = some (3, .ldc_w idx, [c])) (hz : Int32.ofNat c = ty_J z) (k : ty_W L xs d mi (pc + 3) ls (.inl (ty_J z) :: st) S Q) : ty_W L xs d mi pc ls st S Q := by
  refine ty_heap row ?_ k
  rw [← hz]
  rfl
end TYH
end
section
/-! Calls, ends, throws, the library's own. -/
def ty_K (L : Nat) (xs : Nat → Int32) (d mi pc : Nat) (ls : ai_L) (r : List ai_V) (Q : ai_O → ty_S → Prop) (o : ai_O) (S' : ty_S) : Prop := match o with
  | .inl v => ty_W L xs d mi (pc + 3) ls (v.toList ++ r) S' Q
  | .inr x => (gt_hnd mi pc x = some none ∧ Q (.inr x) S') ∨ ∃ pc', gt_hnd mi pc x = some (some pc') ∧ ty_W L xs d mi pc' ls [.inr (.inr (some (1, S'.2.2.2.2.2.2.1 1)))] (ty_ex S') Q
def ty_oI (P : Int → ty_S → Prop) : ai_O → ty_S → Prop := fun o S' => ∃ z, o = .inl (some (.inl (ty_J z))) ∧ P z S'
def ty_oV (P : ty_S → Prop) : ai_O → ty_S → Prop := fun o S' => o = .inl none ∧ P S'
def ty_oR (P : Option ai_A → ty_S → Prop) : ai_O → ty_S → Prop := fun o S' => ∃ z, o = .inl (some (.inr (.inr z))) ∧ P z S'
def ty_oX (Q : ai_O → ty_S → Prop) (X : Nat → ty_S → Prop) : ai_O → ty_S → Prop := fun o S' => Q o S' ∨ ∃ x, o = .inr x ∧ X x S'
section TYC
variable {L : Nat} {xs : Nat → Int32} {d mi pc : Nat} {ls : ai_L} {st : List ai_V} {S : ty_S} {Q : ai_O → ty_S → Prop} {ks : List Nat} {a : ai_A} {r : List ai_V}
theorem ty_KI {S' : ty_S} {x : Int32} (k : ty_W L xs d mi (pc + 3) ls (.inl x :: r) S' Q) : ty_K L xs d mi pc ls r Q (.inl (some (.inl x))) S' := k
theorem ty_KR {S' : ty_S} {v : Option ai_A} (k : ty_W L xs d mi (pc + 3) ls (.inr (.inr v) :: r) S' Q) : ty_K L xs d mi pc ls r Q (.inl (some (.inr (.inr v)))) S' := k
theorem ty_KV {S' : ty_S} (k : ty_W L xs d mi (pc + 3) ls r S' Q) : ty_K L xs d mi pc ls r Q (.inl none) S' := k
theorem ty_KX {S' : ty_S} {x : Nat} (h : gt_hnd mi pc x = some none) (k : Q (.inr x) S') : ty_K L xs d mi pc ls r Q (.inr x) S' := .inl ⟨h, k⟩
theorem ty_KH {S' : ty_S} {x pc' : Nat} (h : gt_hnd mi pc x = some (some pc')) (k : ty_W L xs d mi pc' ls [.inr (.inr (some (1, S'.2.2.2.2.2.2.1 1)))] (ty_ex S') Q) : ty_K L xs d mi pc ls r Q (.inr x) S' := .inr ⟨pc', h, k⟩
theorem ty_exc (S : ty_S) : ai_exc (ty_H S) = ty_H (ty_ex S) := by
  have e1 : ai_upd (ty_H S).1 (1, S.2.2.2.2.2.2.1 1) (.inr (.inr 1)) = (ty_H (ty_ex S)).1 := by
    funext b
    show (if b = (1, S.2.2.2.2.2.2.1 1) then some (.inr (.inr 1)) else if b.2 < S.2.2.2.2.2.2.1 b.1 then some (ty_cell S b) else none) = if b.2 < (if b.1 = 1 then S.2.2.2.2.2.2.1 1 + 1 else S.2.2.2.2.2.2.1 b.1) then some (ty_cell (ty_ex S) b) else none
    have hc : ty_cell (ty_ex S) b = ty_cell S b := by
      unfold ty_cell
      split <;> first | rfl | (rw [ty_fl_eq (S := ty_ex S) (S' := S) _ 0 (fun j _ => rfl) (fun j _ => rfl)])
    rw [hc]
    by_cases e : b = (1, S.2.2.2.2.2.2.1 1)
    · rw [if_pos e, e]
      simp only [if_true]
      rw [if_pos (by omega)]
      rfl
    · rw [if_neg e]
      by_cases e2 : b.1 = 1
      · have e3 : b.2 ≠ S.2.2.2.2.2.2.1 1 := fun z => e (Prod.ext e2 z)
        simp only [e2, if_true]
        by_cases e4 : b.2 < S.2.2.2.2.2.2.1 1
        · rw [if_pos e4, if_pos (by omega)]
        · rw [if_neg e4, if_neg (by omega)]
      · simp only [e2, if_false]
  show (ai_upd (ty_H S).1 (1, S.2.2.2.2.2.2.1 1) (.inr (.inr 1)), _, _, _) = ((ty_H (ty_ex S)).1, _, _, _)
  rw [e1]
  rfl
theorem ty_call_ {ins : Instr} {m : Nat} {av : List ai_V} {Qc : ai_O → ty_S → Prop} (row : gt_P.1 mi pc = some (4, ins, m :: ks)) (ha : ai_args ins (m :: ks) st (ty_H S) = some (av, r)) (hc : ty_C L xs d m av S Qc) (k : ∀ o S', Qc o S' → ty_K L xs d mi pc ls r Q o S') : ty_W L xs d mi pc ls st S Q := by
  obtain ⟨N, o, S', hcall, hq⟩ := hc
  have hk := k o S' hq
  cases o with
  | inl v =>
    obtain ⟨N2, n, o2, S2, hr, hq2⟩ := hk
    refine ⟨max N N2, n + 1, o2, S2, ?_, hq2⟩
    have h1 : ai_call gt_P L xs (max N N2) d ((m :: ks).getD 0 0) av (ty_H S) = some (.inl v, ty_H S') := ai_call_fuel _ _ _ _ _ _ _ _ (Nat.le_refl _) (Nat.le_max_left _ _) hcall
    have h2 : ai_run gt_P L xs (ai_call gt_P L xs (max N N2) d) mi n (pc + 3) ls (v.toList ++ r) (ty_H S') = some (o2, ty_H S2) := ai_run_fuel (fun mi av h r z => ai_call_fuel _ _ _ _ _ _ _ _ (Nat.le_refl _) (Nat.le_max_right _ _) z) _ _ _ _ _ _ _ (Nat.le_refl _) hr
    simp only [ai_run, row, ha, h1]
    exact h2
  | inr x =>
    rcases hk with ⟨hn, hq2⟩ | ⟨pc', hn, hk⟩
    · refine ⟨N, 1, .inr x, S', ?_, hq2⟩
      have h1 : ai_call gt_P L xs N d ((m :: ks).getD 0 0) av (ty_H S) = some (.inr x, ty_H S') := hcall
      have h2 : gt_P.2.1 mi pc x = some none := hn
      simp only [ai_run, row, ha, h1, h2]
    · obtain ⟨N2, n, o2, S2, hr, hq2⟩ := hk
      refine ⟨max N N2, n + 1, o2, S2, ?_, hq2⟩
      have h1 : ai_call gt_P L xs (max N N2) d ((m :: ks).getD 0 0) av (ty_H S) = some (.inr x, ty_H S') := ai_call_fuel _ _ _ _ _ _ _ _ (Nat.le_refl _) (Nat.le_max_left _ _) hcall
      have h2 : gt_P.2.1 mi pc x = some (some pc') := hn
      have h3 : ai_run gt_P L xs (ai_call gt_P L xs (max N N2) d) mi n pc' ls [.inr (.inr (some (1, S'.2.2.2.2.2.2.1 1)))] (ty_H (ty_ex S')) = some (o2, ty_H S2) := ai_run_fuel (fun mi av h r z => ai_call_fuel _ _ _ _ _ _ _ _ (Nat.le_refl _) (Nat.le_max_right _ _) z) _ _ _ _ _ _ _ (Nat.le_refl _) hr
      simp only [ai_run, row, ha, h1, h2]
      rw [if_pos ty_none, ty_exc]
      exact h3
theorem ty_args0 {m n c : Nat} {av : List ai_V} (hst : av.reverse ++ r = st) (hn : av.length = n) : ([m, n, c].getD 1 0 ≤ st.length ∧ ((st.take ([m, n, c].getD 1 0)).reverse = av ∧ st.drop ([m, n, c].getD 1 0) = r)) := by
  subst hst
  subst hn
  refine ⟨?_, ?_, ?_⟩
  · show av.length ≤ _
    simp
  · show ((av.reverse ++ r).take av.length).reverse = av
    rw [List.take_append_of_le_length (by simp), List.take_of_length_le (by simp), List.reverse_reverse]
  · show (av.reverse ++ r).drop av.length = r
    rw [show av.length = av.reverse.length by simp, List.drop_left]
theorem ty_calls {idx m n c : Nat} {av : List ai_V} {Qc : ai_O → ty_S → Prop} (row : gt_P.1 mi pc = some (4, .invokestatic idx, [m, n, c])) (hst : av.reverse ++ r = st) (hn : av.length = n) (hw : ai_wt r ≤ 8) (hc : ty_C L xs d m av S Qc) (k : ∀ o S', Qc o S' → ty_K L xs d mi pc ls r Q o S') : ty_W L xs d mi pc ls st S Q := by
  obtain ⟨h1, h2, h3⟩ := ty_args0 (m := m) (c := c) hst hn
  refine ty_call_ row ?_ hc k
  unfold ai_args
  rw [if_pos ⟨h1, by rw [h3]; exact hw⟩]
  simp only [h2, h3]
theorem ty_callp {idx m n c : Nat} {vs : List ai_V} {Qc : ai_O → ty_S → Prop} (row : gt_P.1 mi pc = some (4, .invokespecial idx, [m, n, c])) (hst : (.inr (.inr (some a)) :: vs).reverse ++ r = st) (hn : vs.length + 1 = n) (hw : ai_wt r ≤ 8) (hc : ty_C L xs d m (.inr (.inr (some a)) :: vs) S Qc) (k : ∀ o S', Qc o S' → ty_K L xs d mi pc ls r Q o S') : ty_W L xs d mi pc ls st S Q := by
  obtain ⟨h1, h2, h3⟩ := ty_args0 (m := m) (c := c) hst hn
  refine ty_call_ row ?_ hc k
  unfold ai_args
  rw [if_pos ⟨h1, by rw [h3]; exact hw⟩]
  simp only [h2, h3]
theorem ty_callv {idx m n c : Nat} {vs : List ai_V} {Qc : ai_O → ty_S → Prop} (row : gt_P.1 mi pc = some (4, .invokevirtual idx, [m, n, c])) (hst : (.inr (.inr (some a)) :: vs).reverse ++ r = st) (hn : vs.length + 1 = n) (hw : ai_wt r ≤ 8) (hs : ty_sk a.1 = (1, c)) (hp : a.2 < S.2.2.2.2.2.2.1 a.1) (hc : ty_C L xs d m (.inr (.inr (some a)) :: vs) S Qc) (k : ∀ o S', Qc o S' → ty_K L xs d mi pc ls r Q o S') : ty_W L xs d mi pc ls st S Q := by
  obtain ⟨h1, h2, h3⟩ := ty_args0 (m := m) (c := c) hst hn
  refine ty_call_ row ?_ hc k
  have h4 := ty_H_at (S := S) hp
  rw [ty_cell_o hs] at h4
  unfold ai_args
  rw [if_pos ⟨h1, by rw [h3]; exact hw⟩]
  simp only [h2, h3, h4]
  exact if_pos rfl
/-! ends -/
theorem ty_ret {ins : Instr} {v : Option ai_V} (row : gt_P.1 mi pc = some (5, ins, ks)) (hr : ai_ret ins (gt_P.2.2.1 mi).2 st = some v) (q : Q (.inl v) S) : ty_W L xs d mi pc ls st S Q :=
  ⟨0, 1, .inl v, S, by simp only [ai_run, row, hr], q⟩
theorem ty_ret_v (row : gt_P.1 mi pc = some (5, .return_, ks)) (hr : (gt_P.2.2.1 mi).2 = none) (q : Q (.inl none) S) : ty_W L xs d mi pc ls [] S Q := ty_ret row (by rw [hr]; rfl) q
theorem ty_ret_i {ty : FieldType} {x : Int32} (row : gt_P.1 mi pc = some (5, .ireturn, ks)) (hr : (gt_P.2.2.1 mi).2 = some ty) (hf : ai_fit ty (.inl x) = true) (q : Q (.inl (some (.inl x))) S) : ty_W L xs d mi pc ls [.inl x] S Q := ty_ret row (by rw [hr]; simp only [ai_ret]; rw [if_pos hf]) q
theorem ty_ret_a {ty : FieldType} {v : Option ai_A} (row : gt_P.1 mi pc = some (5, .areturn, ks)) (hr : (gt_P.2.2.1 mi).2 = some ty) (hf : ai_fit ty (.inr (.inr v)) = true) (q : Q (.inl (some (.inr (.inr v)))) S) : ty_W L xs d mi pc ls [.inr (.inr v)] S Q := by
  refine ty_ret row ?_ q
  rw [hr]
  cases ty <;> first | rfl | (cases hf; done)
theorem ty_throw {ins : Instr} {x : Nat} (row : gt_P.1 mi pc = some (6, ins, [x])) (hw : ai_wt st ≤ 8) (q : Q (.inr x) (ty_th S)) : ty_W L xs d mi pc ls st S Q := by
  refine ⟨0, 1, .inr x, ty_th S, ?_, q⟩
  have hc : ∀ b, ty_cell (ty_th S) b = ty_cell S b := by
    intro b
    unfold ty_cell
    split <;> first | rfl | (rw [ty_fl_eq (S := ty_th S) (S' := S) _ 0 (fun j _ => rfl) (fun j _ => rfl)])
  simp only [ai_run, row]
  rw [if_pos hw]
  have e : (ty_H (ty_th S)).1 = (ty_H S).1 := by
    funext b
    show (if b.2 < S.2.2.2.2.2.2.1 b.1 then some (ty_cell (ty_th S) b) else none) = _
    rw [hc]
    rfl
  show some (Sum.inr x, ((ty_H S).1, S.2.2.2.2.2.2.1, S.2.2.2.2.2.2.2.1 + 1, S.2.2.2.2.2.2.2.2 + 6)) = some (Sum.inr x, ((ty_H (ty_th S)).1, S.2.2.2.2.2.2.1, S.2.2.2.2.2.2.2.1 + 1, S.2.2.2.2.2.2.2.2 + 6))
  rw [e]
theorem ty_objinit {ins : Instr} (row : gt_P.1 mi pc = some (7, ins, ks)) (hw : ai_wt st ≤ 8) (k : ty_W L xs d mi (pc + 3) ls st S Q) : ty_W L xs d mi pc ls (.inr (.inr (some a)) :: st) S Q :=
  ty_step (fun call n => by simp only [ai_run, row]; rw [if_pos hw]) k
theorem ty_max {ins : Instr} {x y : Int} (row : gt_P.1 mi pc = some (8, ins, ks)) (hx : -2147483648 ≤ x ∧ x ≤ 2147483647) (hy : -2147483648 ≤ y ∧ y ≤ 2147483647) (hw : ai_wt st ≤ 8) (k : ∀ z, (if x < y then y else x) = z → ty_W L xs d mi (pc + 3) ls (.inl (ty_J z) :: st) S Q) : ty_W L xs d mi pc ls (.inl (ty_J y) :: .inl (ty_J x) :: st) S Q :=
  ty_step (fun call n => by
    simp only [ai_run, row]
    rw [if_pos hw]
    congr 2
    by_cases h : x < y
    · rw [if_pos ((ty_J_lt hx hy).mpr h), if_pos h]
    · rw [if_neg (fun z => h ((ty_J_lt hx hy).mp z)), if_neg h]) (k _ rfl)
theorem ty_min {ins : Instr} {x y : Int} (row : gt_P.1 mi pc = some (9, ins, ks)) (hx : -2147483648 ≤ x ∧ x ≤ 2147483647) (hy : -2147483648 ≤ y ∧ y ≤ 2147483647) (hw : ai_wt st ≤ 8) (k : ∀ z, (if y < x then y else x) = z → ty_W L xs d mi (pc + 3) ls (.inl (ty_J z) :: st) S Q) : ty_W L xs d mi pc ls (.inl (ty_J y) :: .inl (ty_J x) :: st) S Q :=
  ty_step (fun call n => by
    simp only [ai_run, row]
    rw [if_pos hw]
    congr 2
    by_cases h : y < x
    · rw [if_pos ((ty_J_lt hy hx).mpr h), if_pos h]
    · rw [if_neg (fun z => h ((ty_J_lt hy hx).mp z)), if_neg h]) (k _ rfl)
/-! the library's own -/
theorem ty_ext {ins : Instr} {st' : List ai_V} {S' : ty_S} {pc' : Nat} (row : gt_P.1 mi pc = some (10, ins, ks)) (hp : ai_ext (fun t => gt_tyL.getD t .float) gt_asg pc ks st (ty_H S) = some (pc', st', ty_H S')) (k : ty_W L xs d mi pc' ls st' S' Q) : ty_W L xs d mi pc ls st S Q :=
  ty_step (fun call n => by
    simp only [ai_run, row]
    rw [show ai_ext (fun t => gt_P.2.2.2.2.1.getD t .float) gt_P.2.2.2.2.2.2 pc ks st (ty_H S) = some (pc', st', ty_H S') from hp]) k
theorem ty_empty {ins : Instr} (row : gt_P.1 mi pc = some (10, ins, [0])) (hp : 1 < S.2.2.2.2.2.2.1 0) (k : ty_W L xs d mi (pc + 3) ls (.inr (.inr (some (0, 1))) :: st) S Q) : ty_W L xs d mi pc ls st S Q := by
  refine ty_ext row ?_ k
  have h1 : (ty_H S).1 (0, 1) = some (.inr (.inr 2)) := ty_H_at (S := S) (a := (0, 1)) hp
  simp [ai_ext, h1]
theorem ty_ldcM {ins : Instr} (row : gt_P.1 mi pc = some (10, ins, [1])) (hp : 2 < S.2.2.2.2.2.2.1 0) (k : ty_W L xs d mi (pc + 2) ls (.inr (.inr (some (0, 2))) :: st) S Q) : ty_W L xs d mi pc ls st S Q := by
  refine ty_ext row ?_ k
  have h1 : (ty_H S).1 (0, 2) = some (.inr (.inr 3)) := ty_H_at (S := S) (a := (0, 2)) hp
  simp [ai_ext, h1]
theorem ty_getC {ins : Instr} {t : Nat} (row : gt_P.1 mi pc = some (10, ins, [2])) (h0 : 2 < S.2.2.2.2.2.2.1 0) (hs : ty_sk a.1 = (4, t)) (ht : gt_tyL.getD t .float = .object "java/lang/Object") (hp : a.2 < S.2.2.2.2.2.2.1 a.1) (hw : ai_wt st ≤ 8) (k : ty_W L xs d mi (pc + 3) ls (.inr (.inr (some (0, 2))) :: st) S Q) : ty_W L xs d mi pc ls (.inr (.inr (some a)) :: st) S Q := by
  refine ty_ext row ?_ k
  have h1 : (ty_H S).1 (0, 2) = some (.inr (.inr 3)) := ty_H_at (S := S) (a := (0, 2)) h0
  have h2 := ty_H_at (S := S) hp
  rw [ty_cell_q hs] at h2
  simp only [ai_ext, List.getD_cons_zero, h1, h2]
  rw [if_pos ⟨ht, hw⟩]
def ty_known (S : ty_S) (a : ai_A) : Prop := a.2 < S.2.2.2.2.2.2.1 a.1 ∧ ((ty_sk a.1).1 = 1 ∨ (ty_sk a.1).1 = 2 ∨ (ty_sk a.1).1 = 4)
theorem ty_known_solid {S : ty_S} (h : ty_known S a) : ∃ z, (ty_H S).1 a = some z ∧ ai_solid z = true := by
  refine ⟨_, ty_H_at h.1, ?_⟩
  obtain ⟨-, h⟩ := h
  cases e : ty_sk a.1 with
  | mk p q =>
    rw [e] at h
    rcases h with h | h | h
    · have h : p = 1 := h
      subst h; rw [ty_cell_o e]; rfl
    · have h : p = 2 := h
      subst h; rw [ty_cell_i e]; rfl
    · have h : p = 4 := h
      subst h; rw [ty_cell_q e]; rfl
theorem ty_same {S : ty_S} {a b : ai_A} (hp : 1 < S.2.2.2.2.2.2.1 0) (ha : ty_known S a ∨ a = (0, 1)) (hb : ty_known S b ∨ b = (0, 1)) : ai_same (ty_H S) (some a) (some b) = some (decide (a = b)) := by
  have h1 : (ty_H S).1 (0, 1) = some (.inr (.inr 2)) := ty_H_at (S := S) (a := (0, 1)) hp
  by_cases e : a = b
  · simp [ai_same, e]
  · rcases ha with ha | rfl
    · obtain ⟨z, hz, hz2⟩ := ty_known_solid ha
      rcases hb with hb | rfl
      · obtain ⟨w, hw, hw2⟩ := ty_known_solid hb
        simp [ai_same, e, hz, hw, hz2, hw2]
      · simp [ai_same, e, hz, h1, hz2, ai_is2]
    · rcases hb with hb | rfl
      · obtain ⟨w, hw, hw2⟩ := ty_known_solid hb
        simp [ai_same, e, hw, h1, hw2, ai_is2]
      · exact absurd rfl e
theorem ty_acmp_eq {ins : Instr} {t : Nat} {a b : ai_A} (row : gt_P.1 mi pc = some (10, ins, [3, t])) (hp : 1 < S.2.2.2.2.2.2.1 0) (ha : ty_known S a ∨ a = (0, 1)) (hb : ty_known S b ∨ b = (0, 1)) (k1 : a = b → ty_W L xs d mi t ls st S Q) (k2 : a ≠ b → ty_W L xs d mi (pc + 3) ls st S Q) : ty_W L xs d mi pc ls (.inr (.inr (some b)) :: .inr (.inr (some a)) :: st) S Q := by
  have hs := ty_same hp ha hb
  by_cases e : a = b
  · refine ty_ext row ?_ (k1 e)
    subst e
    simp [ai_ext, hs]
  · refine ty_ext row ?_ (k2 e)
    simp [ai_ext, hs, e]
theorem ty_acmp_ne {ins : Instr} {t : Nat} {a b : ai_A} (row : gt_P.1 mi pc = some (10, ins, [4, t])) (hp : 1 < S.2.2.2.2.2.2.1 0) (ha : ty_known S a ∨ a = (0, 1)) (hb : ty_known S b ∨ b = (0, 1)) (k1 : a ≠ b → ty_W L xs d mi t ls st S Q) (k2 : a = b → ty_W L xs d mi (pc + 3) ls st S Q) : ty_W L xs d mi pc ls (.inr (.inr (some b)) :: .inr (.inr (some a)) :: st) S Q := by
  have hs := ty_same hp ha hb
  by_cases e : a = b
  · refine ty_ext row ?_ (k2 e)
    subst e
    simp [ai_ext, hs]
  · refine ty_ext row ?_ (k1 e)
    simp [ai_ext, hs, e]
theorem ty_copyi {ins : Instr} {t0 t1 n0 n1 : Nat} {sp dp n : Int} {b : ai_A} (row : gt_P.1 mi pc = some (10, ins, [5])) (hs : ty_sk a.1 = (2, t0)) (ht : gt_tyL.getD t0 .float = .int) (hp : a.2 < S.2.2.2.2.2.2.1 a.1) (hn : S.2.2.2.2.2.1 a = n0) (hs' : ty_sk b.1 = (2, t1)) (ht' : gt_tyL.getD t1 .float = .int) (hp' : b.2 < S.2.2.2.2.2.2.1 b.1) (hn' : S.2.2.2.2.2.1 b = n1)
    (h1 : 0 ≤ sp ∧ 0 ≤ dp ∧ 0 ≤ n ∧ sp + n ≤ n0 ∧ dp + n ≤ n1 ∧ sp ≤ 2147483647 ∧ dp ≤ 2147483647 ∧ n ≤ 2147483647) (hw : ai_wt st ≤ 8) (k : ty_W L xs d mi (pc + 3) ls st (ty_mA S b (fun j => if dp ≤ j ∧ j < dp + n then S.2.2.1 a (sp + (j - dp)) else S.2.2.1 b j)) Q) : ty_W L xs d mi pc ls (.inl (ty_J n) :: .inl (ty_J dp) :: .inr (.inr (some b)) :: .inl (ty_J sp) :: .inr (.inr (some a)) :: st) S Q := by
  refine ty_ext row ?_ k
  have e1 := ty_H_at (S := S) hp
  rw [ty_cell_i hs] at e1
  have e2 := ty_H_at (S := S) hp'
  rw [ty_cell_i hs'] at e2
  simp only [ai_ext, List.getD_cons_zero, e1, e2]
  have m1 := ty_J_nat (x := sp) (by omega)
  have m2 := ty_J_nat (x := dp) (by omega)
  have m3 := ty_J_nat (x := n) (by omega)
  rw [if_pos ⟨ht, ht', ty_J_nneg (by omega), ty_J_nneg (by omega), ty_J_nneg (by omega), by rw [m1, m3, hn]; omega, by rw [m2, m3, hn']; omega, hw⟩, m1, m2, m3]
  congr 3
  refine ty_put rfl hp' ?_ (fun c hc => ty_cell_mA hc)
  rw [ty_cell_i hs']
  congr 5
  funext j
  simp only [ty_mA, va_cpy, if_true]
  by_cases e : dp.toNat ≤ j ∧ j < dp.toNat + n.toNat
  · have ej : sp + ((j : Int) - dp) = ((sp.toNat + (j - dp.toNat) : Nat) : Int) := by omega
    rw [if_pos e, if_pos (by omega), ej]
  · rw [if_neg e, if_neg (by omega)]
theorem ty_copyq {ins : Instr} {t0 t1 n0 n1 cj : Nat} {sp dp n : Int} {b : ai_A} (row : gt_P.1 mi pc = some (10, ins, [6])) (hs : ty_sk a.1 = (4, t0)) (ht : ai_obj (gt_tyL.getD t0 .float) = true) (hp : a.2 < S.2.2.2.2.2.2.1 a.1) (hn : S.2.2.2.2.2.1 a = n0) (hs' : ty_sk b.1 = (4, t1)) (hp' : b.2 < S.2.2.2.2.2.2.1 b.1) (hn' : S.2.2.2.2.2.1 b = n1)
    (h1 : 0 ≤ sp ∧ 0 ≤ dp ∧ 0 ≤ n ∧ sp + n ≤ n0 ∧ dp + n ≤ n1 ∧ sp ≤ 2147483647 ∧ dp ≤ 2147483647 ∧ n ≤ 2147483647) (hg : gt_asg t1 cj = true) (hq : ∀ (i : Int) (c : ai_A), 0 ≤ i → i < n → S.2.2.2.1 a (sp + i) = some c → ty_sk c.1 = (1, cj) ∧ c.2 < S.2.2.2.2.2.2.1 c.1) (hw : ai_wt st ≤ 8) (k : ty_W L xs d mi (pc + 3) ls st (ty_mQ S b (fun j => if dp ≤ j ∧ j < dp + n then S.2.2.2.1 a (sp + (j - dp)) else S.2.2.2.1 b j)) Q) : ty_W L xs d mi pc ls (.inl (ty_J n) :: .inl (ty_J dp) :: .inr (.inr (some b)) :: .inl (ty_J sp) :: .inr (.inr (some a)) :: st) S Q := by
  refine ty_ext row ?_ k
  have e1 := ty_H_at (S := S) hp
  rw [ty_cell_q hs] at e1
  have e2 := ty_H_at (S := S) hp'
  rw [ty_cell_q hs'] at e2
  simp only [ai_ext, List.getD_cons_zero, e1, e2]
  have m1 := ty_J_nat (x := sp) (by omega)
  have m2 := ty_J_nat (x := dp) (by omega)
  have m3 := ty_J_nat (x := n) (by omega)
  have hcq : ai_cq gt_asg (ty_H S) t1 (fun j : Nat => S.2.2.2.1 a j) (ty_J sp).toNatClampNeg (ty_J n).toNatClampNeg := by
    refine ⟨cj, hg, fun i hi c hc => ?_⟩
    have hi2 : i < n.toNat := by rw [← m3]; exact hi
    have hc2 : S.2.2.2.1 a (sp + (i : Int)) = some c := by
      rw [show sp + (i : Int) = ((sp.toNat + i : Nat) : Int) by omega, ← m1]
      exact hc
    obtain ⟨q1, q2⟩ := hq i c (by omega) (by omega) hc2
    have e3 := ty_H_at (S := S) q2
    rw [ty_cell_o q1] at e3
    exact ⟨_, e3⟩
  rw [if_pos ⟨ht, ty_J_nneg (by omega), ty_J_nneg (by omega), ty_J_nneg (by omega), by rw [m1, m3, hn]; omega, by rw [m2, m3, hn']; omega, hw, hcq⟩, m1, m2, m3]
  congr 3
  refine ty_put rfl hp' ?_ (fun c hc => ty_cell_mQ hc)
  rw [ty_cell_q hs']
  have e9 : (fun j : Nat => (ty_mQ S b (fun j => if dp ≤ j ∧ j < dp + n then S.2.2.2.1 a (sp + (j - dp)) else S.2.2.2.1 b j)).2.2.2.1 b j) = va_cpy (fun j : Nat => S.2.2.2.1 a j) (fun j : Nat => S.2.2.2.1 b j) sp.toNat dp.toNat n.toNat := by
    funext j
    simp only [ty_mQ, va_cpy, if_true]
    by_cases e : dp.toNat ≤ j ∧ j < dp.toNat + n.toNat
    · have ej : sp + ((j : Int) - dp) = ((sp.toNat + (j - dp.toNat) : Nat) : Int) := by omega
      rw [if_pos e, if_pos (by omega), ej]
    · rw [if_neg e, if_neg (by omega)]
  rw [e9]
  rfl
end TYC
end
section
/-! What stands fast once all is made: how many, how long, which reference. -/
def ty_cntL : List Nat := [3, 0, 0, 0, 0, 0, 0, 0, 0, 0, 1, 1, 1, 1, 12, 1, 1, 1, 1, 1, 1, 1, 1, 1, 1, 1, 1, 1, 1, 1, 1, 13, 13, 13, 13, 1, 1, 1, 1, 1, 1, 1, 1, 1, 1, 1, 1, 1, 0, 0, 0, 0, 0, 1, 1, 1, 1, 1, 1, 1, 1, 1, 1, 1, 1, 1, 1, 1, 1, 1, 1, 1, 1, 1, 1, 1, 1, 1, 1, 1, 1, 1, 1, 1, 1, 1, 1, 1, 1, 1, 1, 1, 1, 1, 1, 1]
def ty_lenL : List (Option Nat) := [none, none, none, none, none, none, none, none, none, none, some 48, some 12, none, none, none, none, none, none, none, some 624, some 624, some 1872, some 624, some 128, some 128, some 128, some 500, some 500, some 500, some 500, some 500, some 24, some 24, some 24, some 26, none, none, none, none, none, some 1003, some 1003, some 500, some 500, some 500, some 500, some 500, some 80, none, none, none, none, none, some 48, some 624, some 12, some 8, some 8, some 26, some 26, some 24000, some 24000, some 72000, some 13000, some 13000, some 13000, some 14000, some 14000, some 14000, some 14000, some 14000, some 6000, some 6000, some 1200, some 1200, some 600, some 600, some 600, some 2200, some 2200, some 600, some 1200, some 600, some 600, some 600, some 600, some 600, some 600, some 600, some 600, some 600, some 80, some 800, none, none, some 1]
def ty_refL : List (List (Option (Nat × Nat))) := [[], [], [], [], [], [], [], [], [], [], [], [], [some (19, 0), some (20, 0), some (21, 0), some (22, 0)], [some (12, 0), none, none, none, none, none, some (26, 0), none, some (27, 0), some (28, 0), none, some (29, 0), some (30, 0)], [none, some (31, 0), some (32, 0), some (33, 0), none, some (34, 0)], [none, some (31, 12), some (32, 12), some (33, 12), none, some (34, 12)], [some (12, 0)], [some (12, 0), some (13, 0), some (37, 0), some (38, 0), some (39, 0), none, none, some (35, 0), none, none, some (36, 0)], [some (12, 0), some (13, 0), some (47, 0)], [], [], [], [], [], [], [], [], [], [], [], [], [], [], [], [], [], [], [], [some (12, 0), some (13, 0), some (37, 0), some (40, 0), some (41, 0), none, some (42, 0)], [some (13, 0), some (38, 0), some (43, 0), some (44, 0), some (45, 0), none, some (46, 0)], [], [], [], [], [], [], [], [], [], [], [], [], [], [], [], [], [], [], [], [], [], [], [], [], [], [], [], [], [], [], [], [], [], [], [], [], [], [], [], [], [], [], [], [], [], [], [], [], [], [], [], [], [], [some (10, 0), none, none, some (11, 0), none, some (15, 0), none, some (16, 0), some (17, 0), some (18, 0)], [some (53, 0), some (54, 0), some (55, 0), some (56, 0), some (57, 0), some (58, 0), some (59, 0), none, none, none, none, none, none, none, some (60, 0), some (61, 0), some (62, 0), some (63, 0), some (64, 0), some (65, 0), some (66, 0), some (67, 0), some (68, 0), some (69, 0), some (70, 0), none, none, none, none, none, none, none, none, none, none, none, none, none, none, none, none, some (71, 0), some (72, 0), some (73, 0), some (74, 0), some (75, 0), some (76, 0), some (77, 0), some (78, 0), some (79, 0), some (80, 0), some (81, 0), some (82, 0), some (83, 0), some (84, 0), some (85, 0), some (86, 0), some (87, 0), some (88, 0), some (89, 0), some (90, 0), some (91, 0), some (92, 0)], []]
def ty_pres (s i : Nat) : Bool := Nat.blt i (ty_cntL.getD s 0)
def ty_len (s : Nat) : Option Nat := ty_lenL.getD s none
def ty_ref (s i k : Nat) : Option ai_A := match (ty_refL.getD s []).getD k none with
  | some (t, n) => some (t, i + n)
  | none => none
def ty_st (S : ty_S) : Prop := (∀ s i, ty_pres s i = true → i < S.2.2.2.2.2.2.1 s) ∧ (∀ s i n, ty_len s = some n → S.2.2.2.2.2.1 (s, i) = n) ∧ ∀ s i k b, ty_ref s i k = some b → S.2.1 (s, i) k = some b
section TYS
variable {S : ty_S} {L : Nat} {xs : Nat → Int32} {d mi pc : Nat} {ls : ai_L} {st : List ai_V} {Q : ai_O → ty_S → Prop} {a : ai_A}
theorem ty_getS {idx ci f : Nat} {b : ai_A} (row : gt_P.1 mi pc = some (3, .getfield idx, [ci, f])) (hs : ty_sk a.1 = (1, ci)) (hk : (ty_kd ci)[f]? = some true) (hp : a.2 < S.2.2.2.2.2.2.1 a.1) (hr : S.2.1 a f = some b) (k : ty_W L xs d mi (pc + 3) ls (.inr (.inr (some b)) :: st) S Q) : ty_W L xs d mi pc ls (.inr (.inr (some a)) :: st) S Q :=
  ty_getR row hs hk hp (fun v hv => by rw [← hv, hr]; exact k)
theorem ty_st.sI {k : Nat} {v : Int} (h : ty_st S) : ty_st (ty_sI S a k v) := h
theorem ty_st.sA {i v : Int} (h : ty_st S) : ty_st (ty_sA S a i v) := h
theorem ty_st.sQ {i : Int} {v : Option ai_A} (h : ty_st S) : ty_st (ty_sQ S a i v) := h
theorem ty_st.sR {k : Nat} {v : Option ai_A} (hk : ty_ref a.1 a.2 k = none) (h : ty_st S) : ty_st (ty_sR S a k v) := by
  refine ⟨h.1, h.2.1, fun s i j b hb => ?_⟩
  show (if (s, i) = a ∧ j = k then v else S.2.1 (s, i) j) = some b
  rw [if_neg ?_]
  · exact h.2.2 s i j b hb
  · rintro ⟨rfl, rfl⟩
    rw [hk] at hb
    cases hb
theorem ty_st.th (h : ty_st S) : ty_st (ty_th S) := h
theorem ty_st.nO {s n : Nat} (hs : ty_refL.getD s [] = []) (h : ty_st S) : ty_st (ty_nO S s n) := by
  refine ⟨fun t i hi => ?_, h.2.1, fun t i k b hb => ?_⟩
  · have := h.1 t i hi
    show i < (if t = s then S.2.2.2.2.2.2.1 s + 1 else S.2.2.2.2.2.2.1 t)
    split
    · rename_i e
      rw [e] at this
      omega
    · exact this
  · show (if (t, i) = (s, S.2.2.2.2.2.2.1 s) then none else S.2.1 (t, i) k) = some b
    rw [if_neg ?_]
    · exact h.2.2 t i k b hb
    · intro e
      cases e
      have e2 : ty_ref s (S.2.2.2.2.2.2.1 s) k = none := by
        unfold ty_ref
        rw [hs]
        rfl
      rw [e2] at hb
      cases hb
theorem ty_st.nA {s n : Nat} (hs : ty_len s = none) (h : ty_st S) : ty_st (ty_nA S s n) := by
  refine ⟨fun t i hi => ?_, fun t i m hm => ?_, h.2.2⟩
  · have := h.1 t i hi
    show i < (if t = s then S.2.2.2.2.2.2.1 s + 1 else S.2.2.2.2.2.2.1 t)
    split
    · rename_i e
      rw [e] at this
      omega
    · exact this
  · show (if (t, i) = (s, S.2.2.2.2.2.2.1 s) then n else S.2.2.2.2.2.1 (t, i)) = m
    rw [if_neg ?_]
    · exact h.2.1 t i m hm
    · intro e
      cases e
      rw [hs] at hm
      cases hm
theorem ty_st.ex (h : ty_st S) : ty_st (ty_ex S) := by
  refine ⟨fun t i hi => ?_, h.2.1, h.2.2⟩
  have := h.1 t i hi
  show i < (if t = 1 then S.2.2.2.2.2.2.1 1 + 1 else S.2.2.2.2.2.2.1 t)
  split
  · rename_i e
    rw [e] at this
    omega
  · exact this
end TYS
end
section
/-! Terms. -/
section CTT
variable {L : Nat} {xs : Nat → Int32} {S : ty_S}
theorem ct_letterOf (d : Nat) (hS : ty_st S) {t : Int} (ht : 0 ≤ t ∧ t ≤ 2147483647) (hc : 0 ≤ S.2.2.1 (19, 0) (t % 624) ∧ S.2.2.1 (19, 0) (t % 624) ≤ 65535) : ty_C L xs (d + 1) 66 [.inr (.inr (some (12, 0))), .inl (ty_J t)] S (ty_oI fun z S' => z = S.2.2.1 (19, 0) (t % 624) ∧ S' = S) := by
  refine ty_enter (ml := 2) (ls := [_, _]) rfl rfl (Nat.le_of_ble_eq_true rfl) ?_
  refine ty_aload_n (pc := 0) (i := 0) (ks := []) (by decide +kernel) rfl ?_
  refine ty_getS (b := (19, 0)) (pc := 1) (idx := 9) (ci := 1) (f := 0) (by decide +kernel) (by first | rfl | assumption) rfl (by first | exact hS.1 _ _ rfl | assumption) (by first | exact hS.2.2 _ _ _ _ rfl | assumption) ?_
  refine ty_iload_n (pc := 4) (i := 1) (ks := []) (by decide +kernel) rfl ?_
  refine ty_sipush (pc := 5) (n := 624) (ks := []) (by decide +kernel) (by omega) ?_
  refine ty_irem (pc := 8) (ks := []) (by decide +kernel) (by omega) (by omega) ?_
  refine ty_caload (pc := 9) (ks := []) (by decide +kernel) (by first | rfl | assumption) (by rfl) (by first | exact hS.1 _ _ rfl | assumption) (by first | exact hS.2.1 _ _ _ rfl | assumption) (by omega) (fun v hv => ?_)
  subst hv
  refine ty_ret_i (pc := 10) (ks := []) (ty := .char) (by decide +kernel) rfl (ty_fit_c (by omega)) ?_
  exact ⟨_, rfl, rfl, rfl⟩
theorem ct_arityOf (d : Nat) (hS : ty_st S) {t : Int} (ht : 0 ≤ t ∧ t ≤ 2147483647) : ty_C L xs (d + 1) 67 [.inr (.inr (some (12, 0))), .inl (ty_J t)] S (ty_oI fun z S' => z = S.2.2.1 (20, 0) (t % 624) ∧ S' = S) := by
  refine ty_enter (ml := 2) (ls := [_, _]) rfl rfl (Nat.le_of_ble_eq_true rfl) ?_
  refine ty_aload_n (pc := 0) (i := 0) (ks := []) (by decide +kernel) rfl ?_
  refine ty_getS (b := (20, 0)) (pc := 1) (idx := 15) (ci := 1) (f := 1) (by decide +kernel) (by first | rfl | assumption) rfl (by first | exact hS.1 _ _ rfl | assumption) (by first | exact hS.2.2 _ _ _ _ rfl | assumption) ?_
  refine ty_iload_n (pc := 4) (i := 1) (ks := []) (by decide +kernel) rfl ?_
  refine ty_sipush (pc := 5) (n := 624) (ks := []) (by decide +kernel) (by omega) ?_
  refine ty_irem (pc := 8) (ks := []) (by decide +kernel) (by omega) (by omega) ?_
  refine ty_iaload (pc := 9) (ks := []) (by decide +kernel) (by first | rfl | assumption) (by rfl) (by first | exact hS.1 _ _ rfl | assumption) (by first | exact hS.2.1 _ _ _ rfl | assumption) (by omega) (fun v hv => ?_)
  subst hv
  refine ty_ret_i (pc := 10) (ks := []) (ty := .int) (by decide +kernel) rfl rfl ?_
  exact ⟨_, rfl, rfl, rfl⟩
theorem ct_argumentOf (d : Nat) (hS : ty_st S) {t k : Int} (ht : 0 ≤ t ∧ t ≤ 2147483647) (hk : 0 ≤ k ∧ k < 3) : ty_C L xs (d + 1) 72 [.inr (.inr (some (12, 0))), .inl (ty_J t), .inl (ty_J k)] S (ty_oI fun z S' => z = t - t % 624 + S.2.2.1 (21, 0) (t % 624 * 3 + k) ∧ S' = S) := by
  refine ty_enter (ml := 4) (ls := [_, _, _, _]) rfl rfl (Nat.le_of_ble_eq_true rfl) ?_
  refine ty_iload_n (pc := 0) (i := 1) (ks := []) (by decide +kernel) rfl ?_
  refine ty_sipush (pc := 1) (n := 624) (ks := []) (by decide +kernel) (by omega) ?_
  refine ty_irem (pc := 4) (ks := []) (by decide +kernel) (by omega) (by omega) ?_
  refine ty_istore_n (pc := 5) (i := 3) (ks := []) (ls' := [_, _, _, _]) (by decide +kernel) rfl ?_
  refine ty_iload_n (pc := 6) (i := 1) (ks := []) (by decide +kernel) rfl ?_
  refine ty_iload_n (pc := 7) (i := 3) (ks := []) (by decide +kernel) rfl ?_
  refine ty_isub (pc := 8) (ks := []) (by decide +kernel) ?_
  refine ty_aload_n (pc := 9) (i := 0) (ks := []) (by decide +kernel) rfl ?_
  refine ty_getS (b := (21, 0)) (pc := 10) (idx := 19) (ci := 1) (f := 2) (by decide +kernel) (by first | rfl | assumption) rfl (by first | exact hS.1 _ _ rfl | assumption) (by first | exact hS.2.2 _ _ _ _ rfl | assumption) ?_
  refine ty_iload_n (pc := 13) (i := 3) (ks := []) (by decide +kernel) rfl ?_
  refine ty_iconst (pc := 14) (n := 3) (ks := []) (by decide +kernel) ?_
  refine ty_imul (pc := 15) (ks := []) (by decide +kernel) ?_
  refine ty_iload_n (pc := 16) (i := 2) (ks := []) (by decide +kernel) rfl ?_
  refine ty_iadd (pc := 17) (ks := []) (by decide +kernel) ?_
  refine ty_iaload (pc := 18) (ks := []) (by decide +kernel) (by first | rfl | assumption) (by rfl) (by first | exact hS.1 _ _ rfl | assumption) (by first | exact hS.2.1 _ _ _ rfl | assumption) (by omega) (fun v hv => ?_)
  subst hv
  refine ty_iadd (pc := 19) (ks := []) (by decide +kernel) ?_
  refine ty_ret_i (pc := 20) (ks := []) (ty := .int) (by decide +kernel) rfl rfl ?_
  exact ⟨_, rfl, rfl, rfl⟩
theorem ct_variableOf (d : Nat) (hS : ty_st S) {t : Int} (ht : 0 ≤ t ∧ t ≤ 2147483647) : ty_C L xs (d + 1) 76 [.inr (.inr (some (12, 0))), .inl (ty_J t)] S (ty_oI fun z S' => z = t / 624 + S.2.2.1 (22, 0) (t % 624) ∧ S' = S) := by
  refine ty_enter (ml := 2) (ls := [_, _]) rfl rfl (Nat.le_of_ble_eq_true rfl) ?_
  refine ty_iload_n (pc := 0) (i := 1) (ks := []) (by decide +kernel) rfl ?_
  refine ty_sipush (pc := 1) (n := 624) (ks := []) (by decide +kernel) (by omega) ?_
  refine ty_idiv (pc := 4) (ks := []) (by decide +kernel) (by omega) (by omega) ?_
  refine ty_aload_n (pc := 5) (i := 0) (ks := []) (by decide +kernel) rfl ?_
  refine ty_getS (b := (22, 0)) (pc := 6) (idx := 22) (ci := 1) (f := 3) (by decide +kernel) (by first | rfl | assumption) rfl (by first | exact hS.1 _ _ rfl | assumption) (by first | exact hS.2.2 _ _ _ _ rfl | assumption) ?_
  refine ty_iload_n (pc := 9) (i := 1) (ks := []) (by decide +kernel) rfl ?_
  refine ty_sipush (pc := 10) (n := 624) (ks := []) (by decide +kernel) (by omega) ?_
  refine ty_irem (pc := 13) (ks := []) (by decide +kernel) (by omega) (by omega) ?_
  refine ty_iaload (pc := 14) (ks := []) (by decide +kernel) (by first | rfl | assumption) (by rfl) (by first | exact hS.1 _ _ rfl | assumption) (by first | exact hS.2.1 _ _ _ rfl | assumption) (by omega) (fun v hv => ?_)
  subst hv
  refine ty_iadd (pc := 15) (ks := []) (by decide +kernel) ?_
  refine ty_ret_i (pc := 16) (ks := []) (ty := .int) (by decide +kernel) rfl rfl ?_
  exact ⟨_, rfl, rfl, rfl⟩
theorem ct_termOf (d : Nat) {n b : Int} : ty_C L xs (d + 1) 44 [.inr (.inr (some (12, 0))), .inl (ty_J n), .inl (ty_J b)] S (ty_oI fun z S' => z = b * 624 + n ∧ S' = S) := by
  refine ty_enter (ml := 3) (ls := [_, _, _]) rfl rfl (Nat.le_of_ble_eq_true rfl) ?_
  refine ty_iload_n (pc := 0) (i := 2) (ks := []) (by decide +kernel) rfl ?_
  refine ty_sipush (pc := 1) (n := 624) (ks := []) (by decide +kernel) (by omega) ?_
  refine ty_imul (pc := 4) (ks := []) (by decide +kernel) ?_
  refine ty_iload_n (pc := 5) (i := 1) (ks := []) (by decide +kernel) rfl ?_
  refine ty_iadd (pc := 6) (ks := []) (by decide +kernel) ?_
  refine ty_ret_i (pc := 7) (ks := []) (ty := .int) (by decide +kernel) rfl rfl ?_
  exact ⟨_, rfl, rfl, rfl⟩
end CTT
end
section
/-! Small methods of the class. -/
section CTS
variable {L : Nat} {xs : Nat → Int32} {S : ty_S}
theorem ct_takeOne (d : Nat) (hS : ty_st S) {k : Int} (hk : S.1 (37, 0) 0 = k) (hr : 0 ≤ k ∧ k ≤ 500) : ty_C L xs (d + 1) 63 [.inr (.inr (some (37, 0)))] S (ty_oX (ty_oV fun S' => k < 500 ∧ S' = ty_sI S (37, 0) 0 (k + 1)) fun x S' => 500 ≤ k ∧ x = 1 ∧ S' = ty_th S) := by
  subst hk
  refine ty_enter (ml := 1) (ls := [_]) rfl rfl (Nat.le_of_ble_eq_true rfl) ?_
  refine ty_aload_n (pc := 0) (i := 0) (ks := []) (by decide +kernel) rfl ?_
  refine ty_getI (pc := 1) (idx := 9) (ci := 7) (f := 0) (by decide +kernel) (by first | rfl | assumption) rfl (by first | exact hS.1 _ _ rfl | assumption) (fun v hv => ?_)
  subst hv
  refine ty_sipush (pc := 4) (n := 500) (ks := []) (by decide +kernel) (by omega) ?_
  -- at 7: .if_icmp .lt 11
  refine ty_icmp_lt (pc := 7) (off := 11) (t := 18) (ks := []) (by decide +kernel) (by omega) (by omega) (fun hc => ?_) (fun hc => ?_)
  · refine ty_aload_n (pc := 18) (i := 0) (ks := []) (by decide +kernel) rfl ?_
    refine ty_dup (pc := 19) (ks := []) (by decide +kernel) rfl ?_
    refine ty_getI (pc := 20) (idx := 9) (ci := 7) (f := 0) (by decide +kernel) (by first | rfl | assumption) rfl (by first | exact hS.1 _ _ rfl | assumption) (fun v hv => ?_)
    subst hv
    refine ty_iconst (pc := 23) (n := 1) (ks := []) (by decide +kernel) ?_
    refine ty_iadd (pc := 24) (ks := []) (by decide +kernel) ?_
    refine ty_putI (pc := 25) (idx := 9) (ci := 7) (f := 0) (by decide +kernel) (by first | rfl | assumption) rfl rfl (by first | exact hS.1 _ _ rfl | assumption) ?_
    -- at 28: .return_
    refine ty_ret_v (pc := 28) (ks := []) (by decide +kernel) rfl ?_
    exact .inl ⟨rfl, hc, rfl⟩
  · refine ty_throw (pc := 10) (ins := .new 15) (x := 1) (by decide +kernel) (Nat.le_of_ble_eq_true rfl) ?_
    exact .inr ⟨_, rfl, hc, rfl, rfl⟩
theorem ct_isSmall (d : Nat) {c : Int} (hr : 0 ≤ c ∧ c ≤ 65535) : ty_C L xs (d + 1) 22 [.inl (ty_J c)] S (ty_oI fun z S' => z = (if 97 ≤ c ∧ c ≤ 122 then 1 else 0) ∧ S' = S) := by
  refine ty_enter (ml := 1) (ls := [_]) rfl rfl (Nat.le_of_ble_eq_true rfl) ?_
  refine ty_iload_n (pc := 0) (i := 0) (ks := []) (by decide +kernel) rfl ?_
  refine ty_bipush (pc := 1) (n := 97) (ks := []) (by decide +kernel) (by omega) ?_
  refine ty_icmp_lt (pc := 3) (off := 13) (t := 16) (ks := []) (by decide +kernel) (by omega) (by omega) (fun hc => ?_) (fun hc => ?_)
  · refine ty_iconst (pc := 16) (n := 0) (ks := []) (by decide +kernel) ?_
    refine ty_ret_i (pc := 17) (ks := []) (ty := .boolean) (by decide +kernel) rfl (ty_fit_z (by omega)) ?_
    exact ⟨_, rfl, by first | rw [if_pos (by omega)] | rw [if_neg (by omega)], rfl⟩
  · refine ty_iload_n (pc := 6) (i := 0) (ks := []) (by decide +kernel) rfl ?_
    refine ty_bipush (pc := 7) (n := 122) (ks := []) (by decide +kernel) (by omega) ?_
    refine ty_icmp_gt (pc := 9) (off := 7) (t := 16) (ks := []) (by decide +kernel) (by omega) (by omega) (fun hc => ?_) (fun hc => ?_)
    · refine ty_iconst (pc := 16) (n := 0) (ks := []) (by decide +kernel) ?_
      refine ty_ret_i (pc := 17) (ks := []) (ty := .boolean) (by decide +kernel) rfl (ty_fit_z (by omega)) ?_
      exact ⟨_, rfl, by first | rw [if_pos (by omega)] | rw [if_neg (by omega)], rfl⟩
    · refine ty_iconst (pc := 12) (n := 1) (ks := []) (by decide +kernel) ?_
      refine ty_goto (pc := 13) (off := 4) (t := 17) (ks := []) (by decide +kernel) ?_
      refine ty_ret_i (pc := 17) (ks := []) (ty := .boolean) (by decide +kernel) rfl (ty_fit_z (by omega)) ?_
      exact ⟨_, rfl, by first | rw [if_pos (by omega)] | rw [if_neg (by omega)], rfl⟩
theorem ct_isVariable (d : Nat) {c : Int} (hr : 0 ≤ c ∧ c ≤ 65535) : ty_C L xs (d + 1) 24 [.inl (ty_J c)] S (ty_oI fun z S' => z = (if 65 ≤ c ∧ c ≤ 90 then 1 else 0) ∧ S' = S) := by
  refine ty_enter (ml := 1) (ls := [_]) rfl rfl (Nat.le_of_ble_eq_true rfl) ?_
  refine ty_iload_n (pc := 0) (i := 0) (ks := []) (by decide +kernel) rfl ?_
  refine ty_bipush (pc := 1) (n := 65) (ks := []) (by decide +kernel) (by omega) ?_
  refine ty_icmp_lt (pc := 3) (off := 13) (t := 16) (ks := []) (by decide +kernel) (by omega) (by omega) (fun hc => ?_) (fun hc => ?_)
  · refine ty_iconst (pc := 16) (n := 0) (ks := []) (by decide +kernel) ?_
    refine ty_ret_i (pc := 17) (ks := []) (ty := .boolean) (by decide +kernel) rfl (ty_fit_z (by omega)) ?_
    exact ⟨_, rfl, by first | rw [if_pos (by omega)] | rw [if_neg (by omega)], rfl⟩
  · refine ty_iload_n (pc := 6) (i := 0) (ks := []) (by decide +kernel) rfl ?_
    refine ty_bipush (pc := 7) (n := 90) (ks := []) (by decide +kernel) (by omega) ?_
    refine ty_icmp_gt (pc := 9) (off := 7) (t := 16) (ks := []) (by decide +kernel) (by omega) (by omega) (fun hc => ?_) (fun hc => ?_)
    · refine ty_iconst (pc := 16) (n := 0) (ks := []) (by decide +kernel) ?_
      refine ty_ret_i (pc := 17) (ks := []) (ty := .boolean) (by decide +kernel) rfl (ty_fit_z (by omega)) ?_
      exact ⟨_, rfl, by first | rw [if_pos (by omega)] | rw [if_neg (by omega)], rfl⟩
    · refine ty_iconst (pc := 12) (n := 1) (ks := []) (by decide +kernel) ?_
      refine ty_goto (pc := 13) (off := 4) (t := 17) (ks := []) (by decide +kernel) ?_
      refine ty_ret_i (pc := 17) (ks := []) (ty := .boolean) (by decide +kernel) rfl (ty_fit_z (by omega)) ?_
      exact ⟨_, rfl, by first | rw [if_pos (by omega)] | rw [if_neg (by omega)], rfl⟩
theorem ct_isDigit (d : Nat) {c : Int} (hr : 0 ≤ c ∧ c ≤ 65535) : ty_C L xs (d + 1) 25 [.inl (ty_J c)] S (ty_oI fun z S' => z = (if 48 ≤ c ∧ c ≤ 57 then 1 else 0) ∧ S' = S) := by
  refine ty_enter (ml := 1) (ls := [_]) rfl rfl (Nat.le_of_ble_eq_true rfl) ?_
  refine ty_iload_n (pc := 0) (i := 0) (ks := []) (by decide +kernel) rfl ?_
  refine ty_bipush (pc := 1) (n := 48) (ks := []) (by decide +kernel) (by omega) ?_
  refine ty_icmp_lt (pc := 3) (off := 13) (t := 16) (ks := []) (by decide +kernel) (by omega) (by omega) (fun hc => ?_) (fun hc => ?_)
  · refine ty_iconst (pc := 16) (n := 0) (ks := []) (by decide +kernel) ?_
    refine ty_ret_i (pc := 17) (ks := []) (ty := .boolean) (by decide +kernel) rfl (ty_fit_z (by omega)) ?_
    exact ⟨_, rfl, by first | rw [if_pos (by omega)] | rw [if_neg (by omega)], rfl⟩
  · refine ty_iload_n (pc := 6) (i := 0) (ks := []) (by decide +kernel) rfl ?_
    refine ty_bipush (pc := 7) (n := 57) (ks := []) (by decide +kernel) (by omega) ?_
    refine ty_icmp_gt (pc := 9) (off := 7) (t := 16) (ks := []) (by decide +kernel) (by omega) (by omega) (fun hc => ?_) (fun hc => ?_)
    · refine ty_iconst (pc := 16) (n := 0) (ks := []) (by decide +kernel) ?_
      refine ty_ret_i (pc := 17) (ks := []) (ty := .boolean) (by decide +kernel) rfl (ty_fit_z (by omega)) ?_
      exact ⟨_, rfl, by first | rw [if_pos (by omega)] | rw [if_neg (by omega)], rfl⟩
    · refine ty_iconst (pc := 12) (n := 1) (ks := []) (by decide +kernel) ?_
      refine ty_goto (pc := 13) (off := 4) (t := 17) (ks := []) (by decide +kernel) ?_
      refine ty_ret_i (pc := 17) (ks := []) (ty := .boolean) (by decide +kernel) rfl (ty_fit_z (by omega)) ?_
      exact ⟨_, rfl, by first | rw [if_pos (by omega)] | rw [if_neg (by omega)], rfl⟩
theorem ct_here (d : Nat) (hS : ty_st S) (ht : S.2.1 (16, 0) 1 = some (10, 0)) {p e : Int} (hp : S.1 (16, 0) 3 = p) (he : S.1 (16, 0) 2 = e) (hr : 0 ≤ p ∧ p ≤ 48 ∧ 0 ≤ e ∧ e ≤ 48) (hch : ∀ i, 0 ≤ i → i < 48 → 0 ≤ S.2.2.1 (10, 0) i ∧ S.2.2.1 (10, 0) i ≤ 65535) : ty_C L xs (d + 1) 21 [.inr (.inr (some (16, 0)))] S (ty_oI fun z S' => z = (if p < e then S.2.2.1 (10, 0) p else 0) ∧ S' = S) := by
  subst hp he
  refine ty_enter (ml := 1) (ls := [_]) rfl rfl (Nat.le_of_ble_eq_true rfl) ?_
  refine ty_aload_n (pc := 0) (i := 0) (ks := []) (by decide +kernel) rfl ?_
  refine ty_getI (pc := 1) (idx := 15) (ci := 4) (f := 3) (by decide +kernel) (by first | rfl | assumption) rfl (by first | exact hS.1 _ _ rfl | assumption) (fun v hv => ?_)
  subst hv
  refine ty_aload_n (pc := 4) (i := 0) (ks := []) (by decide +kernel) rfl ?_
  refine ty_getI (pc := 5) (idx := 9) (ci := 4) (f := 2) (by decide +kernel) (by first | rfl | assumption) rfl (by first | exact hS.1 _ _ rfl | assumption) (fun v hv => ?_)
  subst hv
  -- at 8: .if_icmp .ge 15
  refine ty_icmp_ge (pc := 8) (off := 15) (t := 23) (ks := []) (by decide +kernel) (by omega) (by omega) (fun hc => ?_) (fun hc => ?_)
  · refine ty_iconst (pc := 23) (n := 0) (ks := []) (by decide +kernel) ?_
    refine ty_ret_i (pc := 24) (ks := []) (ty := .char) (by decide +kernel) rfl (ty_fit_c (by omega)) ?_
    exact ⟨_, rfl, by rw [if_neg (by omega)], rfl⟩
  · have h9 := hch _ hr.1 (by omega)
    refine ty_aload_n (pc := 11) (i := 0) (ks := []) (by decide +kernel) rfl ?_
    first | refine ty_getS (pc := 12) (idx := 48) (ci := 4) (f := 1) (by decide +kernel) (by first | rfl | assumption) rfl (by first | exact hS.1 _ _ rfl | assumption) (by assumption) ?_ | (refine ty_getR (pc := 12) (idx := 48) (ci := 4) (f := 1) (by decide +kernel) (by first | rfl | assumption) rfl (by first | exact hS.1 _ _ rfl | assumption) (fun v hv => ?_); (subst hv))
    refine ty_aload_n (pc := 15) (i := 0) (ks := []) (by decide +kernel) rfl ?_
    refine ty_getI (pc := 16) (idx := 15) (ci := 4) (f := 3) (by decide +kernel) (by first | rfl | assumption) rfl (by first | exact hS.1 _ _ rfl | assumption) (fun v hv => ?_)
    subst hv
    refine ty_caload (pc := 19) (ks := []) (by decide +kernel) (by first | rfl | assumption) (by rfl) (by first | exact hS.1 _ _ rfl | assumption) (by first | exact hS.2.1 _ _ _ rfl | assumption) (by omega) (fun v hv => ?_)
    subst hv
    refine ty_goto (pc := 20) (off := 4) (t := 24) (ks := []) (by decide +kernel) ?_
    refine ty_ret_i (pc := 24) (ks := []) (ty := .char) (by decide +kernel) rfl (ty_fit_c (by omega)) ?_
    exact ⟨_, rfl, by rw [if_pos (by omega)], rfl⟩
end CTS
end
section
/-! Writes upon writes. -/
section TYA
variable {S : ty_S} {a b : ai_A} {k j : Nat} {v w i m : Int} {f g : Int → Int}
theorem ty_sI_self (h : S.1 a k = v) : ty_sI S a k v = S := by
  refine Prod.ext ?_ rfl
  funext b j
  show (if b = a ∧ j = k then v else S.1 b j) = S.1 b j
  by_cases e : b = a ∧ j = k
  · rw [if_pos e, e.1, e.2, h]
  · rw [if_neg e]
theorem ty_sI_sI : ty_sI (ty_sI S a k v) a k w = ty_sI S a k w := by
  refine Prod.ext ?_ rfl
  funext b j
  show (if b = a ∧ j = k then w else if b = a ∧ j = k then v else S.1 b j) = if b = a ∧ j = k then w else S.1 b j
  by_cases e : b = a ∧ j = k
  · rw [if_pos e, if_pos e]
  · rw [if_neg e, if_neg e, if_neg e]
theorem ty_sI_at : (ty_sI S a k v).1 a k = v := if_pos ⟨rfl, rfl⟩
theorem ty_sI_ne {c : ai_A} {q : Nat} (h : ¬ (c = a ∧ q = k)) : (ty_sI S a k v).1 c q = S.1 c q := if_neg h
theorem ty_mA_at : (ty_mA S a f).2.2.1 a = f := if_pos rfl
theorem ty_mA_ne (h : ¬ b = a) : (ty_mA S a f).2.2.1 b = S.2.2.1 b := if_neg h
theorem ty_mA_mA : ty_mA (ty_mA S a f) a g = ty_mA S a g := by
  refine Prod.ext rfl (Prod.ext rfl (Prod.ext ?_ rfl))
  funext b
  show (if b = a then g else if b = a then f else S.2.2.1 b) = if b = a then g else S.2.2.1 b
  by_cases e : b = a
  · rw [if_pos e, if_pos e]
  · rw [if_neg e, if_neg e, if_neg e]
theorem ty_sI_comm (h : ¬ (a = b ∧ k = j)) : ty_sI (ty_sI S a k v) b j w = ty_sI (ty_sI S b j w) a k v := by
  refine Prod.ext ?_ rfl
  funext c q
  show (if c = b ∧ q = j then w else if c = a ∧ q = k then v else S.1 c q) = if c = a ∧ q = k then v else if c = b ∧ q = j then w else S.1 c q
  by_cases e : c = b ∧ q = j
  · rw [if_pos e, if_pos e, if_neg (fun z => h ⟨by rw [← z.1, e.1], by rw [← z.2, e.2]⟩)]
  · rw [if_neg e, if_neg e]
theorem ty_sA_ne (h : ¬ b = a) : (ty_sA S a i v).2.2.1 b = S.2.2.1 b := by
  funext j
  show (if b = a ∧ j = i then v else S.2.2.1 b j) = S.2.2.1 b j
  rw [if_neg (fun z => h z.1)]
theorem ty_sA_at : (ty_sA S a i v).2.2.1 a = fun j => if j = i then v else S.2.2.1 a j := by
  funext j
  show (if a = a ∧ j = i then v else S.2.2.1 a j) = _
  by_cases e : j = i
  · rw [if_pos ⟨rfl, e⟩, if_pos e]
  · rw [if_neg (fun z => e z.2), if_neg e]
end TYA
end
section
/-! THE SEARCH AS MATHEMATICS, which class and reference both follow. A program: letters, arities, arguments, ranks of nodes; how many variables the text of a place has; which nodes are terms. A term is base * 624 + node; a value is a term that is no variable, or -1 - v for a free variable v. -/
abbrev mo_G : Type := (Int → Int) × (Int → Int) × (Int → Int) × (Int → Int) × (Int → Int) × (Int → Prop)
def mo_F : Int := -2147483648
def mo_l (G : mo_G) (t : Int) : Int := G.1 (t % 624)
def mo_a (G : mo_G) (t : Int) : Int := G.2.1 (t % 624)
def mo_g (G : mo_G) (t k : Int) : Int := t - t % 624 + G.2.2.1 (t % 624 * 3 + k)
def mo_v (G : mo_G) (t : Int) : Int := t / 624 + G.2.2.2.1 (t % 624)
def mo_wf (G : mo_G) : Prop := ∀ n, G.2.2.2.2.2 n → (0 ≤ n ∧ n < 624) ∧ (0 ≤ G.1 n ∧ G.1 n ≤ 65535) ∧ (0 ≤ G.2.1 n ∧ G.2.1 n ≤ 3) ∧ (∀ k, 0 ≤ k → k < G.2.1 n → G.2.2.2.2.2 (G.2.2.1 (n * 3 + k)) ∧ G.2.2.1 (n * 3 + k) / 48 = n / 48) ∧ (65 ≤ G.1 n ∧ G.1 n ≤ 90 → 0 ≤ G.2.2.2.1 n ∧ G.2.2.2.1 n < G.2.2.2.2.1 (n / 48)) ∧ 0 ≤ G.2.2.2.2.1 (n / 48)
def mo_ok (G : mo_G) (made t : Int) : Prop := 0 ≤ t ∧ G.2.2.2.2.2 (t % 624) ∧ t / 624 + G.2.2.2.2.1 (t % 624 / 48) ≤ made
/-- a bound variable leads to a term that is no variable, or to a variable made before it -/
def mo_bw (G : mo_G) (made : Int) (bd : Int → Int) : Prop := ∀ v, 0 ≤ v → v < made → bd v = mo_F ∨ (0 ≤ bd v ∧ mo_ok G made (bd v) ∧ ¬ (65 ≤ mo_l G (bd v) ∧ mo_l G (bd v) ≤ 90)) ∨ (bd v < 0 ∧ 0 ≤ -1 - bd v ∧ -1 - bd v < v)
def mo_d (bd : Int → Int) : Nat → Int → Int
  | 0, v => -1 - v
  | m + 1, v => if bd v = mo_F then -1 - v else if 0 ≤ bd v then bd v else mo_d bd m (-1 - bd v)
def mo_dv (bd : Int → Int) (v : Int) : Int := mo_d bd (v.toNat + 1) v
def mo_val (G : mo_G) (bd : Int → Int) (t : Int) : Int := if t < 0 then mo_dv bd (-1 - t) else if 65 ≤ mo_l G t ∧ mo_l G t ≤ 90 then mo_dv bd (mo_v G t) else t
/-- a value: a free variable, or a term that is none -/
def mo_isval (G : mo_G) (made : Int) (bd : Int → Int) (x : Int) : Prop := (x < 0 ∧ 0 ≤ -1 - x ∧ -1 - x < made ∧ bd (-1 - x) = mo_F) ∨ (0 ≤ x ∧ mo_ok G made x ∧ ¬ (65 ≤ mo_l G x ∧ mo_l G x ≤ 90))
theorem mo_d_more {bd : Int → Int} {G : mo_G} {made : Int} (h : mo_bw G made bd) : ∀ (m : Nat) (v : Int), 0 ≤ v → v < made → v.toNat < m → mo_d bd m v = mo_dv bd v := by
  intro m
  induction m using Nat.strongRecOn with
  | _ m ih =>
    intro v h0 h1 hm
    cases m with
    | zero => omega
    | succ m =>
      unfold mo_dv
      show (if bd v = mo_F then -1 - v else if 0 ≤ bd v then bd v else mo_d bd m (-1 - bd v)) = (if bd v = mo_F then -1 - v else if 0 ≤ bd v then bd v else mo_d bd v.toNat (-1 - bd v))
      by_cases e1 : bd v = mo_F
      · rw [if_pos e1, if_pos e1]
      · rw [if_neg e1, if_neg e1]
        by_cases e2 : 0 ≤ bd v
        · rw [if_pos e2, if_pos e2]
        · rw [if_neg e2, if_neg e2]
          rcases h v h0 h1 with z | z | z
          · exact absurd z e1
          · exact absurd z.1 e2
          · rw [ih m (by omega) (-1 - bd v) z.2.1 (by omega) (by omega)]
            by_cases e5 : v.toNat = m + 1
            · omega
            · rw [ih v.toNat (by omega) (-1 - bd v) z.2.1 (by omega) (by omega)]
/-- one step of the way to a value -/
theorem mo_dv_step {bd : Int → Int} {G : mo_G} {made : Int} (h : mo_bw G made bd) {v : Int} (h0 : 0 ≤ v) (h1 : v < made) : mo_dv bd v = if bd v = mo_F then -1 - v else if 0 ≤ bd v then bd v else mo_dv bd (-1 - bd v) := by
  have e : mo_dv bd v = (if bd v = mo_F then -1 - v else if 0 ≤ bd v then bd v else mo_d bd v.toNat (-1 - bd v)) := rfl
  rw [e]
  by_cases e1 : bd v = mo_F
  · rw [if_pos e1, if_pos e1]
  · rw [if_neg e1, if_neg e1]
    by_cases e2 : 0 ≤ bd v
    · rw [if_pos e2, if_pos e2]
    · rw [if_neg e2, if_neg e2]
      rcases h v h0 h1 with z | z | z
      · exact absurd z e1
      · exact absurd z.1 e2
      · exact mo_d_more h _ _ z.2.1 (by omega) (by omega)
theorem mo_dv_isval {bd : Int → Int} {G : mo_G} {made : Int} (h : mo_bw G made bd) : ∀ (m : Nat) (v : Int), v.toNat < m → 0 ≤ v → v < made → mo_isval G made bd (mo_dv bd v) := by
  intro m
  induction m with
  | zero => intro v hm; omega
  | succ m ih =>
    intro v hm h0 h1
    rw [mo_dv_step h h0 h1]
    by_cases e1 : bd v = mo_F
    · rw [if_pos e1]
      exact .inl ⟨by omega, by omega, by omega, by rw [show -1 - (-1 - v) = v by omega]; exact e1⟩
    · rw [if_neg e1]
      rcases h v h0 h1 with z | z | z
      · exact absurd z e1
      · rw [if_pos z.1]
        exact .inr ⟨z.1, z.2.1, z.2.2⟩
      · rw [if_neg (by omega)]
        exact ih _ (by omega) z.2.1 (by omega)
theorem mo_ok_var {G : mo_G} (hw : mo_wf G) {made t : Int} (h : mo_ok G made t) (hv : 65 ≤ mo_l G t ∧ mo_l G t ≤ 90) : 0 ≤ mo_v G t ∧ mo_v G t < made := by
  obtain ⟨h0, h1, h2⟩ := h
  obtain ⟨-, -, -, -, w5, -⟩ := hw _ h1
  have := w5 hv
  unfold mo_v
  have hb : 0 ≤ t / 624 := Int.ediv_nonneg h0 (by omega)
  omega
theorem mo_val_isval {G : mo_G} (hw : mo_wf G) {made : Int} {bd : Int → Int} (h : mo_bw G made bd) {t : Int} (ht : mo_ok G made t ∨ (t < 0 ∧ -1 - t < made)) : mo_isval G made bd (mo_val G bd t) := by
  unfold mo_val
  rcases ht with ht | ht
  · rw [if_neg (by have := ht.1; omega)]
    by_cases e : 65 ≤ mo_l G t ∧ mo_l G t ≤ 90
    · rw [if_pos e]
      obtain ⟨a, b⟩ := mo_ok_var hw ht e
      exact mo_dv_isval h _ _ (Nat.lt_succ_self _) a b
    · rw [if_neg e]
      exact .inr ⟨ht.1, ht, e⟩
  · rw [if_pos ht.1]
    exact mo_dv_isval h _ _ (Nat.lt_succ_self _) (by omega) ht.2
theorem mo_ok_arg {G : mo_G} (hw : mo_wf G) {made t k : Int} (h : mo_ok G made t) (h0 : 0 ≤ k) (hk : k < mo_a G t) : mo_ok G made (mo_g G t k) := by
  obtain ⟨h0', h1, h2⟩ := h
  obtain ⟨w1, -, -, w4, -⟩ := hw _ h1
  obtain ⟨a1, a2⟩ := w4 k h0 hk
  obtain ⟨b1, -⟩ := hw _ a1
  unfold mo_g
  generalize G.2.2.1 (t % 624 * 3 + k) = n at a1 a2 b1
  have e1 : (t - t % 624 + n) % 624 = n := by omega
  have e2 : (t - t % 624 + n) / 624 = t / 624 := by omega
  refine ⟨by omega, by rw [e1]; exact a1, ?_⟩
  rw [e1, e2, a2]
  exact h2
theorem mo_ok_up {G : mo_G} {made made' t : Int} (h : mo_ok G made t) (hm : made ≤ made') : mo_ok G made' t := ⟨h.1, h.2.1, by have := h.2.2; omega⟩
theorem mo_ok_le {G : mo_G} (hw : mo_wf G) {made t : Int} (h : mo_ok G made t) : t ≤ made * 624 + 623 := by
  obtain ⟨h0, h1, h2⟩ := h
  obtain ⟨w1, -, -, -, -, w6⟩ := hw _ h1
  omega
end
section
/-! The class's variables. -/
/-- rows that grow: B bound, F first asleep, E last asleep, all of length n -/
def cv_sh (S : ty_S) (B F E : ai_A) (n : Nat) : Prop := (S.2.1 (13, 0) 1 = some B ∧ S.2.1 (13, 0) 2 = some F ∧ S.2.1 (13, 0) 3 = some E) ∧ (ty_sk B.1 = (2, 0) ∧ ty_sk F.1 = (2, 0) ∧ ty_sk E.1 = (2, 0)) ∧
  (B.2 < S.2.2.2.2.2.2.1 B.1 ∧ F.2 < S.2.2.2.2.2.2.1 F.1 ∧ E.2 < S.2.2.2.2.2.2.1 E.1) ∧ (S.2.2.2.2.2.1 B = n ∧ S.2.2.2.2.2.1 F = n ∧ S.2.2.2.2.2.1 E = n) ∧ (B ≠ F ∧ B ≠ E ∧ F ≠ E) ∧ ((B.1 = 23 ∨ B.1 = 48) ∧ (F.1 = 24 ∨ F.1 = 48) ∧ (E.1 = 25 ∨ E.1 = 48)) ∧ n ≤ 100000
theorem cv_ne {S : ty_S} {B F E : ai_A} {n : Nat} (h : cv_sh S B F E n) {s i : Nat} (hs : s ≠ 23 ∧ s ≠ 24 ∧ s ≠ 25 ∧ s ≠ 48) : (¬ B = (s, i) ∧ ¬ F = (s, i) ∧ ¬ E = (s, i)) ∧ ¬ (s, i) = B ∧ ¬ (s, i) = F ∧ ¬ (s, i) = E := by
  obtain ⟨-, -, -, -, -, ⟨h1, h2, h3⟩, -⟩ := h
  have e : ∀ a : ai_A, a.1 ≠ s → ¬ a = (s, i) ∧ ¬ (s, i) = a := fun a ha => ⟨fun z => ha (by rw [z]), fun z => ha (by rw [← z])⟩
  have b1 := e B (by omega)
  have b2 := e F (by omega)
  have b3 := e E (by omega)
  exact ⟨⟨b1.1, b2.1, b3.1⟩, b1.2, b2.2, b3.2⟩
/-- the program stands in the class's tables -/
def cv_g (S : ty_S) (G : mo_G) : Prop := S.2.2.1 (19, 0) = G.1 ∧ S.2.2.1 (20, 0) = G.2.1 ∧ S.2.2.1 (21, 0) = G.2.2.1 ∧ S.2.2.1 (22, 0) = G.2.2.2.1
theorem ty_sA_mA {S : ty_S} {a : ai_A} {f : Int → Int} {i v : Int} : ty_sA (ty_mA S a f) a i v = ty_mA S a (fun j => if j = i then v else f j) := by
  unfold ty_sA ty_mA
  congr 3
  funext b j
  by_cases e : b = a
  · simp [e]
  · simp [e]
theorem ty_sA_mA_ne {S : ty_S} {a c : ai_A} {f : Int → Int} {i v : Int} (h : ¬ c = a) : ty_sA (ty_mA S a f) c i v = ty_mA (ty_sA S c i v) a f := by
  unfold ty_sA ty_mA
  congr 3
  funext b
  funext j
  by_cases e : b = a
  · have : ¬ a = c := fun z => h z.symm
    simp [e, this]
  · simp [e]
theorem ty_mA_self {S : ty_S} {a : ai_A} : ty_mA S a (S.2.2.1 a) = S := by
  unfold ty_mA
  have : (fun b => if b = a then S.2.2.1 a else S.2.2.1 b) = S.2.2.1 := by
    funext b
    by_cases e : b = a
    · simp [e]
    · simp [e]
  rw [this]
theorem ty_sA_as {S : ty_S} {a : ai_A} {i v : Int} : ty_sA S a i v = ty_mA S a (fun j => if j = i then v else S.2.2.1 a j) := by
  have := ty_sA_mA (S := S) (a := a) (f := S.2.2.1 a) (i := i) (v := v)
  rw [ty_mA_self] at this
  exact this
section CVV
variable {L : Nat} {xs : Nat → Int32} {S : ty_S} {B F E : ai_A} {n : Nat}
theorem cv_bind (d : Nat) (hS : ty_st S) (hV : cv_sh S B F E n) {v x bc : Int} (hv : 0 ≤ v ∧ v < n) (hb : S.1 (13, 0) 7 = bc) (hr : 0 ≤ bc ∧ bc < 500) : ty_C L xs (d + 1) 87 [.inr (.inr (some (13, 0))), .inl (ty_J v), .inl (ty_J x)] S (ty_oV fun S' => S' = ty_sI (ty_sA (ty_sA S B v x) (26, 0) bc v) (13, 0) 7 (bc + 1)) := by
  subst hb
  obtain ⟨⟨b1, b2, b3⟩, ⟨k1, k2, k3⟩, ⟨p1, p2, p3⟩, ⟨n1, n2, n3⟩, -, -, hn⟩ := hV
  refine ty_enter (ml := 3) (ls := [_, _, _]) rfl rfl (Nat.le_of_ble_eq_true rfl) ?_
  refine ty_aload_n (pc := 0) (i := 0) (ks := []) (by decide +kernel) rfl ?_
  refine ty_getI (pc := 1) (idx := 31) (ci := 2) (f := 7) (by decide +kernel) (by first | rfl | assumption) rfl (by first | exact hS.1 _ _ rfl | assumption) (fun v hv => ?_)
  subst hv
  refine ty_sipush (pc := 4) (n := 500) (ks := []) (by decide +kernel) (by omega) ?_
  -- at 7: .if_icmp .ge 30
  refine ty_icmp_ge (pc := 7) (off := 30) (t := 37) (ks := []) (by decide +kernel) (by omega) (by omega) (fun hc => ?_) (fun hc => ?_)
  · omega
  · refine ty_aload_n (pc := 10) (i := 0) (ks := []) (by decide +kernel) rfl ?_
    first | refine ty_getS (pc := 11) (idx := 9) (ci := 2) (f := 1) (by decide +kernel) (by first | rfl | assumption) rfl (by first | exact hS.1 _ _ rfl | assumption) (by assumption) ?_ | (refine ty_getR (pc := 11) (idx := 9) (ci := 2) (f := 1) (by decide +kernel) (by first | rfl | assumption) rfl (by first | exact hS.1 _ _ rfl | assumption) (fun v hv => ?_); (subst hv))
    refine ty_iload_n (pc := 14) (i := 1) (ks := []) (by decide +kernel) rfl ?_
    refine ty_iload_n (pc := 15) (i := 2) (ks := []) (by decide +kernel) rfl ?_
    refine ty_iastore (pc := 16) (ks := []) (by decide +kernel) (by first | rfl | assumption) (by rfl) (by first | exact hS.1 _ _ rfl | assumption) (by first | exact hS.2.1 _ _ _ rfl | assumption) (by omega) ?_
    refine ty_aload_n (pc := 17) (i := 0) (ks := []) (by decide +kernel) rfl ?_
    refine ty_getS (b := (26, 0)) (pc := 18) (idx := 28) (ci := 2) (f := 6) (by decide +kernel) (by first | rfl | assumption) rfl (by first | exact hS.1 _ _ rfl | assumption) (by first | exact hS.2.2 _ _ _ _ rfl | assumption) ?_
    refine ty_aload_n (pc := 21) (i := 0) (ks := []) (by decide +kernel) rfl ?_
    refine ty_getI (pc := 22) (idx := 31) (ci := 2) (f := 7) (by decide +kernel) (by first | rfl | assumption) rfl (by first | exact hS.1 _ _ rfl | assumption) (fun v hv => ?_)
    first | simp (decide := true) only [ty_sI, ty_sR, ty_sA, ty_sQ, ty_mA, ty_mQ, ↓reduceIte, false_and, and_false, true_and, and_true, and_self, hne] at hv | simp (decide := true) only [ty_sI, ty_sR, ty_sA, ty_sQ, ty_mA, ty_mQ, ↓reduceIte, false_and, and_false, true_and, and_true, and_self] at hv | skip
    subst hv
    refine ty_iload_n (pc := 25) (i := 1) (ks := []) (by decide +kernel) rfl ?_
    refine ty_iastore (pc := 26) (ks := []) (by decide +kernel) (by first | rfl | assumption) (by rfl) (by first | exact hS.1 _ _ rfl | assumption) (by first | exact hS.2.1 _ _ _ rfl | assumption) (by omega) ?_
    refine ty_aload_n (pc := 27) (i := 0) (ks := []) (by decide +kernel) rfl ?_
    refine ty_dup (pc := 28) (ks := []) (by decide +kernel) rfl ?_
    refine ty_getI (pc := 29) (idx := 31) (ci := 2) (f := 7) (by decide +kernel) (by first | rfl | assumption) rfl (by first | exact hS.1 _ _ rfl | assumption) (fun v hv => ?_)
    first | simp (decide := true) only [ty_sI, ty_sR, ty_sA, ty_sQ, ty_mA, ty_mQ, ↓reduceIte, false_and, and_false, true_and, and_true, and_self, hne] at hv | simp (decide := true) only [ty_sI, ty_sR, ty_sA, ty_sQ, ty_mA, ty_mQ, ↓reduceIte, false_and, and_false, true_and, and_true, and_self] at hv | skip
    subst hv
    refine ty_iconst (pc := 32) (n := 1) (ks := []) (by decide +kernel) ?_
    refine ty_iadd (pc := 33) (ks := []) (by decide +kernel) ?_
    refine ty_putI (pc := 34) (idx := 31) (ci := 2) (f := 7) (by decide +kernel) (by first | rfl | assumption) rfl rfl (by first | exact hS.1 _ _ rfl | assumption) ?_
    -- at 37: .return_
    refine ty_ret_v (pc := 37) (ks := []) (by decide +kernel) rfl ?_
    exact ⟨rfl, rfl⟩
def cv_fr (f ones : Int → Int) (kept : Int) : Nat → Int → Int
  | 0 => f
  | m + 1 => fun j => if j = ones (kept + m) then mo_F else cv_fr f ones kept m j
theorem cv_free (d : Nat) (hS : ty_st S) (hV : cv_sh S B F E n) {kept bc : Int} (hb : S.1 (13, 0) 7 = bc) (hr : 0 ≤ kept ∧ kept ≤ bc ∧ bc ≤ 500) (ho : ∀ i, kept ≤ i → i < bc → 0 ≤ S.2.2.1 (26, 0) i ∧ S.2.2.1 (26, 0) i < n) :
    ty_C L xs (d + 1) 82 [.inr (.inr (some (13, 0))), .inl (ty_J kept)] S (ty_oV fun S' => S' = ty_sI (ty_mA S B (cv_fr (S.2.2.1 B) (S.2.2.1 (26, 0)) kept (bc - kept).toNat)) (13, 0) 7 kept) := by
  have hne := cv_ne hV (s := 26) (i := 0) (by decide)
  obtain ⟨⟨b1, b2, b3⟩, ⟨k1, k2, k3⟩, ⟨p1, p2, p3⟩, ⟨n1, n2, n3⟩, -, -, hn⟩ := hV
  have loop : ∀ (r m : Nat), (m + r : Int) = bc - kept → ty_W L xs d 82 2 [some (.inr (.inr (some (13, 0)))), some (.inl (ty_J kept)), some (.inl (ty_J (kept + m)))] [] (ty_mA S B (cv_fr (S.2.2.1 B) (S.2.2.1 (26, 0)) kept m)) (ty_oV fun S' => S' = ty_sI (ty_mA S B (cv_fr (S.2.2.1 B) (S.2.2.1 (26, 0)) kept (bc - kept).toNat)) (13, 0) 7 kept) := by
    intro r
    induction r with
    | zero =>
      intro m hm
      refine ty_iload_n (pc := 2) (i := 2) (ks := []) (by decide +kernel) rfl ?_
      refine ty_aload_n (pc := 3) (i := 0) (ks := []) (by decide +kernel) rfl ?_
      refine ty_getI (pc := 4) (idx := 31) (ci := 2) (f := 7) (by decide +kernel) (by first | rfl | assumption) rfl (by first | exact hS.1 _ _ rfl | assumption) (fun v hv => ?_)
      first | simp (decide := true) only [ty_sI, ty_sR, ty_sA, ty_sQ, ty_mA, ty_mQ, ↓reduceIte, false_and, and_false, true_and, and_true, and_self, hne] at hv | simp (decide := true) only [ty_sI, ty_sR, ty_sA, ty_sQ, ty_mA, ty_mQ, ↓reduceIte, false_and, and_false, true_and, and_true, and_self] at hv | skip
      subst hv
      -- at 7: .if_icmp .ge 22
      rw [hb]
      refine ty_icmp_ge (pc := 7) (off := 22) (t := 29) (ks := []) (by decide +kernel) (by omega) (by omega) (fun hc => ?_) (fun hc => ?_)
      · refine ty_aload_n (pc := 29) (i := 0) (ks := []) (by decide +kernel) rfl ?_
        refine ty_iload_n (pc := 30) (i := 1) (ks := []) (by decide +kernel) rfl ?_
        refine ty_putI (pc := 31) (idx := 31) (ci := 2) (f := 7) (by decide +kernel) (by first | rfl | assumption) rfl rfl (by first | exact hS.1 _ _ rfl | assumption) ?_
        -- at 34: .return_
        refine ty_ret_v (pc := 34) (ks := []) (by decide +kernel) rfl ?_
        have e : (bc - kept).toNat = m := by omega
        rw [e]
        exact ⟨rfl, rfl⟩
      · omega
    | succ r ih =>
      intro m hm
      refine ty_iload_n (pc := 2) (i := 2) (ks := []) (by decide +kernel) rfl ?_
      refine ty_aload_n (pc := 3) (i := 0) (ks := []) (by decide +kernel) rfl ?_
      refine ty_getI (pc := 4) (idx := 31) (ci := 2) (f := 7) (by decide +kernel) (by first | rfl | assumption) rfl (by first | exact hS.1 _ _ rfl | assumption) (fun v hv => ?_)
      first | simp (decide := true) only [ty_sI, ty_sR, ty_sA, ty_sQ, ty_mA, ty_mQ, ↓reduceIte, false_and, and_false, true_and, and_true, and_self, hne] at hv | simp (decide := true) only [ty_sI, ty_sR, ty_sA, ty_sQ, ty_mA, ty_mQ, ↓reduceIte, false_and, and_false, true_and, and_true, and_self] at hv | skip
      subst hv
      -- at 7: .if_icmp .ge 22
      rw [hb]
      have h9 := ho (kept + m) (by omega) (by omega)
      refine ty_icmp_ge (pc := 7) (off := 22) (t := 29) (ks := []) (by decide +kernel) (by omega) (by omega) (fun hc => ?_) (fun hc => ?_)
      · omega
      · refine ty_aload_n (pc := 10) (i := 0) (ks := []) (by decide +kernel) rfl ?_
        first | refine ty_getS (pc := 11) (idx := 9) (ci := 2) (f := 1) (by decide +kernel) (by first | rfl | assumption) rfl (by first | exact hS.1 _ _ rfl | assumption) (by assumption) ?_ | (refine ty_getR (pc := 11) (idx := 9) (ci := 2) (f := 1) (by decide +kernel) (by first | rfl | assumption) rfl (by first | exact hS.1 _ _ rfl | assumption) (fun v hv => ?_); (first | simp (decide := true) only [ty_sI, ty_sR, ty_sA, ty_sQ, ty_mA, ty_mQ, ↓reduceIte, false_and, and_false, true_and, and_true, and_self, hne] at hv | simp (decide := true) only [ty_sI, ty_sR, ty_sA, ty_sQ, ty_mA, ty_mQ, ↓reduceIte, false_and, and_false, true_and, and_true, and_self] at hv | skip); (subst hv))
        refine ty_aload_n (pc := 14) (i := 0) (ks := []) (by decide +kernel) rfl ?_
        refine ty_getS (b := (26, 0)) (pc := 15) (idx := 28) (ci := 2) (f := 6) (by decide +kernel) (by first | rfl | assumption) rfl (by first | exact hS.1 _ _ rfl | assumption) (by first | exact hS.2.2 _ _ _ _ rfl | assumption) ?_
        refine ty_iload_n (pc := 18) (i := 2) (ks := []) (by decide +kernel) rfl ?_
        refine ty_iaload (pc := 19) (ks := []) (by decide +kernel) (by first | rfl | assumption) (by rfl) (by first | exact hS.1 _ _ rfl | assumption) (by first | exact hS.2.1 _ _ _ rfl | assumption) (by omega) (fun v hv => ?_)
        first | simp (decide := true) only [ty_sI, ty_sR, ty_sA, ty_sQ, ty_mA, ty_mQ, ↓reduceIte, false_and, and_false, true_and, and_true, and_self, hne] at hv | simp (decide := true) only [ty_sI, ty_sR, ty_sA, ty_sQ, ty_mA, ty_mQ, ↓reduceIte, false_and, and_false, true_and, and_true, and_self] at hv | skip
        subst hv
        refine ty_ldc (pc := 20) (idx := 62) (c := 2147483648) (z := (-2147483648)) (by decide +kernel) (by decide +kernel) ?_
        refine ty_iastore (pc := 22) (ks := []) (by decide +kernel) (by first | rfl | assumption) (by rfl) (by first | exact hS.1 _ _ rfl | assumption) (by first | exact hS.2.1 _ _ _ rfl | assumption) (by omega) ?_
        refine ty_iinc (pc := 23) (i := 2) (n := 1) (ks := []) (ls' := [_, _, _]) (by decide +kernel) rfl rfl ?_
        refine ty_goto (pc := 26) (off := (-24)) (t := 2) (ks := []) (by decide +kernel) ?_
        -- at 2: .iload_n 2
        rw [show (-2147483648 : Int) = mo_F from rfl, ty_sA_mA]
        have := ih (m + 1) (by omega)
        rw [show kept + ((m + 1 : Nat) : Int) = kept + m + 1 by omega] at this
        exact this
  refine ty_enter (ml := 3) (ls := [_, _, _]) rfl rfl (Nat.le_of_ble_eq_true rfl) ?_
  refine ty_iload_n (pc := 0) (i := 1) (ks := []) (by decide +kernel) rfl ?_
  refine ty_istore_n (pc := 1) (i := 2) (ks := []) (ls' := [_, _, _]) (by decide +kernel) rfl ?_
  -- at 2: .iload_n 2
  have := loop (bc - kept).toNat 0 (by omega)
  rw [show kept + ((0 : Nat) : Int) = kept by omega] at this
  rw [show cv_fr (S.2.2.1 B) (S.2.2.1 (26, 0)) kept 0 = S.2.2.1 B from rfl, ty_mA_self] at this
  exact this
theorem cv_value_nv (d : Nat) (hS : ty_st S) {G : mo_G} (hG : cv_g S G) (hw : mo_wf G) {x i t0 made : Int} (hx : mo_ok G made x) (hnv : ¬ (65 ≤ mo_l G x ∧ mo_l G x ≤ 90)) (hm : 0 ≤ made ∧ made ≤ 100000) : ty_W L xs (d + 1) 75 16 [some (.inr (.inr (some (13, 0)))), some (.inl (ty_J t0)), some (.inl (ty_J x)), some (.inl (ty_J i))] [] S (ty_oI fun z S' => z = x ∧ S' = S) := by
  have h1 := mo_ok_le hw hx
  have hl : S.2.2.1 (19, 0) (x % 624) = mo_l G x := by rw [hG.1]; rfl
  have h2 := (hw _ hx.2.1).2.1
  have h0 := hx.1
  have hlr : 0 ≤ mo_l G x ∧ mo_l G x ≤ 65535 := h2
  refine ty_aload_n (pc := 16) (i := 0) (ks := []) (by decide +kernel) rfl ?_
  refine ty_getS (b := (12, 0)) (pc := 17) (idx := 52) (ci := 2) (f := 0) (by decide +kernel) (by first | rfl | assumption) rfl (by first | exact hS.1 _ _ rfl | assumption) (by first | exact hS.2.2 _ _ _ _ rfl | assumption) ?_
  refine ty_iload_n (pc := 20) (i := 2) (ks := []) (by decide +kernel) rfl ?_
  -- at 21: .invokevirtual 63
  refine ty_callv (pc := 21) (idx := 63) (m := 66) (n := 2) (c := 1) (vs := [_]) (r := []) (by decide +kernel) rfl rfl (Nat.le_of_ble_eq_true rfl) (by first | rfl | assumption) (by first | exact hS.1 _ _ rfl | assumption) (ct_letterOf d hS (by omega) (by rw [hl]; exact hlr)) ?_
  rintro _ S1 ⟨z, rfl, rfl, rfl⟩
  rw [hl]
  refine ty_KI ?_
  refine ty_calls (pc := 24) (idx := 69) (m := 24) (n := 1) (c := 0) (av := [_]) (r := []) (by decide +kernel) rfl rfl (Nat.le_of_ble_eq_true rfl) (ct_isVariable d hlr) ?_
  rintro _ S2 ⟨z, rfl, rfl, rfl⟩
  rw [if_neg hnv]
  refine ty_KI ?_
  refine ty_if_ne (pc := 27) (off := 5) (t := 32) (ks := []) (by decide +kernel) (by omega) (fun hc => ?_) (fun hc => ?_)
  · exact absurd rfl hc
  · refine ty_iload_n (pc := 30) (i := 2) (ks := []) (by decide +kernel) rfl ?_
    refine ty_ret_i (pc := 31) (ks := []) (ty := .int) (by decide +kernel) rfl rfl ?_
    exact ⟨_, rfl, rfl, rfl⟩
theorem cv_value_neg (d : Nat) (hS : ty_st S) (hV : cv_sh S B F E n) {G : mo_G} (hG : cv_g S G) (hw : mo_wf G) {made : Int} (hmd : S.1 (13, 0) 4 = made) (hm : 0 ≤ made ∧ made ≤ n) (hb : mo_bw G made (S.2.2.1 B)) : ∀ (m : Nat) (w i t0 : Int), (-1 - w).toNat < m → w < 0 → 0 ≤ i → i + (-1 - w) < made →
    ty_W L xs (d + 1) 75 43 [some (.inr (.inr (some (13, 0)))), some (.inl (ty_J t0)), some (.inl (ty_J w)), some (.inl (ty_J i))] [] S (ty_oI fun z S' => z = mo_dv (S.2.2.1 B) (-1 - w) ∧ S' = S) := by
  have hV' := hV
  obtain ⟨⟨b1, b2, b3⟩, ⟨k1, k2, k3⟩, ⟨p1, p2, p3⟩, ⟨n1, n2, n3⟩, -, -, hn⟩ := hV
  intro m
  induction m with
  | zero => intro w i t0 h; omega
  | succ m ih =>
    intro w i t0 h1 h2 h3 h4
    have hst := mo_dv_step hb (v := -1 - w) (by omega) (by omega)
    have hbw := hb (-1 - w) (by omega) (by omega)
    have hbr : -2147483648 ≤ S.2.2.1 B (-1 - w) ∧ S.2.2.1 B (-1 - w) ≤ 2147483647 := by
      rcases hbw with z | z | z
      · rw [z]; decide
      · have := mo_ok_le hw z.2.1
        omega
      · omega
    refine ty_aload_n (pc := 43) (i := 0) (ks := []) (by decide +kernel) rfl ?_
    first | refine ty_getS (pc := 44) (idx := 9) (ci := 2) (f := 1) (by decide +kernel) (by first | rfl | assumption) rfl (by first | exact hS.1 _ _ rfl | assumption) (by assumption) ?_ | (refine ty_getR (pc := 44) (idx := 9) (ci := 2) (f := 1) (by decide +kernel) (by first | rfl | assumption) rfl (by first | exact hS.1 _ _ rfl | assumption) (fun v hv => ?_); (subst hv))
    refine ty_iload_n (pc := 47) (i := 2) (ks := []) (by decide +kernel) rfl ?_
    refine ty_iconst (pc := 48) (n := (-1)) (ks := []) (by decide +kernel) ?_
    refine ty_inot (pc := 49) (ks := []) (by decide +kernel) ?_
    refine ty_iaload (pc := 50) (ks := []) (by decide +kernel) (by first | rfl | assumption) (by rfl) (by first | exact hS.1 _ _ rfl | assumption) (by first | exact hS.2.1 _ _ _ rfl | assumption) (by omega) (fun v hv => ?_)
    subst hv
    refine ty_ldc (pc := 51) (idx := 62) (c := 2147483648) (z := (-2147483648)) (by decide +kernel) (by decide +kernel) ?_
    -- at 53: .if_icmp .ne 5
    refine ty_icmp_ne (pc := 53) (off := 5) (t := 58) (ks := []) (by decide +kernel) (by omega) (by omega) (fun hc => ?_) (fun hc => ?_)
    · have hc' : ¬ S.2.2.1 B (-1 - w) = mo_F := hc
      rw [if_neg hc'] at hst
      refine ty_aload_n (pc := 58) (i := 0) (ks := []) (by decide +kernel) rfl ?_
      first | refine ty_getS (pc := 59) (idx := 9) (ci := 2) (f := 1) (by decide +kernel) (by first | rfl | assumption) rfl (by first | exact hS.1 _ _ rfl | assumption) (by assumption) ?_ | (refine ty_getR (pc := 59) (idx := 9) (ci := 2) (f := 1) (by decide +kernel) (by first | rfl | assumption) rfl (by first | exact hS.1 _ _ rfl | assumption) (fun v hv => ?_); (subst hv))
      refine ty_iload_n (pc := 62) (i := 2) (ks := []) (by decide +kernel) rfl ?_
      refine ty_iconst (pc := 63) (n := (-1)) (ks := []) (by decide +kernel) ?_
      refine ty_inot (pc := 64) (ks := []) (by decide +kernel) ?_
      refine ty_iaload (pc := 65) (ks := []) (by decide +kernel) (by first | rfl | assumption) (by rfl) (by first | exact hS.1 _ _ rfl | assumption) (by first | exact hS.2.1 _ _ _ rfl | assumption) (by omega) (fun v hv => ?_)
      subst hv
      refine ty_istore_n (pc := 66) (i := 2) (ks := []) (ls' := [_, _, _, _]) (by decide +kernel) rfl ?_
      refine ty_iinc (pc := 67) (i := 3) (n := 1) (ks := []) (ls' := [_, _, _, _]) (by decide +kernel) rfl rfl ?_
      refine ty_goto (pc := 70) (off := (-66)) (t := 4) (ks := []) (by decide +kernel) ?_
      -- at 4: .iload_n 3
      refine ty_iload_n (pc := 4) (i := 3) (ks := []) (by decide +kernel) rfl ?_
      refine ty_aload_n (pc := 5) (i := 0) (ks := []) (by decide +kernel) rfl ?_
      refine ty_getI (pc := 6) (idx := 21) (ci := 2) (f := 4) (by decide +kernel) (by first | rfl | assumption) rfl (by first | exact hS.1 _ _ rfl | assumption) (fun v hv => ?_)
      subst hv
      -- at 9: .if_icmp .gt 64
      rw [hmd]
      refine ty_icmp_gt (pc := 9) (off := 64) (t := 73) (ks := []) (by decide +kernel) (by omega) (by omega) (fun hc => ?_) (fun hc => ?_)
      · omega
      · refine ty_iload_n (pc := 12) (i := 2) (ks := []) (by decide +kernel) rfl ?_
        -- at 13: .ifCond .lt 30
        refine ty_if_lt (pc := 13) (off := 30) (t := 43) (ks := []) (by decide +kernel) (by omega) (fun hc => ?_) (fun hc => ?_)
        · rw [if_neg (by omega)] at hst
          rw [hst]
          rcases hbw with z | z | z
          · exact absurd z hc'
          · omega
          · exact ih _ _ _ (by omega) hc (by omega) (by omega)
        · rw [if_pos hc] at hst
          rw [hst]
          rcases hbw with z | z | z
          · exact absurd z hc'
          · exact cv_value_nv d hS hG hw z.2.1 z.2.2 (by omega)
          · omega
    · have hc' : S.2.2.1 B (-1 - w) = mo_F := hc
      rw [if_pos hc'] at hst
      refine ty_iload_n (pc := 56) (i := 2) (ks := []) (by decide +kernel) rfl ?_
      -- at 57: .ireturn
      refine ty_ret_i (pc := 57) (ks := []) (ty := .int) (by decide +kernel) rfl rfl ?_
      exact ⟨_, rfl, by rw [hst]; omega, rfl⟩
theorem cv_valueOf (d : Nat) (hS : ty_st S) (hV : cv_sh S B F E n) {G : mo_G} (hG : cv_g S G) (hw : mo_wf G) {made : Int} (hmd : S.1 (13, 0) 4 = made) (hm : 0 ≤ made ∧ made ≤ n) (hb : mo_bw G made (S.2.2.1 B)) {t : Int} (ht : mo_ok G made t ∨ (t < 0 ∧ -1 - t < made)) :
    ty_C L xs (d + 2) 75 [.inr (.inr (some (13, 0))), .inl (ty_J t)] S (ty_oI fun z S' => z = mo_val G (S.2.2.1 B) t ∧ S' = S) := by
  have hn := hV.2.2.2.2.2.2
  have hr : -2147483648 ≤ t ∧ t ≤ 2147483647 := by
    rcases ht with z | z
    · have := mo_ok_le hw z
      have := z.1
      omega
    · omega
  refine ty_enter (ml := 4) (ls := [_, _, _, _]) rfl rfl (Nat.le_of_ble_eq_true rfl) ?_
  refine ty_iload_n (pc := 0) (i := 1) (ks := []) (by decide +kernel) rfl ?_
  refine ty_istore_n (pc := 1) (i := 2) (ks := []) (ls' := [_, _, _, _]) (by decide +kernel) rfl ?_
  refine ty_iconst (pc := 2) (n := 0) (ks := []) (by decide +kernel) ?_
  refine ty_istore_n (pc := 3) (i := 3) (ks := []) (ls' := [_, _, _, _]) (by decide +kernel) rfl ?_
  refine ty_iload_n (pc := 4) (i := 3) (ks := []) (by decide +kernel) rfl ?_
  refine ty_aload_n (pc := 5) (i := 0) (ks := []) (by decide +kernel) rfl ?_
  refine ty_getI (pc := 6) (idx := 21) (ci := 2) (f := 4) (by decide +kernel) (by first | rfl | assumption) rfl (by first | exact hS.1 _ _ rfl | assumption) (fun v hv => ?_)
  subst hv
  -- at 9: .if_icmp .gt 64
  rw [hmd]
  refine ty_icmp_gt (pc := 9) (off := 64) (t := 73) (ks := []) (by decide +kernel) (by omega) (by omega) (fun hc => ?_) (fun hc => ?_)
  · omega
  · refine ty_iload_n (pc := 12) (i := 2) (ks := []) (by decide +kernel) rfl ?_
    -- at 13: .ifCond .lt 30
    refine ty_if_lt (pc := 13) (off := 30) (t := 43) (ks := []) (by decide +kernel) (by omega) (fun hc => ?_) (fun hc => ?_)
    · have h5 : -1 - t < made := by
        rcases ht with z | z
        · have := z.1
          omega
        · exact z.2
      have := cv_value_neg (L := L) (xs := xs) d hS hV hG hw hmd hm hb ((-1 - t).toNat + 1) t 0 t (by omega) hc (by omega) (by omega)
      unfold mo_val
      rw [if_pos hc]
      exact this
    · have ht : mo_ok G made t := by
        rcases ht with z | z
        · exact z
        · omega
      unfold mo_val
      rw [if_neg (by omega)]
      by_cases e : 65 ≤ mo_l G t ∧ mo_l G t ≤ 90
      · rw [if_pos e]
        have hl : S.2.2.1 (19, 0) (t % 624) = mo_l G t := by rw [hG.1]; rfl
        have hlr : 0 ≤ mo_l G t ∧ mo_l G t ≤ 65535 := by omega
        have hvv := mo_ok_var hw ht e
        refine ty_aload_n (pc := 16) (i := 0) (ks := []) (by decide +kernel) rfl ?_
        refine ty_getS (b := (12, 0)) (pc := 17) (idx := 52) (ci := 2) (f := 0) (by decide +kernel) (by first | rfl | assumption) rfl (by first | exact hS.1 _ _ rfl | assumption) (by first | exact hS.2.2 _ _ _ _ rfl | assumption) ?_
        refine ty_iload_n (pc := 20) (i := 2) (ks := []) (by decide +kernel) rfl ?_
        -- at 21: .invokevirtual 63
        refine ty_callv (pc := 21) (idx := 63) (m := 66) (n := 2) (c := 1) (vs := [_]) (r := []) (by decide +kernel) rfl rfl (Nat.le_of_ble_eq_true rfl) (by first | rfl | assumption) (by first | exact hS.1 _ _ rfl | assumption) (ct_letterOf d hS (by omega) (by rw [hl]; exact hlr)) ?_
        rintro _ S1 ⟨z, rfl, rfl, rfl⟩
        rw [hl]
        refine ty_KI ?_
        refine ty_calls (pc := 24) (idx := 69) (m := 24) (n := 1) (c := 0) (av := [_]) (r := []) (by decide +kernel) rfl rfl (Nat.le_of_ble_eq_true rfl) (ct_isVariable d hlr) ?_
        rintro _ S2 ⟨z, rfl, rfl, rfl⟩
        rw [if_pos e]
        refine ty_KI ?_
        refine ty_if_ne (pc := 27) (off := 5) (t := 32) (ks := []) (by decide +kernel) (by omega) (fun hc => ?_) (fun hc => ?_)
        · refine ty_aload_n (pc := 32) (i := 0) (ks := []) (by decide +kernel) rfl ?_
          refine ty_getS (b := (12, 0)) (pc := 33) (idx := 52) (ci := 2) (f := 0) (by decide +kernel) (by first | rfl | assumption) rfl (by first | exact hS.1 _ _ rfl | assumption) (by first | exact hS.2.2 _ _ _ _ rfl | assumption) ?_
          refine ty_iload_n (pc := 36) (i := 2) (ks := []) (by decide +kernel) rfl ?_
          -- at 37: .invokevirtual 73
          refine ty_callv (pc := 37) (idx := 73) (m := 76) (n := 2) (c := 1) (vs := [_]) (r := []) (by decide +kernel) rfl rfl (Nat.le_of_ble_eq_true rfl) (by first | rfl | assumption) (by first | exact hS.1 _ _ rfl | assumption) (ct_variableOf d hS (by omega)) ?_
          rintro _ S3 ⟨z, rfl, rfl, rfl⟩
          rw [show t / 624 + S3.2.2.1 (22, 0) (t % 624) = mo_v G t by rw [hG.2.2.2]; rfl]
          refine ty_KI ?_
          refine ty_iconst (pc := 40) (n := (-1)) (ks := []) (by decide +kernel) ?_
          refine ty_inot (pc := 41) (ks := []) (by decide +kernel) ?_
          refine ty_istore_n (pc := 42) (i := 2) (ks := []) (ls' := [_, _, _, _]) (by decide +kernel) rfl ?_
          -- at 43: .aload_n 0
          have := cv_value_neg (L := L) (xs := xs) d hS hV hG hw hmd hm hb ((-1 - (-1 - mo_v G t)).toNat + 1) (-1 - mo_v G t) 0 t (by omega) (by omega) (by omega) (by omega)
          rw [show -1 - (-1 - mo_v G t) = mo_v G t by omega] at this
          exact this
        · omega
      · rw [if_neg e]
        exact cv_value_nv d hS hG hw ht e (by omega)
end CVV
end
section
/-! The library's rows: copies of int rows, lists. -/
theorem ty_shr1 {n : Int} (h : 0 ≤ n ∧ n ≤ 2147483647) : ty_J n >>> (ty_J 1 &&& 31) = ty_J (n / 2) := by
  have e1 : ty_J 1 &&& 31 = 1 := by decide
  rw [e1, ← Int32.toInt_inj, ty_J_toInt (by omega), ← Int32.toInt_toBitVec, Int32.toBitVec_shiftRight]
  have e2 : (1 : Int32).toBitVec.smod 32 = 1#32 := by decide
  rw [e2]
  show ((ty_J n).toBitVec.sshiftRight 1).toInt = n / 2
  rw [BitVec.toInt_sshiftRight, Int32.toInt_toBitVec, ty_J_toInt (by omega)]
  rw [Int.shiftRight_eq_div_pow]
  rfl
section JDL
variable {L : Nat} {xs : Nat → Int32} {S : ty_S}
theorem ty_ishr1 {d mi pc : Nat} {ls : ai_L} {st : List ai_V} {Q : ai_O → ty_S → Prop} {ks : List Nat} {x : Int} (row : gt_P.1 mi pc = some (0, .ishr, ks)) (h : 0 ≤ x ∧ x ≤ 2147483647) (k : ty_W L xs d mi (pc + 1) ls (.inl (ty_J (x / 2)) :: st) S Q) : ty_W L xs d mi pc ls (.inl (ty_J 1) :: .inl (ty_J x) :: st) S Q := ty_pure row (by simp only [ai_pure, ai_ii, ty_shr1 h]) k
theorem jd_copyOf (d : Nat) {a : ai_A} {n0 : Nat} {m : Int} (hs : ty_sk a.1 = (2, 0)) (hp : a.2 < S.2.2.2.2.2.2.1 a.1) (hn : S.2.2.2.2.2.1 a = n0) (hne : a ≠ (48, S.2.2.2.2.2.2.1 48)) (hm : (n0 : Int) < m ∧ m ≤ 60000000) : ty_C L xs (d + 1) 42 [.inr (.inr (some a)), .inl (ty_J m)] S
    (ty_oR fun z S' => z = some (48, S.2.2.2.2.2.2.1 48) ∧ S' = ty_mA (ty_nA S 48 m.toNat) (48, S.2.2.2.2.2.2.1 48) (fun j => if 0 ≤ j ∧ j < n0 then S.2.2.1 a j else 0)) := by
  have hS : ty_st S ∨ True := .inr trivial
  refine ty_enter (ml := 3) (ls := [_, _, _]) rfl rfl (Nat.le_of_ble_eq_true rfl) ?_
  refine ty_iload_n (pc := 0) (i := 1) (ks := []) (by decide +kernel) rfl ?_
  refine ty_aload_n (pc := 1) (i := 0) (ks := []) (by decide +kernel) rfl ?_
  refine ty_length (pc := 2) (ks := []) (by decide +kernel) (.inl hs) (by decide) hp hn ?_
  refine ty_icmp_ne (pc := 3) (off := 11) (t := 14) (ks := []) (by decide +kernel) (by omega) (by omega) (fun hc => ?_) (fun hc => ?_)
  · refine ty_iload_n (pc := 14) (i := 1) (ks := []) (by decide +kernel) rfl ?_
    refine ty_newA (pc := 15) (at_ := .int) (t := 0) (s := 48) (by decide +kernel) (by decide +kernel) (by decide) (by omega) ?_
    refine ty_astore_n (pc := 17) (i := 2) (ks := []) (ls' := [_, _, _]) (by decide +kernel) rfl ?_
    refine ty_aload_n (pc := 18) (i := 0) (ks := []) (by decide +kernel) rfl ?_
    refine ty_iconst (pc := 19) (n := 0) (ks := []) (by decide +kernel) ?_
    refine ty_aload_n (pc := 20) (i := 2) (ks := []) (by decide +kernel) rfl ?_
    refine ty_iconst (pc := 21) (n := 0) (ks := []) (by decide +kernel) ?_
    refine ty_aload_n (pc := 22) (i := 0) (ks := []) (by decide +kernel) rfl ?_
    -- at 23: .arraylength
    have hp' : a.2 < (ty_nA S 48 m.toNat).2.2.2.2.2.2.1 a.1 := by
      show a.2 < (if a.1 = 48 then S.2.2.2.2.2.2.1 48 + 1 else S.2.2.2.2.2.2.1 a.1)
      split
      · rename_i e; rw [e] at hp; omega
      · exact hp
    have hn' : (ty_nA S 48 m.toNat).2.2.2.2.2.1 a = n0 := by
      show (if a = (48, S.2.2.2.2.2.2.1 48) then m.toNat else S.2.2.2.2.2.1 a) = n0
      rw [if_neg hne]; exact hn
    have hp2 : (48, S.2.2.2.2.2.2.1 48).2 < (ty_nA S 48 m.toNat).2.2.2.2.2.2.1 (48, S.2.2.2.2.2.2.1 48).1 := by
      show S.2.2.2.2.2.2.1 48 < (if 48 = 48 then S.2.2.2.2.2.2.1 48 + 1 else S.2.2.2.2.2.2.1 48)
      simp
    have hn2 : (ty_nA S 48 m.toNat).2.2.2.2.2.1 (48, S.2.2.2.2.2.2.1 48) = m.toNat := by
      show (if (48, S.2.2.2.2.2.2.1 48) = (48, S.2.2.2.2.2.2.1 48) then m.toNat else _) = m.toNat
      simp
    refine ty_length (pc := 23) (ks := []) (by decide +kernel) (.inl hs) (by decide) hp' hn' ?_
    refine ty_iload_n (pc := 24) (i := 1) (ks := []) (by decide +kernel) rfl ?_
    refine ty_min (pc := 25) (ins := .invokestatic 304) (ks := []) (by decide +kernel) (by omega) (by omega) (Nat.le_of_ble_eq_true rfl) (fun z hz => ?_)
    -- at 28: .invokestatic 150
    rw [if_neg (by omega)] at hz
    subst hz
    refine ty_copyi (pc := 28) (ins := .invokestatic 150) (by decide +kernel) hs rfl hp' hn' (by rfl) rfl hp2 hn2 (by omega) (Nat.le_of_ble_eq_true rfl) ?_
    refine ty_aload_n (pc := 31) (i := 2) (ks := []) (by decide +kernel) rfl ?_
    -- at 32: .areturn
    refine ty_ret_a (pc := 32) (ks := []) (ty := (.array .int)) (by decide +kernel) rfl rfl ?_
    refine ⟨_, rfl, rfl, ?_⟩
    congr 1
    funext j
    by_cases e : 0 ≤ j ∧ j < 0 + (n0 : Int)
    · rw [if_pos e, if_pos (by omega)]
      show (if a = (48, S.2.2.2.2.2.2.1 48) then (fun _ => (0 : Int)) else S.2.2.1 a) (0 + (j - 0)) = S.2.2.1 a j
      rw [if_neg hne, show (0 : Int) + (j - 0) = j by omega]
    · rw [if_neg e, if_neg (by omega)]
      show (if (48, S.2.2.2.2.2.2.1 48) = (48, S.2.2.2.2.2.2.1 48) then (fun _ => (0 : Int)) else S.2.2.1 (48, S.2.2.2.2.2.2.1 48)) j = 0
      simp
  · omega
theorem jd_size (d : Nat) {a : ai_A} (hs : ty_sk a.1 = (1, 6)) (hp : a.2 < S.2.2.2.2.2.2.1 a.1) : ty_C L xs (d + 1) 46 [.inr (.inr (some a))] S (ty_oI fun z S' => z = S.1 a 1 ∧ S' = S) := by
  refine ty_enter (ml := 1) (ls := [_]) rfl rfl (Nat.le_of_ble_eq_true rfl) ?_
  refine ty_aload_n (pc := 0) (i := 0) (ks := []) (by decide +kernel) rfl ?_
  refine ty_getI (pc := 1) (idx := 48) (ci := 6) (f := 1) (by decide +kernel) hs rfl hp (fun v hv => ?_)
  subst hv
  refine ty_ret_i (pc := 4) (ks := []) (ty := .int) (by decide +kernel) rfl rfl ?_
  exact ⟨_, rfl, rfl, rfl⟩
theorem jd_fill (d : Nat) {a : ai_A} {n : Nat} {x : Int} (hs : ty_sk a.1 = (2, 0)) (hp : a.2 < S.2.2.2.2.2.2.1 a.1) (hn : S.2.2.2.2.2.1 a = n) (hb : n ≤ 60000000) : ty_C L xs (d + 1) 32 [.inr (.inr (some a)), .inl (ty_J x)] S (ty_oV fun S' => S' = ty_mA S a (fun j => if 0 ≤ j ∧ j < n then x else S.2.2.1 a j)) := by
  have loop : ∀ (r m : Nat), m + r = n → ty_W L xs d 32 5 [some (.inr (.inr (some a))), some (.inl (ty_J x)), some (.inl (ty_J m)), some (.inl (ty_J n))] [] (ty_mA S a (fun j => if 0 ≤ j ∧ j < m then x else S.2.2.1 a j)) (ty_oV fun S' => S' = ty_mA S a (fun j => if 0 ≤ j ∧ j < n then x else S.2.2.1 a j)) := by
    intro r
    induction r with
    | zero =>
      intro m hm
      refine ty_iload_n (pc := 5) (i := 2) (ks := []) (by decide +kernel) rfl ?_
      refine ty_iload_n (pc := 6) (i := 3) (ks := []) (by decide +kernel) rfl ?_
      -- at 7: .if_icmp .ge 13
      refine ty_icmp_ge (pc := 7) (off := 13) (t := 20) (ks := []) (by decide +kernel) (by omega) (by omega) (fun hc => ?_) (fun hc => ?_)
      · refine ty_ret_v (pc := 20) (ks := []) (by decide +kernel) rfl ?_
        have e : m = n := by omega
        subst e
        exact ⟨rfl, rfl⟩
      · omega
    | succ r ih =>
      intro m hm
      refine ty_iload_n (pc := 5) (i := 2) (ks := []) (by decide +kernel) rfl ?_
      refine ty_iload_n (pc := 6) (i := 3) (ks := []) (by decide +kernel) rfl ?_
      -- at 7: .if_icmp .ge 13
      refine ty_icmp_ge (pc := 7) (off := 13) (t := 20) (ks := []) (by decide +kernel) (by omega) (by omega) (fun hc => ?_) (fun hc => ?_)
      · omega
      · refine ty_aload_n (pc := 10) (i := 0) (ks := []) (by decide +kernel) rfl ?_
        refine ty_iload_n (pc := 11) (i := 2) (ks := []) (by decide +kernel) rfl ?_
        refine ty_iload_n (pc := 12) (i := 1) (ks := []) (by decide +kernel) rfl ?_
        refine ty_iastore (pc := 13) (ks := []) (by decide +kernel) hs rfl hp hn (by omega) ?_
        refine ty_iinc (pc := 14) (i := 2) (n := 1) (ks := []) (ls' := [_, _, _, _]) (by decide +kernel) rfl rfl ?_
        refine ty_goto (pc := 17) (off := (-12)) (t := 5) (ks := []) (by decide +kernel) ?_
        -- at 5: .iload_n 2
        rw [ty_sA_mA]
        have := ih (m + 1) (by omega)
        have e : (fun j : Int => if j = (m : Int) then x else if 0 ≤ j ∧ j < (m : Int) then x else S.2.2.1 a j) = fun j => if 0 ≤ j ∧ j < ((m + 1 : Nat) : Int) then x else S.2.2.1 a j := by
          funext j
          by_cases e1 : j = m
          · rw [if_pos e1, if_pos (by omega)]
          · rw [if_neg e1]
            by_cases e2 : 0 ≤ j ∧ j < (m : Int)
            · rw [if_pos e2, if_pos (by omega)]
            · rw [if_neg e2, if_neg (by omega)]
        rw [e]
        exact this
  refine ty_enter (ml := 4) (ls := [_, _, _, _]) rfl rfl (Nat.le_of_ble_eq_true rfl) ?_
  refine ty_iconst (pc := 0) (n := 0) (ks := []) (by decide +kernel) ?_
  refine ty_istore_n (pc := 1) (i := 2) (ks := []) (ls' := [_, _, _, _]) (by decide +kernel) rfl ?_
  refine ty_aload_n (pc := 2) (i := 0) (ks := []) (by decide +kernel) rfl ?_
  refine ty_length (pc := 3) (ks := []) (by decide +kernel) (.inl hs) (by decide) hp hn ?_
  refine ty_istore_n (pc := 4) (i := 3) (ks := []) (ls' := [_, _, _, _]) (by decide +kernel) rfl ?_
  have := loop n 0 (by omega)
  have e : (fun j : Int => if 0 ≤ j ∧ j < ((0 : Nat) : Int) then x else S.2.2.1 a j) = S.2.2.1 a := by
    funext j
    rw [if_neg (by omega)]
  rw [e, ty_mA_self] at this
  exact this
end JDL
end
section
/-! Lists: D its row, n its size, cap the row's length; what lies in it is (s, 0), (s, 1) .. -/
def jd_al (S : ty_S) (a : ai_A) (s : Nat) (D : ai_A) (n cap : Nat) : Prop :=
  S.1 a 1 = n ∧ S.2.1 a 0 = some D ∧ n ≤ cap ∧ cap ≤ 2 * n + 10 ∧ n ≤ 1000000 ∧ ((D = (0, 1) ∧ n = 0 ∧ cap = 0) ∨ ((D.1 = 50 ∨ D.1 = 51) ∧ D.2 < S.2.2.2.2.2.2.1 D.1 ∧ S.2.2.2.2.2.1 D = cap ∧ 10 ≤ cap ∧ ∀ i : Nat, i < n → S.2.2.2.1 D i = some (s, i)))
/-- what an add leaves alone -/
def jd_fr (S S' : ty_S) (a D D' : ai_A) : Prop := (∀ b j, b ≠ a → S'.1 b j = S.1 b j) ∧ (∀ b j, b ≠ a → S'.2.1 b j = S.2.1 b j) ∧ (∀ b, b ≠ D' ∨ D' = D → S'.2.2.1 b = S.2.2.1 b) ∧ (∀ b, b ≠ D → b ≠ D' → S'.2.2.2.1 b = S.2.2.2.1 b) ∧ S'.2.2.2.2.1 = S.2.2.2.2.1 ∧ (∀ b, b ≠ D' ∨ D' = D → S'.2.2.2.2.2.1 b = S.2.2.2.2.2.1 b) ∧ (∀ s, s ≠ 50 → s ≠ 51 → S'.2.2.2.2.2.2.1 s = S.2.2.2.2.2.2.1 s) ∧ (∀ s, S.2.2.2.2.2.2.1 s ≤ S'.2.2.2.2.2.2.1 s) ∧ (D' = D ∨ (D'.2 = S.2.2.2.2.2.2.1 D'.1 ∧ (D'.1 = 50 ∨ D'.1 = 51)))
theorem jd_sk50 : ty_sk 50 = (4, 5) := by decide +kernel
theorem jd_sk51 : ty_sk 51 = (4, 5) := by decide +kernel
theorem jd_skD {D : ai_A} (h : D.1 = 50 ∨ D.1 = 51) : ty_sk D.1 = (4, 5) := by
  rcases h with h | h
  · rw [h]; exact jd_sk50
  · rw [h]; exact jd_sk51
section JDA
variable {L : Nat} {xs : Nat → Int32} {S : ty_S} {a D : ai_A} {s n cap : Nat}
theorem jd_checkIndex (d : Nat) {i n : Int} (h : 0 ≤ i ∧ i < n ∧ n ≤ 2147483647) : ty_C L xs (d + 2) 57 [.inl (ty_J i), .inl (ty_J n)] S (ty_oI fun z S' => z = i ∧ S' = S) := by
  have h1 : ty_C L xs (d + 1) 58 [.inl (ty_J i), .inl (ty_J n), .inr (.inr none)] S (ty_oI fun z S' => z = i ∧ S' = S) := by
    refine ty_enter (ml := 3) (ls := [_, _, _]) rfl rfl (Nat.le_of_ble_eq_true rfl) ?_
    refine ty_iload_n (pc := 0) (i := 0) (ks := []) (by decide +kernel) rfl ?_
    -- at 1: .ifCond .lt 8
    refine ty_if_lt (pc := 1) (off := 8) (t := 9) (ks := []) (by decide +kernel) (by omega) (fun hc => ?_) (fun hc => ?_)
    · omega
    · refine ty_iload_n (pc := 4) (i := 0) (ks := []) (by decide +kernel) rfl ?_
      refine ty_iload_n (pc := 5) (i := 1) (ks := []) (by decide +kernel) rfl ?_
      -- at 6: .if_icmp .lt 10
      refine ty_icmp_lt (pc := 6) (off := 10) (t := 16) (ks := []) (by decide +kernel) (by omega) (by omega) (fun hc => ?_) (fun hc => ?_)
      · refine ty_iload_n (pc := 16) (i := 0) (ks := []) (by decide +kernel) rfl ?_
        refine ty_ret_i (pc := 17) (ks := []) (ty := .int) (by decide +kernel) rfl rfl ?_
        exact ⟨_, rfl, rfl, rfl⟩
      · omega
  refine ty_enter (ml := 2) (ls := [_, _]) rfl rfl (Nat.le_of_ble_eq_true rfl) ?_
  refine ty_iload_n (pc := 0) (i := 0) (ks := []) (by decide +kernel) rfl ?_
  refine ty_iload_n (pc := 1) (i := 1) (ks := []) (by decide +kernel) rfl ?_
  refine ty_null (pc := 2) (ks := []) (by decide +kernel) ?_
  -- at 3: .invokestatic 105
  refine ty_calls (pc := 3) (idx := 105) (m := 58) (n := 3) (c := 0) (av := [_, _, _]) (r := []) (by decide +kernel) rfl rfl (Nat.le_of_ble_eq_true rfl) h1 ?_
  rintro _ S1 ⟨z, rfl, rfl, rfl⟩
  refine ty_KI ?_
  refine ty_ret_i (pc := 6) (ks := []) (ty := .int) (by decide +kernel) rfl rfl ?_
  exact ⟨_, rfl, rfl, rfl⟩
theorem jd_get (d : Nat) (hs : ty_sk a.1 = (1, 6)) (hp : a.2 < S.2.2.2.2.2.2.1 a.1) (hA : jd_al S a s D n cap) {i : Nat} (hi : i < n) : ty_C L xs (d + 3) 56 [.inr (.inr (some a)), .inl (ty_J i)] S (ty_oR fun z S' => z = some (s, i) ∧ S' = S) := by
  obtain ⟨h1, h2, h3, h3', h3'', ⟨-, h4, -⟩ | ⟨h4, h5, h6, h7, h8⟩⟩ := hA
  · omega
  · have hD := jd_skD h4
    refine ty_enter (ml := 2) (ls := [_, _]) rfl rfl (Nat.le_of_ble_eq_true rfl) ?_
    refine ty_iload_n (pc := 0) (i := 1) (ks := []) (by decide +kernel) rfl ?_
    refine ty_aload_n (pc := 1) (i := 0) (ks := []) (by decide +kernel) rfl ?_
    refine ty_getI (pc := 2) (idx := 48) (ci := 6) (f := 1) (by decide +kernel) hs rfl hp (fun v hv => ?_)
    rw [h1] at hv
    subst hv
    refine ty_calls (pc := 5) (idx := 118) (m := 57) (n := 2) (c := 0) (av := [_, _]) (r := []) (by decide +kernel) rfl rfl (Nat.le_of_ble_eq_true rfl) (jd_checkIndex d (by omega)) ?_
    rintro _ S1 ⟨z, rfl, rfl, rfl⟩
    refine ty_KI ?_
    refine ty_pop (pc := 8) (ks := []) (by decide +kernel) rfl ?_
    refine ty_aload_n (pc := 9) (i := 0) (ks := []) (by decide +kernel) rfl ?_
    refine ty_iload_n (pc := 10) (i := 1) (ks := []) (by decide +kernel) rfl ?_
    -- at 11: .invokevirtual 123
    have h9 : ty_C L xs (d + 2) 59 [.inr (.inr (some a)), .inl (ty_J i)] S1 (ty_oR fun z S' => z = some (s, i) ∧ S' = S1) := by
      refine ty_enter (ml := 2) (ls := [_, _]) rfl rfl (Nat.le_of_ble_eq_true rfl) ?_
      refine ty_aload_n (pc := 0) (i := 0) (ks := []) (by decide +kernel) rfl ?_
      refine ty_getS (pc := 1) (idx := 9) (ci := 6) (f := 0) (by decide +kernel) hs rfl hp h2 ?_
      refine ty_iload_n (pc := 4) (i := 1) (ks := []) (by decide +kernel) rfl ?_
      refine ty_aaload (pc := 5) (ks := []) (by decide +kernel) hD rfl h5 h6 (by omega) (fun v hv => ?_)
      rw [h8 i hi] at hv
      subst hv
      refine ty_ret_a (pc := 6) (ks := []) (ty := (.object "java/lang/Object")) (by decide +kernel) rfl rfl ?_
      exact ⟨_, rfl, rfl, rfl⟩
    refine ty_callv (pc := 11) (idx := 123) (m := 59) (n := 2) (c := 6) (vs := [_]) (r := []) (by decide +kernel) rfl rfl (Nat.le_of_ble_eq_true rfl) hs hp h9 ?_
    rintro _ S2 ⟨z, rfl, rfl, rfl⟩
    refine ty_KR ?_
    refine ty_ret_a (pc := 14) (ks := []) (ty := (.object "java/lang/Object")) (by decide +kernel) rfl rfl ?_
    exact ⟨_, rfl, rfl, rfl⟩
theorem jd_newLength (d : Nat) {o m p : Int} (h : 0 ≤ o ∧ 0 ≤ p ∧ 0 < m ∧ m ≤ 1000000 ∧ p ≤ 10000000 ∧ o ≤ 10000000) : ty_C L xs (d + 1) 52 [.inl (ty_J o), .inl (ty_J m), .inl (ty_J p)] S (ty_oI fun z S' => z = o + (if m < p then p else m) ∧ S' = S) := by
  refine ty_enter (ml := 4) (ls := [_, _, _, _]) rfl rfl (Nat.le_of_ble_eq_true rfl) ?_
  refine ty_iload_n (pc := 0) (i := 0) (ks := []) (by decide +kernel) rfl ?_
  refine ty_iload_n (pc := 1) (i := 1) (ks := []) (by decide +kernel) rfl ?_
  refine ty_iload_n (pc := 2) (i := 2) (ks := []) (by decide +kernel) rfl ?_
  refine ty_max (pc := 3) (ins := .invokestatic 194) (ks := []) (by decide +kernel) (by omega) (by omega) (Nat.le_of_ble_eq_true rfl) (fun z hz => ?_)
  -- at 6: .iadd
  have hz2 : 0 < z ∧ z ≤ 10000000 := by
    rw [← hz]
    split <;> omega
  refine ty_iadd (pc := 6) (ks := []) (by decide +kernel) ?_
  refine ty_istore_n (pc := 7) (i := 3) (ks := []) (ls' := [_, _, _, _]) (by decide +kernel) rfl ?_
  refine ty_iconst (pc := 8) (n := 0) (ks := []) (by decide +kernel) ?_
  refine ty_iload_n (pc := 9) (i := 3) (ks := []) (by decide +kernel) rfl ?_
  -- at 10: .if_icmp .ge 11
  refine ty_icmp_ge (pc := 10) (off := 11) (t := 21) (ks := []) (by decide +kernel) (by omega) (by omega) (fun hc => ?_) (fun hc => ?_)
  · omega
  · refine ty_iload_n (pc := 13) (i := 3) (ks := []) (by decide +kernel) rfl ?_
    refine ty_ldc (pc := 14) (idx := 200) (c := 2147483639) (z := 2147483639) (by decide +kernel) (by decide +kernel) ?_
    -- at 16: .if_icmp .gt 5
    refine ty_icmp_gt (pc := 16) (off := 5) (t := 21) (ks := []) (by decide +kernel) (by omega) (by omega) (fun hc => ?_) (fun hc => ?_)
    · omega
    · refine ty_iload_n (pc := 19) (i := 3) (ks := []) (by decide +kernel) rfl ?_
      -- at 20: .ireturn
      refine ty_ret_i (pc := 20) (ks := []) (ty := .int) (by decide +kernel) rfl rfl ?_
      exact ⟨_, rfl, by rw [hz], rfl⟩
/-- a copy of a list's row -/
theorem jd_copyQ (d : Nat) (h0 : 2 < S.2.2.2.2.2.2.1 0) (hD : D.1 = 50 ∨ D.1 = 51) (hp : D.2 < S.2.2.2.2.2.2.1 D.1) (hn : S.2.2.2.2.2.1 D = cap) {m : Int} (hm : (cap : Int) < m ∧ m ≤ 60000000) {cj : Nat} (hg : gt_asg 5 cj = true) (hq : ∀ i : Nat, i < cap → ∃ c : ai_A, S.2.2.2.1 D i = some c ∧ ty_sk c.1 = (1, cj) ∧ c.2 < S.2.2.2.2.2.2.1 c.1) :
    ty_C L xs (d + 2) 54 [.inr (.inr (some D)), .inl (ty_J m)] S (ty_oR fun z S' => z = some (51, S.2.2.2.2.2.2.1 51) ∧ S' = ty_mQ (ty_nA S 51 m.toNat) (51, S.2.2.2.2.2.2.1 51) (fun j => if 0 ≤ j ∧ j < cap then S.2.2.2.1 D j else none)) := by
  have hsk := jd_skD hD
  have hne : D ≠ (51, S.2.2.2.2.2.2.1 51) := by
    intro e
    rw [e] at hp
    simp at hp
  have h1 : ty_C L xs (d + 1) 55 [.inr (.inr (some D)), .inl (ty_J m), .inr (.inr (some (0, 2)))] S (ty_oR fun z S' => z = some (51, S.2.2.2.2.2.2.1 51) ∧ S' = ty_mQ (ty_nA S 51 m.toNat) (51, S.2.2.2.2.2.2.1 51) (fun j => if 0 ≤ j ∧ j < cap then S.2.2.2.1 D j else none)) := by
    refine ty_enter (ml := 4) (ls := [_, _, _, _]) rfl rfl (Nat.le_of_ble_eq_true rfl) ?_
    refine ty_aload_n (pc := 0) (i := 2) (ks := []) (by decide +kernel) rfl ?_
    -- at 1: .ldc 110
    refine ty_ldcM (pc := 1) (ins := .ldc 110) (by decide +kernel) h0 ?_
    refine ty_ext (pc := 3) (ins := .if_acmp .ne 10) (ks := [4, 13]) (pc' := 6) (st' := []) (S' := S) (by decide +kernel) (by simp [ai_ext, ai_same]) ?_
    refine ty_iload_n (pc := 6) (i := 1) (ks := []) (by decide +kernel) rfl ?_
    refine ty_newQ (pc := 7) (idx := 2) (t := 5) (s := 51) (by decide +kernel) jd_sk51 (by omega) ?_
    refine ty_goto (pc := 10) (off := 14) (t := 24) (ks := []) (by decide +kernel) ?_
    refine ty_astore_n (pc := 24) (i := 3) (ks := []) (ls' := [_, _, _, _]) (by decide +kernel) rfl ?_
    refine ty_aload_n (pc := 25) (i := 0) (ks := []) (by decide +kernel) rfl ?_
    refine ty_iconst (pc := 26) (n := 0) (ks := []) (by decide +kernel) ?_
    refine ty_aload_n (pc := 27) (i := 3) (ks := []) (by decide +kernel) rfl ?_
    refine ty_iconst (pc := 28) (n := 0) (ks := []) (by decide +kernel) ?_
    refine ty_aload_n (pc := 29) (i := 0) (ks := []) (by decide +kernel) rfl ?_
    -- at 30: .arraylength
    have hp' : D.2 < (ty_nA S 51 m.toNat).2.2.2.2.2.2.1 D.1 := by
      show D.2 < (if D.1 = 51 then S.2.2.2.2.2.2.1 51 + 1 else S.2.2.2.2.2.2.1 D.1)
      split
      · rename_i e; rw [e] at hp; omega
      · exact hp
    have hn' : (ty_nA S 51 m.toNat).2.2.2.2.2.1 D = cap := by
      show (if D = (51, S.2.2.2.2.2.2.1 51) then m.toNat else S.2.2.2.2.2.1 D) = cap
      rw [if_neg hne]; exact hn
    have hp2 : (51, S.2.2.2.2.2.2.1 51).2 < (ty_nA S 51 m.toNat).2.2.2.2.2.2.1 (51, S.2.2.2.2.2.2.1 51).1 := by
      show S.2.2.2.2.2.2.1 51 < (if 51 = 51 then S.2.2.2.2.2.2.1 51 + 1 else S.2.2.2.2.2.2.1 51)
      simp
    have hn2 : (ty_nA S 51 m.toNat).2.2.2.2.2.1 (51, S.2.2.2.2.2.2.1 51) = m.toNat := by
      show (if (51, S.2.2.2.2.2.2.1 51) = (51, S.2.2.2.2.2.2.1 51) then m.toNat else _) = m.toNat
      simp
    have hQ : (ty_nA S 51 m.toNat).2.2.2.1 D = S.2.2.2.1 D := by
      show (if D = (51, S.2.2.2.2.2.2.1 51) then (fun _ => none) else S.2.2.2.1 D) = S.2.2.2.1 D
      rw [if_neg hne]
    refine ty_length (pc := 30) (ks := []) (by decide +kernel) (.inr hsk) (by decide) hp' hn' ?_
    refine ty_iload_n (pc := 31) (i := 1) (ks := []) (by decide +kernel) rfl ?_
    refine ty_min (pc := 32) (ins := .invokestatic 304) (ks := []) (by decide +kernel) (by omega) (by omega) (Nat.le_of_ble_eq_true rfl) (fun z hz => ?_)
    -- at 35: .invokestatic 150
    rw [if_neg (by omega)] at hz
    subst hz
    refine ty_copyq (pc := 35) (ins := .invokestatic 150) (cj := cj) (by decide +kernel) hsk rfl hp' hn' jd_sk51 hp2 hn2 (by omega) hg (fun i c hi1 hi2 hc => ?_) (Nat.le_of_ble_eq_true rfl) ?_
    · rw [hQ] at hc
      obtain ⟨c', q1, q2, q3⟩ := hq i.toNat (by omega)
      rw [show ((i.toNat : Nat) : Int) = 0 + i by omega] at q1
      cases q1.symm.trans hc
      refine ⟨q2, ?_⟩
      show c.2 < (if c.1 = 51 then S.2.2.2.2.2.2.1 51 + 1 else S.2.2.2.2.2.2.1 c.1)
      split
      · rename_i e; rw [e] at q3; omega
      · exact q3
    refine ty_aload_n (pc := 38) (i := 3) (ks := []) (by decide +kernel) rfl ?_
    -- at 39: .areturn
    refine ty_ret_a (pc := 39) (ks := []) (ty := (.array (.object "java/lang/Object"))) (by decide +kernel) rfl rfl ?_
    refine ⟨_, rfl, rfl, ?_⟩
    congr 1
    funext j
    rw [hQ]
    by_cases e : 0 ≤ j ∧ j < 0 + (cap : Int)
    · rw [if_pos e, if_pos (by omega), show (0 : Int) + (j - 0) = j by omega]
    · rw [if_neg e, if_neg (by omega)]
      show (if (51, S.2.2.2.2.2.2.1 51) = (51, S.2.2.2.2.2.2.1 51) then (fun _ => none) else S.2.2.2.1 (51, S.2.2.2.2.2.2.1 51)) j = none
      simp
  refine ty_enter (ml := 2) (ls := [_, _]) rfl rfl (Nat.le_of_ble_eq_true rfl) ?_
  refine ty_aload_n (pc := 0) (i := 0) (ks := []) (by decide +kernel) rfl ?_
  refine ty_iload_n (pc := 1) (i := 1) (ks := []) (by decide +kernel) rfl ?_
  refine ty_aload_n (pc := 2) (i := 0) (ks := []) (by decide +kernel) rfl ?_
  -- at 3: .invokevirtual 86
  refine ty_getC (pc := 3) (ins := .invokevirtual 86) (by decide +kernel) h0 hsk rfl hp (Nat.le_of_ble_eq_true rfl) ?_
  refine ty_calls (pc := 6) (idx := 300) (m := 55) (n := 3) (c := 0) (av := [_, _, _]) (r := []) (by decide +kernel) rfl rfl (Nat.le_of_ble_eq_true rfl) h1 ?_
  rintro _ S1 ⟨z, rfl, rfl, rfl⟩
  refine ty_KR ?_
  refine ty_ret_a (pc := 9) (ks := []) (ty := (.array (.object "java/lang/Object"))) (by decide +kernel) rfl rfl ?_
  exact ⟨_, rfl, rfl, rfl⟩
end JDA
end
section
/-! An element more in a list. -/
/-- what it cost -/
def jd_cost (S S' : ty_S) (D D' : ai_A) (cap' : Nat) : Prop := (D' = D ∧ S'.2.2.2.2.2.2.2 = S.2.2.2.2.2.2.2) ∨ (D' ≠ D ∧ S'.2.2.2.2.2.2.2 = (S.2.2.2.2.2.2.2.1 + 1, S.2.2.2.2.2.2.2.2 + cap'))
section JDB
variable {L : Nat} {xs : Nat → Int32} {S : ty_S} {a D : ai_A} {s n cap cj : Nat}
theorem jd_grow (d : Nat) (hs : ty_sk a.1 = (1, 6)) (hp : a.2 < S.2.2.2.2.2.2.1 a.1) (ha : a.1 ≠ 50 ∧ a.1 ≠ 51) (h0 : 2 < S.2.2.2.2.2.2.1 0) (hA : jd_al S a s D n cap) (hc : n = cap) (hk : ty_sk s = (1, cj)) (hg : gt_asg 5 cj = true) (hm : n ≤ S.2.2.2.2.2.2.1 s) :
    ty_C L xs (d + 4) 50 [.inr (.inr (some a))] S (ty_oR fun z S' => ∃ (D' : ai_A) (cap' : Nat), z = some D' ∧ D' ≠ D ∧ jd_al S' a s D' n cap' ∧ n < cap' ∧ (D'.1 = 50 ∨ D'.1 = 51) ∧ jd_fr S S' a D D' ∧ (∀ j, j ≠ 0 → S'.2.1 a j = S.2.1 a j) ∧ S'.1 = S.1 ∧ jd_cost S S' D D' cap') := by
  obtain ⟨h1, h2, h3, h3', h3'', h4⟩ := hA
  have h9 : ty_C L xs (d + 3) 51 [.inr (.inr (some a)), .inl (ty_J ((n : Int) + 1))] S (ty_oR fun z S' => ∃ (D' : ai_A) (cap' : Nat), z = some D' ∧ D' ≠ D ∧ jd_al S' a s D' n cap' ∧ n < cap' ∧ (D'.1 = 50 ∨ D'.1 = 51) ∧ jd_fr S S' a D D' ∧ (∀ j, j ≠ 0 → S'.2.1 a j = S.2.1 a j) ∧ S'.1 = S.1 ∧ jd_cost S S' D D' cap') := by
    refine ty_enter (ml := 4) (ls := [_, _, _, _]) rfl rfl (Nat.le_of_ble_eq_true rfl) ?_
    refine ty_aload_n (pc := 0) (i := 0) (ks := []) (by decide +kernel) rfl ?_
    refine ty_getS (pc := 1) (idx := 9) (ci := 6) (f := 0) (by decide +kernel) hs rfl hp h2 ?_
    rcases h4 with ⟨rfl, hn0, hc0⟩ | ⟨h4, h5, h6, h7, h8⟩
    · refine ty_lengthE (pc := 4) (ks := []) (by decide +kernel) (by omega) ?_
      refine ty_istore_n (pc := 5) (i := 2) (ks := []) (ls' := [_, _, _, _]) (by decide +kernel) rfl ?_
      refine ty_iload_n (pc := 6) (i := 2) (ks := []) (by decide +kernel) rfl ?_
      -- at 7: .ifCond .gt 13
      refine ty_if_gt (pc := 7) (off := 13) (t := 20) (ks := []) (by decide +kernel) (by omega) (fun hc => ?_) (fun hc => ?_)
      · omega
      · refine ty_aload_n (pc := 10) (i := 0) (ks := []) (by decide +kernel) rfl ?_
        refine ty_getS (pc := 11) (idx := 9) (ci := 6) (f := 0) (by decide +kernel) hs rfl hp h2 ?_
        refine ty_empty (pc := 14) (ins := .getstatic 39) (by decide +kernel) (by omega) ?_
        refine ty_ext (pc := 17) (ins := .if_acmp .eq 28) (ks := [3, 45]) (pc' := 45) (st' := []) (S' := S) (by decide +kernel) (by simp [ai_ext, ai_same]) ?_
        refine ty_aload_n (pc := 45) (i := 0) (ks := []) (by decide +kernel) rfl ?_
        refine ty_bipush (pc := 46) (n := 10) (ks := []) (by decide +kernel) (by omega) ?_
        refine ty_iload_n (pc := 48) (i := 1) (ks := []) (by decide +kernel) rfl ?_
        refine ty_max (pc := 49) (ins := .invokestatic 79) (ks := []) (by decide +kernel) (by omega) (by omega) (Nat.le_of_ble_eq_true rfl) (fun z hz => ?_)
        -- at 52: .anewarray 7
        rw [if_neg (by omega)] at hz
        subst hz
        refine ty_newQ (pc := 52) (idx := 7) (t := 5) (s := 50) (by decide +kernel) jd_sk50 (by omega) ?_
        refine ty_dup_x1 (pc := 55) (ks := []) (by decide +kernel) rfl rfl ?_
        -- at 56: .putfield 9
        have hp' : a.2 < (ty_nA S 50 (10 : Int).toNat).2.2.2.2.2.2.1 a.1 := by
          show a.2 < (if a.1 = 50 then S.2.2.2.2.2.2.1 50 + 1 else S.2.2.2.2.2.2.1 a.1)
          rw [if_neg ha.1]; exact hp
        refine ty_putR (pc := 56) (idx := 9) (ci := 6) (f := 0) (by decide +kernel) hs rfl rfl hp' ?_
        refine ty_ret_a (pc := 59) (ks := []) (ty := (.array (.object "java/lang/Object"))) (by decide +kernel) rfl rfl ?_
        have hne : ((50 : Nat), S.2.2.2.2.2.2.1 50) ≠ (0, 1) := by simp
        refine ⟨_, rfl, (50, S.2.2.2.2.2.2.1 50), 10, rfl, hne, ⟨h1, ?_, by omega, by omega, by omega, .inr ⟨.inl rfl, ?_, ?_, by omega, fun i hi => ?_⟩⟩, by omega, .inl rfl, ⟨fun b j hb => rfl, fun b j hb => ?_, fun b hb => ?_, fun b hb hb2 => ?_, ?_, fun b hb => ?_, fun t ht ht2 => ?_, fun t => ?_, .inr ⟨rfl, .inl rfl⟩⟩, fun j hj => ?_, rfl, .inr ⟨hne, rfl⟩⟩
        · simp [ty_sR]
        · simp [ty_sR, ty_nA]
        · simp [ty_sR, ty_nA]
        · omega
        · simp [ty_sR, ty_nA, hb]
        · rcases hb with hb | hb
          · simp [ty_sR, ty_nA, hb]
          · exact absurd hb hne
        · simp [ty_sR, ty_nA, hb2]
        · simp [ty_sR, ty_nA, jd_sk50]
        · rcases hb with hb | hb
          · simp [ty_sR, ty_nA, hb]
          · exact absurd hb hne
        · simp [ty_sR, ty_nA, ht]
        · simp only [ty_sR, ty_nA]
          split
          · rename_i e; rw [e]; omega
          · omega
        · simp [ty_sR, ty_nA, hj]
    · have hsk := jd_skD h4
      refine ty_length (pc := 4) (ks := []) (by decide +kernel) (.inr hsk) (by decide) h5 h6 ?_
      refine ty_istore_n (pc := 5) (i := 2) (ks := []) (ls' := [_, _, _, _]) (by decide +kernel) rfl ?_
      refine ty_iload_n (pc := 6) (i := 2) (ks := []) (by decide +kernel) rfl ?_
      -- at 7: .ifCond .gt 13
      refine ty_if_gt (pc := 7) (off := 13) (t := 20) (ks := []) (by decide +kernel) (by omega) (fun hc => ?_) (fun hc => ?_)
      · refine ty_iload_n (pc := 20) (i := 2) (ks := []) (by decide +kernel) rfl ?_
        refine ty_iload_n (pc := 21) (i := 1) (ks := []) (by decide +kernel) rfl ?_
        refine ty_iload_n (pc := 22) (i := 2) (ks := []) (by decide +kernel) rfl ?_
        refine ty_isub (pc := 23) (ks := []) (by decide +kernel) ?_
        refine ty_iload_n (pc := 24) (i := 2) (ks := []) (by decide +kernel) rfl ?_
        refine ty_iconst (pc := 25) (n := 1) (ks := []) (by decide +kernel) ?_
        -- at 26: .ishr
        refine ty_ishr1 (pc := 26) (ks := []) (by decide +kernel) (by omega) ?_
        refine ty_calls (pc := 27) (idx := 73) (m := 52) (n := 3) (c := 0) (av := [_, _, _]) (r := []) (by decide +kernel) rfl rfl (Nat.le_of_ble_eq_true rfl) (jd_newLength _ (by omega)) ?_
        rintro _ S1 ⟨z, rfl, rfl, rfl⟩
        refine ty_KI ?_
        have hz : ∃ m : Nat, (cap : Int) + (if (n : Int) + 1 - (cap : Int) < (cap : Int) / 2 then (cap : Int) / 2 else (n : Int) + 1 - (cap : Int)) = m ∧ cap < m ∧ m ≤ 2 * cap := by
          refine ⟨cap + cap / 2, ?_, by omega, by omega⟩
          rw [if_pos (by omega)]
          omega
        obtain ⟨m, hz1, hz2, hz3⟩ := hz
        rw [hz1]
        refine ty_istore_n (pc := 30) (i := 3) (ks := []) (ls' := [_, _, _, _]) (by decide +kernel) rfl ?_
        refine ty_aload_n (pc := 31) (i := 0) (ks := []) (by decide +kernel) rfl ?_
        refine ty_aload_n (pc := 32) (i := 0) (ks := []) (by decide +kernel) rfl ?_
        refine ty_getS (pc := 33) (idx := 9) (ci := 6) (f := 0) (by decide +kernel) hs rfl hp h2 ?_
        refine ty_iload_n (pc := 36) (i := 3) (ks := []) (by decide +kernel) rfl ?_
        refine ty_calls (pc := 37) (idx := 66) (m := 54) (n := 2) (c := 0) (av := [_, _]) (r := [_]) (by decide +kernel) rfl rfl (Nat.le_of_ble_eq_true rfl) (jd_copyQ d h0 h4 h5 h6 (m := m) (by omega) hg (fun i hi => ⟨(s, i), h8 i (by omega), hk, by show i < S1.2.2.2.2.2.2.1 s; omega⟩)) ?_
        rintro _ S2 ⟨z, rfl, rfl, rfl⟩
        refine ty_KR ?_
        refine ty_dup_x1 (pc := 40) (ks := []) (by decide +kernel) rfl rfl ?_
        have hp' : a.2 < (ty_mQ (ty_nA S1 51 (m : Int).toNat) (51, S1.2.2.2.2.2.2.1 51) (fun j => if 0 ≤ j ∧ j < (cap : Int) then S1.2.2.2.1 D j else none)).2.2.2.2.2.2.1 a.1 := by
          show a.2 < (if a.1 = 51 then S1.2.2.2.2.2.2.1 51 + 1 else S1.2.2.2.2.2.2.1 a.1)
          rw [if_neg ha.2]; exact hp
        refine ty_putR (pc := 41) (idx := 9) (ci := 6) (f := 0) (by decide +kernel) hs rfl rfl hp' ?_
        refine ty_ret_a (pc := 44) (ks := []) (ty := (.array (.object "java/lang/Object"))) (by decide +kernel) rfl rfl ?_
        have hne : ((51 : Nat), S1.2.2.2.2.2.2.1 51) ≠ D := by
          intro e
          rw [← e] at h5
          simp at h5
        refine ⟨_, rfl, (51, S1.2.2.2.2.2.2.1 51), m, rfl, hne, ⟨h1, ?_, by omega, by omega, by omega, .inr ⟨.inr rfl, ?_, ?_, by omega, fun i hi => ?_⟩⟩, by omega, .inr rfl, ⟨fun b j hb => rfl, fun b j hb => ?_, fun b hb => ?_, fun b hb hb2 => ?_, ?_, fun b hb => ?_, fun t ht ht2 => ?_, fun t => ?_, .inr ⟨rfl, .inr rfl⟩⟩, fun j hj => ?_, rfl, .inr ⟨hne, ?_⟩⟩
        · simp [ty_sR]
        · simp [ty_sR, ty_mQ, ty_nA]
        · simp [ty_sR, ty_mQ, ty_nA]
        · simp only [ty_sR, ty_mQ, if_true]
          rw [if_pos (by omega)]
          exact h8 i (by omega)
        · simp [ty_sR, ty_mQ, ty_nA, hb]
        · rcases hb with hb | hb
          · simp [ty_sR, ty_mQ, ty_nA, hb]
          · exact absurd hb hne
        · simp [ty_sR, ty_mQ, ty_nA, hb2]
        · simp [ty_sR, ty_mQ, ty_nA, jd_sk51]
        · rcases hb with hb | hb
          · simp [ty_sR, ty_mQ, ty_nA, hb]
          · exact absurd hb hne
        · simp [ty_sR, ty_mQ, ty_nA, ht2]
        · simp only [ty_sR, ty_mQ, ty_nA]
          split
          · rename_i e; rw [e]; omega
          · omega
        · simp [ty_sR, ty_mQ, ty_nA, hj]
        · simp [ty_sR, ty_mQ, ty_nA]
      · omega
  refine ty_enter (ml := 1) (ls := [_]) rfl rfl (Nat.le_of_ble_eq_true rfl) ?_
  refine ty_aload_n (pc := 0) (i := 0) (ks := []) (by decide +kernel) rfl ?_
  refine ty_aload_n (pc := 1) (i := 0) (ks := []) (by decide +kernel) rfl ?_
  refine ty_getI (pc := 2) (idx := 48) (ci := 6) (f := 1) (by decide +kernel) hs rfl hp (fun v hv => ?_)
  rw [h1] at hv
  subst hv
  refine ty_iconst (pc := 5) (n := 1) (ks := []) (by decide +kernel) ?_
  refine ty_iadd (pc := 6) (ks := []) (by decide +kernel) ?_
  -- at 7: .invokevirtual 69
  refine ty_callv (pc := 7) (idx := 69) (m := 51) (n := 2) (c := 6) (vs := [_]) (r := []) (by decide +kernel) rfl rfl (Nat.le_of_ble_eq_true rfl) hs hp h9 ?_
  rintro _ S2 ⟨z, rfl, hq⟩
  refine ty_KR ?_
  refine ty_ret_a (pc := 10) (ks := []) (ty := (.array (.object "java/lang/Object"))) (by decide +kernel) rfl rfl ?_
  exact ⟨_, rfl, hq⟩
/-- add -/
theorem jd_add (d : Nat) (hs : ty_sk a.1 = (1, 6)) (hp : a.2 < S.2.2.2.2.2.2.1 a.1) (ha : a.1 ≠ 50 ∧ a.1 ≠ 51) (h0 : 2 < S.2.2.2.2.2.2.1 0) (hA : jd_al S a s D n cap) (hk : ty_sk s = (1, cj)) (hg : gt_asg 5 cj = true) (hm : n < S.2.2.2.2.2.2.1 s) (hn : n < 1000000) (hs5 : s ≠ 50 ∧ s ≠ 51) :
    ty_C L xs (d + 6) 48 [.inr (.inr (some a)), .inr (.inr (some (s, n)))] S (ty_oI fun z S' => ∃ (D' : ai_A) (cap' : Nat), jd_al S' a s D' (n + 1) cap' ∧ jd_fr S S' a D D' ∧ (∀ j, j ≠ 0 → S'.2.1 a j = S.2.1 a j) ∧ jd_cost S S' D D' cap') := by
  have h3 : ∀ S0 : ty_S, S0.2 = S.2 → (∀ b j, b ≠ a ∨ j ≠ 2 → S0.1 b j = S.1 b j) → ty_C L xs (d + 5) 49 [.inr (.inr (some a)), .inr (.inr (some (s, n))), .inr (.inr (some D)), .inl (ty_J n)] S0 (ty_oV fun S' => ∃ (D' : ai_A) (cap' : Nat), jd_al S' a s D' (n + 1) cap' ∧ jd_fr S0 S' a D D' ∧ (∀ j, j ≠ 0 → S'.2.1 a j = S0.2.1 a j) ∧ jd_cost S0 S' D D' cap') := by
    intro S0 e1 e2
    have hp0 : a.2 < S0.2.2.2.2.2.2.1 a.1 := by rw [e1]; exact hp
    have hA0 : jd_al S0 a s D n cap := by
      unfold jd_al at hA ⊢
      rw [e1, e2 a 1 (.inr (by decide))]
      exact hA
    -- the end of it, from any state with room
    have fin : ∀ (S1 : ty_S) (D1 : ai_A) (cap1 : Nat) (v2 : Option ai_A), jd_al S1 a s D1 n cap1 → n < cap1 → jd_fr S0 S1 a D D1 → (∀ j, j ≠ 0 → S1.2.1 a j = S0.2.1 a j) → jd_cost S0 S1 D D1 cap1 → v2 = some D1 → a.2 < S1.2.2.2.2.2.2.1 a.1 → n < S1.2.2.2.2.2.2.1 s →
        ty_W L xs (d + 4) 49 11 [some (.inr (.inr (some a))), some (.inr (.inr (some (s, n)))), some (.inr (.inr v2)), some (.inl (ty_J n))] [] S1 (ty_oV fun S' => ∃ (D' : ai_A) (cap' : Nat), jd_al S' a s D' (n + 1) cap' ∧ jd_fr S0 S' a D D' ∧ (∀ j, j ≠ 0 → S'.2.1 a j = S0.2.1 a j) ∧ jd_cost S0 S' D D' cap') := by
      rintro S1 D1 cap1 v2 hA1 hlt hfr hfr2 hco rfl hp1 hs1
      obtain ⟨a1, a2, a3, a4, a4', ⟨-, -, a5⟩ | ⟨a5, a6, a7, a8, a9⟩⟩ := hA1
      · omega
      · have hsk := jd_skD a5
        refine ty_aload_n (pc := 11) (i := 2) (ks := []) (by decide +kernel) rfl ?_
        refine ty_iload_n (pc := 12) (i := 3) (ks := []) (by decide +kernel) rfl ?_
        refine ty_aload_n (pc := 13) (i := 1) (ks := []) (by decide +kernel) rfl ?_
        -- at 14: .aastore
        refine ty_aastore (pc := 14) (ks := []) (cj := cj) (by decide +kernel) hsk a6 a7 (by omega) hk hs1 hg ?_
        refine ty_aload_n (pc := 15) (i := 0) (ks := []) (by decide +kernel) rfl ?_
        refine ty_iload_n (pc := 16) (i := 3) (ks := []) (by decide +kernel) rfl ?_
        refine ty_iconst (pc := 17) (n := 1) (ks := []) (by decide +kernel) ?_
        refine ty_iadd (pc := 18) (ks := []) (by decide +kernel) ?_
        -- at 19: .putfield 48
        refine ty_putI (pc := 19) (idx := 48) (ci := 6) (f := 1) (by decide +kernel) hs rfl rfl hp1 ?_
        refine ty_ret_v (pc := 22) (ks := []) (by decide +kernel) rfl ?_
        obtain ⟨f1, f2, f3, f4, f5, f6, f7, f8, f9⟩ := hfr
        refine ⟨rfl, D1, cap1, ⟨?_, a2, by omega, by omega, by omega, .inr ⟨a5, a6, a7, a8, fun i hi => ?_⟩⟩, ⟨fun b j hb => ?_, f2, f3, fun b hb hb2 => ?_, f5, f6, f7, f8, f9⟩, hfr2, hco⟩
        · simp [ty_sI]
        · simp only [ty_sI, ty_sQ]
          by_cases e : i = n
          · rw [if_pos ⟨trivial, by omega⟩, e]
          · rw [if_neg (fun z => e (by omega))]
            exact a9 i (by omega)
        · simp only [ty_sI, ty_sQ]
          rw [if_neg (fun z => hb z.1)]
          exact f1 b j hb
        · rw [← f4 b hb hb2]
          funext j
          simp only [ty_sI, ty_sQ]
          rw [if_neg (fun z => hb2 z.1)]
    have hA0' := hA0
    obtain ⟨a1, a2, a3, a4, a4', a5⟩ := hA0
    refine ty_enter (ml := 4) (ls := [_, _, _, _]) rfl rfl (Nat.le_of_ble_eq_true rfl) ?_
    refine ty_iload_n (pc := 0) (i := 3) (ks := []) (by decide +kernel) rfl ?_
    refine ty_aload_n (pc := 1) (i := 2) (ks := []) (by decide +kernel) rfl ?_
    have hgr := fun (hc : n = cap) => jd_grow (L := L) (xs := xs) d hs hp0 ha (by rw [e1]; exact h0) hA0' hc hk hg (by rw [e1]; omega)
    have more : ∀ hc : n = cap, ty_W L xs (d + 4) 49 6 [some (.inr (.inr (some a))), some (.inr (.inr (some (s, n)))), some (.inr (.inr (some D))), some (.inl (ty_J n))] [] S0 (ty_oV fun S' => ∃ (D' : ai_A) (cap' : Nat), jd_al S' a s D' (n + 1) cap' ∧ jd_fr S0 S' a D D' ∧ (∀ j, j ≠ 0 → S'.2.1 a j = S0.2.1 a j) ∧ jd_cost S0 S' D D' cap') := by
      intro hc
      refine ty_aload_n (pc := 6) (i := 0) (ks := []) (by decide +kernel) rfl ?_
      refine ty_callv (pc := 7) (idx := 129) (m := 50) (n := 1) (c := 6) (vs := []) (r := []) (by decide +kernel) rfl rfl (Nat.le_of_ble_eq_true rfl) hs hp0 (hgr hc) ?_
      rintro _ S1 ⟨z, rfl, D1, cap1, rfl, hne, b1, b2, b3, b4, b5, b6, b7⟩
      refine ty_KR ?_
      refine ty_astore_n (pc := 10) (i := 2) (ks := []) (ls' := [_, _, _, _]) (by decide +kernel) rfl ?_
      refine fin S1 D1 cap1 _ b1 b2 b4 b5 b7 rfl ?_ ?_
      · have := b4.2.2.2.2.2.2.2.1 a.1
        omega
      · rw [b4.2.2.2.2.2.2.1 s hs5.1 hs5.2, e1]
        exact hm
    rcases a5 with ⟨a6, a7, a8⟩ | ⟨a6, a7, a8, a9, a10⟩
    · subst a6
      refine ty_lengthE (pc := 2) (ks := []) (by decide +kernel) (by rw [e1]; omega) ?_
      refine ty_icmp_ne (pc := 3) (off := 8) (t := 11) (ks := []) (by decide +kernel) (by omega) (by omega) (fun hc => ?_) (fun hc => ?_)
      · omega
      · exact more (by omega)
    · refine ty_length (pc := 2) (ks := []) (by decide +kernel) (.inr (jd_skD a6)) (by decide) a7 a8 ?_
      refine ty_icmp_ne (pc := 3) (off := 8) (t := 11) (ks := []) (by decide +kernel) (by omega) (by omega) (fun hc => ?_) (fun hc => ?_)
      · refine fin S0 D cap _ hA0' (by omega) ⟨fun b j hb => rfl, fun b j hb => rfl, fun b hb => rfl, fun b hb hb2 => rfl, rfl, fun b hb => rfl, fun t ht ht2 => rfl, fun t => Nat.le_refl _, .inl rfl⟩ (fun j hj => rfl) (.inl ⟨rfl, rfl⟩) rfl hp0 (by rw [e1]; exact hm)
      · exact more (by omega)
  have hA' := hA
  obtain ⟨a1, a2, -⟩ := hA
  refine ty_enter (ml := 2) (ls := [_, _]) rfl rfl (Nat.le_of_ble_eq_true rfl) ?_
  refine ty_aload_n (pc := 0) (i := 0) (ks := []) (by decide +kernel) rfl ?_
  refine ty_dup (pc := 1) (ks := []) (by decide +kernel) rfl ?_
  refine ty_getI (pc := 2) (idx := 63) (ci := 6) (f := 2) (by decide +kernel) hs rfl hp (fun v hv => ?_)
  refine ty_iconst (pc := 5) (n := 1) (ks := []) (by decide +kernel) ?_
  refine ty_iadd (pc := 6) (ks := []) (by decide +kernel) ?_
  -- at 7: .putfield 63
  refine ty_putI (pc := 7) (idx := 63) (ci := 6) (f := 2) (by decide +kernel) hs rfl rfl hp ?_
  refine ty_aload_n (pc := 10) (i := 0) (ks := []) (by decide +kernel) rfl ?_
  refine ty_aload_n (pc := 11) (i := 1) (ks := []) (by decide +kernel) rfl ?_
  refine ty_aload_n (pc := 12) (i := 0) (ks := []) (by decide +kernel) rfl ?_
  refine ty_getS (pc := 13) (idx := 9) (ci := 6) (f := 0) (by decide +kernel) hs rfl hp a2 ?_
  refine ty_aload_n (pc := 16) (i := 0) (ks := []) (by decide +kernel) rfl ?_
  refine ty_getI (pc := 17) (idx := 48) (ci := 6) (f := 1) (by decide +kernel) hs rfl hp (fun w hw => ?_)
  have hw2 : w = n := by
    rw [← hw, ← a1]
    simp [ty_sI]
  subst hw2
  refine ty_callv (pc := 20) (idx := 131) (m := 49) (n := 4) (c := 6) (vs := [_, _, _]) (r := []) (by decide +kernel) rfl rfl (Nat.le_of_ble_eq_true rfl) hs hp (h3 (ty_sI S a 2 (v + 1)) rfl (fun b j hb => by
    simp only [ty_sI]
    rw [if_neg (fun z => hb.elim (fun w => w z.1) (fun w => w z.2))])) ?_
  rintro _ S1 ⟨rfl, D', cap', c1, c2, c3, c4⟩
  refine ty_KV ?_
  refine ty_iconst (pc := 23) (n := 1) (ks := []) (by decide +kernel) ?_
  -- at 24: .ireturn
  refine ty_ret_i (pc := 24) (ks := []) (ty := .boolean) (by decide +kernel) rfl (ty_fit_z (by omega)) ?_
  obtain ⟨f1, f2⟩ := c2
  refine ⟨_, rfl, D', cap', c1, ⟨fun b j hb => ?_, f2⟩, c3, c4⟩
  rw [f1 b j hb]
  simp only [ty_sI]
  rw [if_neg (fun z => hb z.1)]
end JDB
end
section
/-! The class's variables: making them, sleepers. -/
section CVS
variable {L : Nat} {xs : Nat → Int32} {S : ty_S} {B F E : ai_A} {n : Nat}
theorem cv_clear (d : Nat) (hS : ty_st S) : ty_C L xs (d + 1) 39 [.inr (.inr (some (13, 0)))] S (ty_oV fun S' => S' = ty_sI (ty_sI (ty_sI (ty_sI (ty_sI S (13, 0) 4 0) (13, 0) 5 0) (13, 0) 7 0) (13, 0) 10 0) (13, 0) 13 0) := by
  refine ty_enter (ml := 1) (ls := [_]) rfl rfl (Nat.le_of_ble_eq_true rfl) ?_
  refine ty_aload_n (pc := 0) (i := 0) (ks := []) (by decide +kernel) rfl ?_
  refine ty_iconst (pc := 1) (n := 0) (ks := []) (by decide +kernel) ?_
  refine ty_putI (pc := 2) (idx := 21) (ci := 2) (f := 4) (by decide +kernel) (by first | rfl | assumption) rfl rfl (by first | exact hS.1 _ _ rfl | assumption) ?_
  refine ty_aload_n (pc := 5) (i := 0) (ks := []) (by decide +kernel) rfl ?_
  refine ty_iconst (pc := 6) (n := 0) (ks := []) (by decide +kernel) ?_
  refine ty_putI (pc := 7) (idx := 25) (ci := 2) (f := 5) (by decide +kernel) (by first | rfl | assumption) rfl rfl (by first | exact hS.1 _ _ rfl | assumption) ?_
  refine ty_aload_n (pc := 10) (i := 0) (ks := []) (by decide +kernel) rfl ?_
  refine ty_iconst (pc := 11) (n := 0) (ks := []) (by decide +kernel) ?_
  refine ty_putI (pc := 12) (idx := 31) (ci := 2) (f := 7) (by decide +kernel) (by first | rfl | assumption) rfl rfl (by first | exact hS.1 _ _ rfl | assumption) ?_
  refine ty_aload_n (pc := 15) (i := 0) (ks := []) (by decide +kernel) rfl ?_
  refine ty_iconst (pc := 16) (n := 0) (ks := []) (by decide +kernel) ?_
  refine ty_putI (pc := 17) (idx := 40) (ci := 2) (f := 10) (by decide +kernel) (by first | rfl | assumption) rfl rfl (by first | exact hS.1 _ _ rfl | assumption) ?_
  refine ty_aload_n (pc := 20) (i := 0) (ks := []) (by decide +kernel) rfl ?_
  refine ty_iconst (pc := 21) (n := 0) (ks := []) (by decide +kernel) ?_
  refine ty_putI (pc := 22) (idx := 49) (ci := 2) (f := 13) (by decide +kernel) (by first | rfl | assumption) rfl rfl (by first | exact hS.1 _ _ rfl | assumption) ?_
  refine ty_ret_v (pc := 25) (ks := []) (by decide +kernel) rfl ?_
  exact ⟨rfl, rfl⟩
/-- a chain linked behind those that sleep on v -/
def cv_lk (S : ty_S) (F E : ai_A) (v first last gc : Int) : ty_S :=
  ty_sA (if S.2.2.1 E v = -1 then ty_sA (ty_sI (ty_sA (ty_sA S (29, 0) gc v) (30, 0) gc (S.2.2.1 E v)) (13, 0) 13 (gc + 1)) F v first
    else ty_sA (ty_sI (ty_sA (ty_sA S (29, 0) gc v) (30, 0) gc (S.2.2.1 E v)) (13, 0) 13 (gc + 1)) (28, 0) (S.2.2.1 E v) first) E v last
theorem cv_linkBehind (d : Nat) (hS : ty_st S) (hV : cv_sh S B F E n) {v first last gc : Int} (hv : 0 ≤ v ∧ v < n) (hf : -1 ≤ first ∧ first < 500) (hg : S.1 (13, 0) 13 = gc) (hr : 0 ≤ gc ∧ gc < 500) (he : -1 ≤ S.2.2.1 E v ∧ S.2.2.1 E v < 500) :
    ty_C L xs (d + 1) 80 [.inr (.inr (some (13, 0))), .inl (ty_J v), .inl (ty_J first), .inl (ty_J last)] S (ty_oV fun S' => S' = if first = -1 then S else cv_lk S F E v first last gc) := by
  have n29 := cv_ne hV (s := 29) (i := 0) (by decide)
  have n30 := cv_ne hV (s := 30) (i := 0) (by decide)
  have n28 := cv_ne hV (s := 28) (i := 0) (by decide)
  have hne := And.intro n29 (And.intro n30 n28)
  obtain ⟨⟨b1, b2, b3⟩, ⟨k1, k2, k3⟩, ⟨p1, p2, p3⟩, ⟨n1, n2, n3⟩, -, -, hn⟩ := hV
  subst hg
  refine ty_enter (ml := 4) (ls := [_, _, _, _]) rfl rfl (Nat.le_of_ble_eq_true rfl) ?_
  refine ty_iload_n (pc := 0) (i := 2) (ks := []) (by decide +kernel) rfl ?_
  refine ty_iconst (pc := 1) (n := (-1)) (ks := []) (by decide +kernel) ?_
  -- at 2: .if_icmp .eq 13
  refine ty_icmp_eq (pc := 2) (off := 13) (t := 15) (ks := []) (by decide +kernel) (by omega) (by omega) (fun hc => ?_) (fun hc => ?_)
  · refine ty_ret_v (pc := 15) (ks := []) (by decide +kernel) rfl ?_
    rw [if_pos hc]
    exact ⟨rfl, rfl⟩
  · refine ty_aload_n (pc := 5) (i := 0) (ks := []) (by decide +kernel) rfl ?_
    refine ty_getI (pc := 6) (idx := 49) (ci := 2) (f := 13) (by decide +kernel) (by first | rfl | assumption) rfl (by first | exact hS.1 _ _ rfl | assumption) (fun v hv => ?_)
    subst hv
    refine ty_sipush (pc := 9) (n := 500) (ks := []) (by decide +kernel) (by omega) ?_
    -- at 12: .if_icmp .lt 4
    rw [if_neg hc]
    refine ty_icmp_lt (pc := 12) (off := 4) (t := 16) (ks := []) (by decide +kernel) (by omega) (by omega) (fun hc => ?_) (fun hc => ?_)
    · refine ty_aload_n (pc := 16) (i := 0) (ks := []) (by decide +kernel) rfl ?_
      refine ty_getS (b := (29, 0)) (pc := 17) (idx := 43) (ci := 2) (f := 11) (by decide +kernel) (by first | rfl | assumption) rfl (by first | exact hS.1 _ _ rfl | assumption) (by first | exact hS.2.2 _ _ _ _ rfl | assumption) ?_
      refine ty_aload_n (pc := 20) (i := 0) (ks := []) (by decide +kernel) rfl ?_
      refine ty_getI (pc := 21) (idx := 49) (ci := 2) (f := 13) (by decide +kernel) (by first | rfl | assumption) rfl (by first | exact hS.1 _ _ rfl | assumption) (fun v hv => ?_)
      subst hv
      refine ty_iload_n (pc := 24) (i := 1) (ks := []) (by decide +kernel) rfl ?_
      refine ty_iastore (pc := 25) (ks := []) (by decide +kernel) (by first | rfl | assumption) (by rfl) (by first | exact hS.1 _ _ rfl | assumption) (by first | exact hS.2.1 _ _ _ rfl | assumption) (by omega) ?_
      refine ty_aload_n (pc := 26) (i := 0) (ks := []) (by decide +kernel) rfl ?_
      refine ty_getS (b := (30, 0)) (pc := 27) (idx := 46) (ci := 2) (f := 12) (by decide +kernel) (by first | rfl | assumption) rfl (by first | exact hS.1 _ _ rfl | assumption) (by first | exact hS.2.2 _ _ _ _ rfl | assumption) ?_
      refine ty_aload_n (pc := 30) (i := 0) (ks := []) (by decide +kernel) rfl ?_
      refine ty_getI (pc := 31) (idx := 49) (ci := 2) (f := 13) (by decide +kernel) (by first | rfl | assumption) rfl (by first | exact hS.1 _ _ rfl | assumption) (fun v hv => ?_)
      first | simp (decide := true) only [ty_sI, ty_sR, ty_sA, ty_sQ, ty_mA, ty_mQ, ↓reduceIte, false_and, and_false, true_and, and_true, and_self, hne] at hv | simp (decide := true) only [ty_sI, ty_sR, ty_sA, ty_sQ, ty_mA, ty_mQ, ↓reduceIte, false_and, and_false, true_and, and_true, and_self] at hv | skip
      subst hv
      refine ty_aload_n (pc := 34) (i := 0) (ks := []) (by decide +kernel) rfl ?_
      first | refine ty_getS (pc := 35) (idx := 18) (ci := 2) (f := 3) (by decide +kernel) (by first | rfl | assumption) rfl (by first | exact hS.1 _ _ rfl | assumption) (by assumption) ?_ | (refine ty_getR (pc := 35) (idx := 18) (ci := 2) (f := 3) (by decide +kernel) (by first | rfl | assumption) rfl (by first | exact hS.1 _ _ rfl | assumption) (fun v hv => ?_); (first | simp (decide := true) only [ty_sI, ty_sR, ty_sA, ty_sQ, ty_mA, ty_mQ, ↓reduceIte, false_and, and_false, true_and, and_true, and_self, hne] at hv | simp (decide := true) only [ty_sI, ty_sR, ty_sA, ty_sQ, ty_mA, ty_mQ, ↓reduceIte, false_and, and_false, true_and, and_true, and_self] at hv | skip); (subst hv))
      refine ty_iload_n (pc := 38) (i := 1) (ks := []) (by decide +kernel) rfl ?_
      refine ty_iaload (pc := 39) (ks := []) (by decide +kernel) (by first | rfl | assumption) (by rfl) (by first | exact hS.1 _ _ rfl | assumption) (by first | exact hS.2.1 _ _ _ rfl | assumption) (by omega) (fun v hv => ?_)
      first | simp (decide := true) only [ty_sI, ty_sR, ty_sA, ty_sQ, ty_mA, ty_mQ, ↓reduceIte, false_and, and_false, true_and, and_true, and_self, hne] at hv | simp (decide := true) only [ty_sI, ty_sR, ty_sA, ty_sQ, ty_mA, ty_mQ, ↓reduceIte, false_and, and_false, true_and, and_true, and_self] at hv | skip
      subst hv
      refine ty_iastore (pc := 40) (ks := []) (by decide +kernel) (by first | rfl | assumption) (by rfl) (by first | exact hS.1 _ _ rfl | assumption) (by first | exact hS.2.1 _ _ _ rfl | assumption) (by omega) ?_
      refine ty_aload_n (pc := 41) (i := 0) (ks := []) (by decide +kernel) rfl ?_
      refine ty_dup (pc := 42) (ks := []) (by decide +kernel) rfl ?_
      refine ty_getI (pc := 43) (idx := 49) (ci := 2) (f := 13) (by decide +kernel) (by first | rfl | assumption) rfl (by first | exact hS.1 _ _ rfl | assumption) (fun v hv => ?_)
      first | simp (decide := true) only [ty_sI, ty_sR, ty_sA, ty_sQ, ty_mA, ty_mQ, ↓reduceIte, false_and, and_false, true_and, and_true, and_self, hne] at hv | simp (decide := true) only [ty_sI, ty_sR, ty_sA, ty_sQ, ty_mA, ty_mQ, ↓reduceIte, false_and, and_false, true_and, and_true, and_self] at hv | skip
      subst hv
      refine ty_iconst (pc := 46) (n := 1) (ks := []) (by decide +kernel) ?_
      refine ty_iadd (pc := 47) (ks := []) (by decide +kernel) ?_
      refine ty_putI (pc := 48) (idx := 49) (ci := 2) (f := 13) (by decide +kernel) (by first | rfl | assumption) rfl rfl (by first | exact hS.1 _ _ rfl | assumption) ?_
      refine ty_aload_n (pc := 51) (i := 0) (ks := []) (by decide +kernel) rfl ?_
      first | refine ty_getS (pc := 52) (idx := 18) (ci := 2) (f := 3) (by decide +kernel) (by first | rfl | assumption) rfl (by first | exact hS.1 _ _ rfl | assumption) (by assumption) ?_ | (refine ty_getR (pc := 52) (idx := 18) (ci := 2) (f := 3) (by decide +kernel) (by first | rfl | assumption) rfl (by first | exact hS.1 _ _ rfl | assumption) (fun v hv => ?_); (first | simp (decide := true) only [ty_sI, ty_sR, ty_sA, ty_sQ, ty_mA, ty_mQ, ↓reduceIte, false_and, and_false, true_and, and_true, and_self, hne] at hv | simp (decide := true) only [ty_sI, ty_sR, ty_sA, ty_sQ, ty_mA, ty_mQ, ↓reduceIte, false_and, and_false, true_and, and_true, and_self] at hv | skip); (subst hv))
      refine ty_iload_n (pc := 55) (i := 1) (ks := []) (by decide +kernel) rfl ?_
      refine ty_iaload (pc := 56) (ks := []) (by decide +kernel) (by first | rfl | assumption) (by rfl) (by first | exact hS.1 _ _ rfl | assumption) (by first | exact hS.2.1 _ _ _ rfl | assumption) (by omega) (fun v hv => ?_)
      first | simp (decide := true) only [ty_sI, ty_sR, ty_sA, ty_sQ, ty_mA, ty_mQ, ↓reduceIte, false_and, and_false, true_and, and_true, and_self, hne] at hv | simp (decide := true) only [ty_sI, ty_sR, ty_sA, ty_sQ, ty_mA, ty_mQ, ↓reduceIte, false_and, and_false, true_and, and_true, and_self] at hv | skip
      subst hv
      refine ty_iconst (pc := 57) (n := (-1)) (ks := []) (by decide +kernel) ?_
      -- at 58: .if_icmp .ne 13
      refine ty_icmp_ne (pc := 58) (off := 13) (t := 71) (ks := []) (by decide +kernel) (by omega) (by omega) (fun hc => ?_) (fun hc => ?_)
      · refine ty_aload_n (pc := 71) (i := 0) (ks := []) (by decide +kernel) rfl ?_
        refine ty_getS (b := (28, 0)) (pc := 72) (idx := 37) (ci := 2) (f := 9) (by decide +kernel) (by first | rfl | assumption) rfl (by first | exact hS.1 _ _ rfl | assumption) (by first | exact hS.2.2 _ _ _ _ rfl | assumption) ?_
        refine ty_aload_n (pc := 75) (i := 0) (ks := []) (by decide +kernel) rfl ?_
        first | refine ty_getS (pc := 76) (idx := 18) (ci := 2) (f := 3) (by decide +kernel) (by first | rfl | assumption) rfl (by first | exact hS.1 _ _ rfl | assumption) (by assumption) ?_ | (refine ty_getR (pc := 76) (idx := 18) (ci := 2) (f := 3) (by decide +kernel) (by first | rfl | assumption) rfl (by first | exact hS.1 _ _ rfl | assumption) (fun v hv => ?_); (first | simp (decide := true) only [ty_sI, ty_sR, ty_sA, ty_sQ, ty_mA, ty_mQ, ↓reduceIte, false_and, and_false, true_and, and_true, and_self, hne] at hv | simp (decide := true) only [ty_sI, ty_sR, ty_sA, ty_sQ, ty_mA, ty_mQ, ↓reduceIte, false_and, and_false, true_and, and_true, and_self] at hv | skip); (subst hv))
        refine ty_iload_n (pc := 79) (i := 1) (ks := []) (by decide +kernel) rfl ?_
        refine ty_iaload (pc := 80) (ks := []) (by decide +kernel) (by first | rfl | assumption) (by rfl) (by first | exact hS.1 _ _ rfl | assumption) (by first | exact hS.2.1 _ _ _ rfl | assumption) (by omega) (fun v hv => ?_)
        first | simp (decide := true) only [ty_sI, ty_sR, ty_sA, ty_sQ, ty_mA, ty_mQ, ↓reduceIte, false_and, and_false, true_and, and_true, and_self, hne] at hv | simp (decide := true) only [ty_sI, ty_sR, ty_sA, ty_sQ, ty_mA, ty_mQ, ↓reduceIte, false_and, and_false, true_and, and_true, and_self] at hv | skip
        subst hv
        refine ty_iload_n (pc := 81) (i := 2) (ks := []) (by decide +kernel) rfl ?_
        refine ty_iastore (pc := 82) (ks := []) (by decide +kernel) (by first | rfl | assumption) (by rfl) (by first | exact hS.1 _ _ rfl | assumption) (by first | exact hS.2.1 _ _ _ rfl | assumption) (by omega) ?_
        refine ty_aload_n (pc := 83) (i := 0) (ks := []) (by decide +kernel) rfl ?_
        first | refine ty_getS (pc := 84) (idx := 18) (ci := 2) (f := 3) (by decide +kernel) (by first | rfl | assumption) rfl (by first | exact hS.1 _ _ rfl | assumption) (by assumption) ?_ | (refine ty_getR (pc := 84) (idx := 18) (ci := 2) (f := 3) (by decide +kernel) (by first | rfl | assumption) rfl (by first | exact hS.1 _ _ rfl | assumption) (fun v hv => ?_); (first | simp (decide := true) only [ty_sI, ty_sR, ty_sA, ty_sQ, ty_mA, ty_mQ, ↓reduceIte, false_and, and_false, true_and, and_true, and_self, hne] at hv | simp (decide := true) only [ty_sI, ty_sR, ty_sA, ty_sQ, ty_mA, ty_mQ, ↓reduceIte, false_and, and_false, true_and, and_true, and_self] at hv | skip); (subst hv))
        refine ty_iload_n (pc := 87) (i := 1) (ks := []) (by decide +kernel) rfl ?_
        refine ty_iload_n (pc := 88) (i := 3) (ks := []) (by decide +kernel) rfl ?_
        refine ty_iastore (pc := 89) (ks := []) (by decide +kernel) (by first | rfl | assumption) (by rfl) (by first | exact hS.1 _ _ rfl | assumption) (by first | exact hS.2.1 _ _ _ rfl | assumption) (by omega) ?_
        -- at 90: .return_
        refine ty_ret_v (pc := 90) (ks := []) (by decide +kernel) rfl ?_
        refine ⟨rfl, ?_⟩
        unfold cv_lk
        rw [if_neg (by assumption)]
      · refine ty_aload_n (pc := 61) (i := 0) (ks := []) (by decide +kernel) rfl ?_
        first | refine ty_getS (pc := 62) (idx := 15) (ci := 2) (f := 2) (by decide +kernel) (by first | rfl | assumption) rfl (by first | exact hS.1 _ _ rfl | assumption) (by assumption) ?_ | (refine ty_getR (pc := 62) (idx := 15) (ci := 2) (f := 2) (by decide +kernel) (by first | rfl | assumption) rfl (by first | exact hS.1 _ _ rfl | assumption) (fun v hv => ?_); (first | simp (decide := true) only [ty_sI, ty_sR, ty_sA, ty_sQ, ty_mA, ty_mQ, ↓reduceIte, false_and, and_false, true_and, and_true, and_self, hne] at hv | simp (decide := true) only [ty_sI, ty_sR, ty_sA, ty_sQ, ty_mA, ty_mQ, ↓reduceIte, false_and, and_false, true_and, and_true, and_self] at hv | skip); (subst hv))
        refine ty_iload_n (pc := 65) (i := 1) (ks := []) (by decide +kernel) rfl ?_
        refine ty_iload_n (pc := 66) (i := 2) (ks := []) (by decide +kernel) rfl ?_
        refine ty_iastore (pc := 67) (ks := []) (by decide +kernel) (by first | rfl | assumption) (by rfl) (by first | exact hS.1 _ _ rfl | assumption) (by first | exact hS.2.1 _ _ _ rfl | assumption) (by omega) ?_
        refine ty_goto (pc := 68) (off := 15) (t := 83) (ks := []) (by decide +kernel) ?_
        refine ty_aload_n (pc := 83) (i := 0) (ks := []) (by decide +kernel) rfl ?_
        first | refine ty_getS (pc := 84) (idx := 18) (ci := 2) (f := 3) (by decide +kernel) (by first | rfl | assumption) rfl (by first | exact hS.1 _ _ rfl | assumption) (by assumption) ?_ | (refine ty_getR (pc := 84) (idx := 18) (ci := 2) (f := 3) (by decide +kernel) (by first | rfl | assumption) rfl (by first | exact hS.1 _ _ rfl | assumption) (fun v hv => ?_); (first | simp (decide := true) only [ty_sI, ty_sR, ty_sA, ty_sQ, ty_mA, ty_mQ, ↓reduceIte, false_and, and_false, true_and, and_true, and_self, hne] at hv | simp (decide := true) only [ty_sI, ty_sR, ty_sA, ty_sQ, ty_mA, ty_mQ, ↓reduceIte, false_and, and_false, true_and, and_true, and_self] at hv | skip); (subst hv))
        refine ty_iload_n (pc := 87) (i := 1) (ks := []) (by decide +kernel) rfl ?_
        refine ty_iload_n (pc := 88) (i := 3) (ks := []) (by decide +kernel) rfl ?_
        refine ty_iastore (pc := 89) (ks := []) (by decide +kernel) (by first | rfl | assumption) (by rfl) (by first | exact hS.1 _ _ rfl | assumption) (by first | exact hS.2.1 _ _ _ rfl | assumption) (by omega) ?_
        -- at 90: .return_
        refine ty_ret_v (pc := 90) (ks := []) (by decide +kernel) rfl ?_
        refine ⟨rfl, ?_⟩
        unfold cv_lk
        rw [if_pos (by assumption)]
    · omega
/-- one call more that sleeps -/
def cv_ps (S : ty_S) (F E : ai_A) (v call ns gc : Int) : ty_S := cv_lk (ty_sA (ty_sA (ty_sI S (13, 0) 10 (ns + 1)) (27, 0) ns call) (28, 0) ns (-1)) F E v ns ns gc
theorem cv_putToSleep (d : Nat) (hS : ty_st S) (hV : cv_sh S B F E n) {v call ns gc : Int} (hv : 0 ≤ v ∧ v < n) (hg : S.1 (13, 0) 13 = gc) (hr : 0 ≤ gc ∧ gc < 500) (hns : S.1 (13, 0) 10 = ns) (hnr : 0 ≤ ns ∧ ns < 500) (he : -1 ≤ S.2.2.1 E v ∧ S.2.2.1 E v < 500) :
    ty_C L xs (d + 2) 79 [.inr (.inr (some (13, 0))), .inl (ty_J v), .inl (ty_J call)] S (ty_oV fun S' => S' = cv_ps S F E v call ns gc) := by
  have n27 := cv_ne hV (s := 27) (i := 0) (by decide)
  have n28 := cv_ne hV (s := 28) (i := 0) (by decide)
  have hV' := hV
  obtain ⟨⟨b1, b2, b3⟩, ⟨k1, k2, k3⟩, ⟨p1, p2, p3⟩, ⟨n1, n2, n3⟩, -, -, hn⟩ := hV
  subst hns
  refine ty_enter (ml := 4) (ls := [_, _, _, _]) rfl rfl (Nat.le_of_ble_eq_true rfl) ?_
  refine ty_aload_n (pc := 0) (i := 0) (ks := []) (by decide +kernel) rfl ?_
  refine ty_getI (pc := 1) (idx := 40) (ci := 2) (f := 10) (by decide +kernel) (by first | rfl | assumption) rfl (by first | exact hS.1 _ _ rfl | assumption) (fun v hv => ?_)
  subst hv
  refine ty_sipush (pc := 4) (n := 500) (ks := []) (by decide +kernel) (by omega) ?_
  -- at 7: .if_icmp .ge 39
  refine ty_icmp_ge (pc := 7) (off := 39) (t := 46) (ks := []) (by decide +kernel) (by omega) (by omega) (fun hc => ?_) (fun hc => ?_)
  · omega
  · refine ty_aload_n (pc := 10) (i := 0) (ks := []) (by decide +kernel) rfl ?_
    refine ty_getI (pc := 11) (idx := 40) (ci := 2) (f := 10) (by decide +kernel) (by first | rfl | assumption) rfl (by first | exact hS.1 _ _ rfl | assumption) (fun v hv => ?_)
    subst hv
    refine ty_istore_n (pc := 14) (i := 3) (ks := []) (ls' := [_, _, _, _]) (by decide +kernel) rfl ?_
    refine ty_aload_n (pc := 15) (i := 0) (ks := []) (by decide +kernel) rfl ?_
    refine ty_dup (pc := 16) (ks := []) (by decide +kernel) rfl ?_
    refine ty_getI (pc := 17) (idx := 40) (ci := 2) (f := 10) (by decide +kernel) (by first | rfl | assumption) rfl (by first | exact hS.1 _ _ rfl | assumption) (fun v hv => ?_)
    subst hv
    refine ty_iconst (pc := 20) (n := 1) (ks := []) (by decide +kernel) ?_
    refine ty_iadd (pc := 21) (ks := []) (by decide +kernel) ?_
    refine ty_putI (pc := 22) (idx := 40) (ci := 2) (f := 10) (by decide +kernel) (by first | rfl | assumption) rfl rfl (by first | exact hS.1 _ _ rfl | assumption) ?_
    refine ty_aload_n (pc := 25) (i := 0) (ks := []) (by decide +kernel) rfl ?_
    refine ty_getS (b := (27, 0)) (pc := 26) (idx := 34) (ci := 2) (f := 8) (by decide +kernel) (by first | rfl | assumption) rfl (by first | exact hS.1 _ _ rfl | assumption) (by first | exact hS.2.2 _ _ _ _ rfl | assumption) ?_
    refine ty_iload_n (pc := 29) (i := 3) (ks := []) (by decide +kernel) rfl ?_
    refine ty_iload_n (pc := 30) (i := 2) (ks := []) (by decide +kernel) rfl ?_
    refine ty_iastore (pc := 31) (ks := []) (by decide +kernel) (by first | rfl | assumption) (by rfl) (by first | exact hS.1 _ _ rfl | assumption) (by first | exact hS.2.1 _ _ _ rfl | assumption) (by omega) ?_
    refine ty_aload_n (pc := 32) (i := 0) (ks := []) (by decide +kernel) rfl ?_
    refine ty_getS (b := (28, 0)) (pc := 33) (idx := 37) (ci := 2) (f := 9) (by decide +kernel) (by first | rfl | assumption) rfl (by first | exact hS.1 _ _ rfl | assumption) (by first | exact hS.2.2 _ _ _ _ rfl | assumption) ?_
    refine ty_iload_n (pc := 36) (i := 3) (ks := []) (by decide +kernel) rfl ?_
    refine ty_iconst (pc := 37) (n := (-1)) (ks := []) (by decide +kernel) ?_
    refine ty_iastore (pc := 38) (ks := []) (by decide +kernel) (by first | rfl | assumption) (by rfl) (by first | exact hS.1 _ _ rfl | assumption) (by first | exact hS.2.1 _ _ _ rfl | assumption) (by omega) ?_
    refine ty_aload_n (pc := 39) (i := 0) (ks := []) (by decide +kernel) rfl ?_
    refine ty_iload_n (pc := 40) (i := 1) (ks := []) (by decide +kernel) rfl ?_
    refine ty_iload_n (pc := 41) (i := 3) (ks := []) (by decide +kernel) rfl ?_
    refine ty_iload_n (pc := 42) (i := 3) (ks := []) (by decide +kernel) rfl ?_
    -- at 43: .invokevirtual 77
    have hE : (ty_sA (ty_sA (ty_sI S (13, 0) 10 (S.1 (13, 0) 10 + 1)) (27, 0) (S.1 (13, 0) 10) call) (28, 0) (S.1 (13, 0) 10) (-1)).2.2.1 E v = S.2.2.1 E v := by
      simp [ty_sA, ty_sI, n27, n28]
    refine ty_callv (pc := 43) (idx := 77) (m := 80) (n := 4) (c := 2) (vs := [_, _, _]) (r := []) (by decide +kernel) rfl rfl (Nat.le_of_ble_eq_true rfl) (by first | rfl | assumption) (by first | exact hS.1 _ _ rfl | assumption) (cv_linkBehind d (B := B) (F := F) (E := E) (n := n) (gc := gc) (by exact hS) (by exact hV') hv (by omega) (by exact hg) hr (by rw [hE]; exact he)) ?_
    rintro _ S1 ⟨rfl, rfl⟩
    refine ty_KV ?_
    refine ty_ret_v (pc := 46) (ks := []) (by decide +kernel) rfl ?_
    refine ⟨rfl, ?_⟩
    rw [if_neg (by omega)]
    rfl
/-- what was linked is taken back, m of the newest -/
def cv_un (f e x on gb : Int → Int) (gc : Int) : Nat → (Int → Int) × (Int → Int) × (Int → Int)
  | 0 => (f, e, x)
  | m + 1 => (if gb (gc - 1 - m) = -1 then (fun j => if j = on (gc - 1 - m) then -1 else (cv_un f e x on gb gc m).1 j) else (cv_un f e x on gb gc m).1, fun j => if j = on (gc - 1 - m) then gb (gc - 1 - m) else (cv_un f e x on gb gc m).2.1 j,
      if gb (gc - 1 - m) = -1 then (cv_un f e x on gb gc m).2.2 else fun j => if j = gb (gc - 1 - m) then -1 else (cv_un f e x on gb gc m).2.2 j)
theorem cv_un_neg {f e x on gb : Int → Int} {gc : Int} {m : Nat} (h : gb (gc - 1 - m) ≠ -1) : cv_un f e x on gb gc (m + 1) = ((cv_un f e x on gb gc m).1, fun j => if j = on (gc - 1 - m) then gb (gc - 1 - m) else (cv_un f e x on gb gc m).2.1 j, fun j => if j = gb (gc - 1 - m) then -1 else (cv_un f e x on gb gc m).2.2 j) := by
  show (if gb (gc - 1 - m) = -1 then _ else _, _, if gb (gc - 1 - m) = -1 then _ else _) = _
  rw [if_neg h, if_neg h]
theorem cv_un_pos {f e x on gb : Int → Int} {gc : Int} {m : Nat} (h : gb (gc - 1 - m) = -1) : cv_un f e x on gb gc (m + 1) = (fun j => if j = on (gc - 1 - m) then -1 else (cv_un f e x on gb gc m).1 j, fun j => if j = on (gc - 1 - m) then gb (gc - 1 - m) else (cv_un f e x on gb gc m).2.1 j, (cv_un f e x on gb gc m).2.2) := by
  show (if gb (gc - 1 - m) = -1 then _ else _, _, if gb (gc - 1 - m) = -1 then _ else _) = _
  rw [if_pos h, if_pos h]
def cv_m3 (S : ty_S) (F E : ai_A) (q : (Int → Int) × (Int → Int) × (Int → Int)) : ty_S := ty_mA (ty_mA (ty_mA S (28, 0) q.2.2) F q.1) E q.2.1
theorem cv_m3_E {q : (Int → Int) × (Int → Int) × (Int → Int)} {i v : Int} : ty_sA (cv_m3 S F E q) E i v = cv_m3 S F E (q.1, fun j => if j = i then v else q.2.1 j, q.2.2) := ty_sA_mA
theorem ty_mA_comm {a b : ai_A} {f g : Int → Int} (h : ¬ a = b) : ty_mA (ty_mA S a f) b g = ty_mA (ty_mA S b g) a f := by
  unfold ty_mA
  congr 3
  funext c
  by_cases e : c = b
  · have : ¬ b = a := fun z => h z.symm
    simp [e, this]
  · simp [e]
theorem cv_m3_F {q : (Int → Int) × (Int → Int) × (Int → Int)} {i v : Int} (h : ¬ F = E) : ty_sA (cv_m3 S F E q) F i v = cv_m3 S F E (fun j => if j = i then v else q.1 j, q.2) := by
  unfold cv_m3
  rw [ty_sA_mA_ne h, ty_sA_mA]
theorem cv_m3_X {q : (Int → Int) × (Int → Int) × (Int → Int)} {i v : Int} (h : ¬ (28, 0) = E) (h2 : ¬ (28, 0) = F) : ty_sA (cv_m3 S F E q) (28, 0) i v = cv_m3 S F E (q.1, q.2.1, fun j => if j = i then v else q.2.2 j) := by
  unfold cv_m3
  rw [ty_sA_mA_ne h, ty_sA_mA_ne h2, ty_sA_mA]
theorem cv_unlink (d : Nat) (hS : ty_st S) (hV : cv_sh S B F E n) {ks kg gc : Int} (hg : S.1 (13, 0) 13 = gc) (hr : 0 ≤ kg ∧ kg ≤ gc ∧ gc ≤ 500) (ho : ∀ i, kg ≤ i → i < gc → (0 ≤ S.2.2.1 (29, 0) i ∧ S.2.2.1 (29, 0) i < n) ∧ -1 ≤ S.2.2.1 (30, 0) i ∧ S.2.2.1 (30, 0) i < 500) :
    ty_C L xs (d + 1) 83 [.inr (.inr (some (13, 0))), .inl (ty_J ks), .inl (ty_J kg)] S (ty_oV fun S' => S' = ty_sI (ty_sI (cv_m3 S F E (cv_un (S.2.2.1 F) (S.2.2.1 E) (S.2.2.1 (28, 0)) (S.2.2.1 (29, 0)) (S.2.2.1 (30, 0)) gc (gc - kg).toNat)) (13, 0) 13 kg) (13, 0) 10 ks) := by
  have n29 := cv_ne hV (s := 29) (i := 0) (by decide)
  have n30 := cv_ne hV (s := 30) (i := 0) (by decide)
  have n28 := cv_ne hV (s := 28) (i := 0) (by decide)
  have hne := And.intro n29 (And.intro n30 n28)
  obtain ⟨⟨b1, b2, b3⟩, ⟨k1, k2, k3⟩, ⟨p1, p2, p3⟩, ⟨n1, n2, n3⟩, ⟨m1, m2, m3⟩, -, hn⟩ := hV
  have loop : ∀ (r m : Nat) (w : Option ai_V), ai_pl [some (.inr (.inr (some (13, 0)))), some (.inl (ty_J ks)), some (.inl (ty_J kg)), some (.inl (ty_J (gc - 1 - m))), w] 4 = false → (m + r : Int) = gc - kg → ty_W L xs d 83 7 [some (.inr (.inr (some (13, 0)))), some (.inl (ty_J ks)), some (.inl (ty_J kg)), some (.inl (ty_J (gc - 1 - m))), w] [] (cv_m3 S F E (cv_un (S.2.2.1 F) (S.2.2.1 E) (S.2.2.1 (28, 0)) (S.2.2.1 (29, 0)) (S.2.2.1 (30, 0)) gc m))
      (ty_oV fun S' => S' = ty_sI (ty_sI (cv_m3 S F E (cv_un (S.2.2.1 F) (S.2.2.1 E) (S.2.2.1 (28, 0)) (S.2.2.1 (29, 0)) (S.2.2.1 (30, 0)) gc (gc - kg).toNat)) (13, 0) 13 kg) (13, 0) 10 ks) := by
    intro r
    induction r with
    | zero =>
      intro m w _ hm
      refine ty_iload_n (pc := 7) (i := 3) (ks := []) (by decide +kernel) rfl ?_
      refine ty_iload_n (pc := 8) (i := 2) (ks := []) (by decide +kernel) rfl ?_
      -- at 9: .if_icmp .lt 63
      refine ty_icmp_lt (pc := 9) (off := 63) (t := 72) (ks := []) (by decide +kernel) (by omega) (by omega) (fun hc => ?_) (fun hc => ?_)
      · refine ty_aload_n (pc := 72) (i := 0) (ks := []) (by decide +kernel) rfl ?_
        refine ty_iload_n (pc := 73) (i := 2) (ks := []) (by decide +kernel) rfl ?_
        refine ty_putI (pc := 74) (idx := 49) (ci := 2) (f := 13) (by decide +kernel) (by first | rfl | assumption) rfl rfl (by first | exact hS.1 _ _ rfl | assumption) ?_
        refine ty_aload_n (pc := 77) (i := 0) (ks := []) (by decide +kernel) rfl ?_
        refine ty_iload_n (pc := 78) (i := 1) (ks := []) (by decide +kernel) rfl ?_
        refine ty_putI (pc := 79) (idx := 40) (ci := 2) (f := 10) (by decide +kernel) (by first | rfl | assumption) rfl rfl (by first | exact hS.1 _ _ rfl | assumption) ?_
        -- at 82: .return_
        refine ty_ret_v (pc := 82) (ks := []) (by decide +kernel) rfl ?_
        have e : (gc - kg).toNat = m := by omega
        rw [e]
        exact ⟨rfl, rfl⟩
      · omega
    | succ r ih =>
      intro m w _ hm
      have h9 := ho (gc - 1 - m) (by omega) (by omega)
      have eon : (cv_m3 S F E (cv_un (S.2.2.1 F) (S.2.2.1 E) (S.2.2.1 (28, 0)) (S.2.2.1 (29, 0)) (S.2.2.1 (30, 0)) gc m)).2.2.1 (29, 0) = S.2.2.1 (29, 0) := by
        simp [cv_m3, ty_mA, n29]
      have egb : (cv_m3 S F E (cv_un (S.2.2.1 F) (S.2.2.1 E) (S.2.2.1 (28, 0)) (S.2.2.1 (29, 0)) (S.2.2.1 (30, 0)) gc m)).2.2.1 (30, 0) = S.2.2.1 (30, 0) := by
        simp [cv_m3, ty_mA, n30]
      refine ty_iload_n (pc := 7) (i := 3) (ks := []) (by decide +kernel) rfl ?_
      refine ty_iload_n (pc := 8) (i := 2) (ks := []) (by decide +kernel) rfl ?_
      -- at 9: .if_icmp .lt 63
      refine ty_icmp_lt (pc := 9) (off := 63) (t := 72) (ks := []) (by decide +kernel) (by omega) (by omega) (fun hc => ?_) (fun hc => ?_)
      · omega
      · refine ty_aload_n (pc := 12) (i := 0) (ks := []) (by decide +kernel) rfl ?_
        refine ty_getS (b := (29, 0)) (pc := 13) (idx := 43) (ci := 2) (f := 11) (by decide +kernel) (by first | rfl | assumption) rfl (by first | exact hS.1 _ _ rfl | assumption) (by first | exact hS.2.2 _ _ _ _ rfl | assumption) ?_
        refine ty_iload_n (pc := 16) (i := 3) (ks := []) (by decide +kernel) rfl ?_
        refine ty_iaload (pc := 17) (ks := []) (by decide +kernel) (by first | rfl | assumption) (by rfl) (by first | exact hS.1 _ _ rfl | assumption) (by first | exact hS.2.1 _ _ _ rfl | assumption) (by omega) (fun v hv => ?_)
        subst hv
        refine ty_istore (pc := 18) (i := 4) (ks := []) (ls' := [_, _, _, _, _]) (by decide +kernel) rfl ?_
        -- at 20: .aload_n 0
        rw [eon]
        refine ty_aload_n (pc := 20) (i := 0) (ks := []) (by decide +kernel) rfl ?_
        first | refine ty_getS (pc := 21) (idx := 18) (ci := 2) (f := 3) (by decide +kernel) (by first | rfl | assumption) rfl (by first | exact hS.1 _ _ rfl | assumption) (by assumption) ?_ | (refine ty_getR (pc := 21) (idx := 18) (ci := 2) (f := 3) (by decide +kernel) (by first | rfl | assumption) rfl (by first | exact hS.1 _ _ rfl | assumption) (fun v hv => ?_); (subst hv))
        refine ty_iload (pc := 24) (i := 4) (ks := []) (by decide +kernel) rfl ?_
        refine ty_aload_n (pc := 26) (i := 0) (ks := []) (by decide +kernel) rfl ?_
        refine ty_getS (b := (30, 0)) (pc := 27) (idx := 46) (ci := 2) (f := 12) (by decide +kernel) (by first | rfl | assumption) rfl (by first | exact hS.1 _ _ rfl | assumption) (by first | exact hS.2.2 _ _ _ _ rfl | assumption) ?_
        refine ty_iload_n (pc := 30) (i := 3) (ks := []) (by decide +kernel) rfl ?_
        -- at 31: .iaload
        refine ty_iaload (pc := 31) (ks := []) (by decide +kernel) (by rfl) (by rfl) (hS.1 _ _ rfl) (hS.2.1 _ _ _ rfl) (by omega) (fun v hv => ?_)
        rw [egb] at hv
        subst hv
        refine ty_iastore (pc := 32) (ks := []) (by decide +kernel) k3 (by rfl) p3 n3 (by omega) ?_
        rw [cv_m3_E]
        have egb2 : ∀ q : (Int → Int) × (Int → Int) × (Int → Int), (cv_m3 S F E q).2.2.1 (30, 0) = S.2.2.1 (30, 0) := by
          intro q
          simp [cv_m3, ty_mA, n30]
        refine ty_aload_n (pc := 33) (i := 0) (ks := []) (by decide +kernel) rfl ?_
        refine ty_getS (b := (30, 0)) (pc := 34) (idx := 46) (ci := 2) (f := 12) (by decide +kernel) (by first | rfl | assumption) rfl (by first | exact hS.1 _ _ rfl | assumption) (by first | exact hS.2.2 _ _ _ _ rfl | assumption) ?_
        refine ty_iload_n (pc := 37) (i := 3) (ks := []) (by decide +kernel) rfl ?_
        -- at 38: .iaload
        refine ty_iaload (pc := 38) (ks := []) (by decide +kernel) (by rfl) (by rfl) (hS.1 _ _ rfl) (hS.2.1 _ _ _ rfl) (by omega) (fun v hv => ?_)
        rw [egb2] at hv
        subst hv
        refine ty_iconst (pc := 39) (n := (-1)) (ks := []) (by decide +kernel) ?_
        -- at 40: .if_icmp .ne 14
        refine ty_icmp_ne (pc := 40) (off := 14) (t := 54) (ks := []) (by decide +kernel) (by omega) (by omega) (fun hc => ?_) (fun hc => ?_)
        · refine ty_aload_n (pc := 54) (i := 0) (ks := []) (by decide +kernel) rfl ?_
          refine ty_getS (b := (28, 0)) (pc := 55) (idx := 37) (ci := 2) (f := 9) (by decide +kernel) (by first | rfl | assumption) rfl (by first | exact hS.1 _ _ rfl | assumption) (by first | exact hS.2.2 _ _ _ _ rfl | assumption) ?_
          refine ty_aload_n (pc := 58) (i := 0) (ks := []) (by decide +kernel) rfl ?_
          refine ty_getS (b := (30, 0)) (pc := 59) (idx := 46) (ci := 2) (f := 12) (by decide +kernel) (by first | rfl | assumption) rfl (by first | exact hS.1 _ _ rfl | assumption) (by first | exact hS.2.2 _ _ _ _ rfl | assumption) ?_
          refine ty_iload_n (pc := 62) (i := 3) (ks := []) (by decide +kernel) rfl ?_
          -- at 63: .iaload
          refine ty_iaload (pc := 63) (ks := []) (by decide +kernel) (by rfl) (by rfl) (hS.1 _ _ rfl) (hS.2.1 _ _ _ rfl) (by omega) (fun v hv => ?_)
          rw [egb2] at hv
          subst hv
          refine ty_iconst (pc := 64) (n := (-1)) (ks := []) (by decide +kernel) ?_
          -- at 65: .iastore
          refine ty_iastore (pc := 65) (ks := []) (by decide +kernel) (by rfl) (by rfl) (hS.1 _ _ rfl) (hS.2.1 _ _ _ rfl) (by omega) ?_
          rw [cv_m3_X n28.2.2.2 n28.2.2.1]
          refine ty_iinc (pc := 66) (i := 3) (n := (-1)) (ks := []) (ls' := [_, _, _, _, _]) (by decide +kernel) rfl rfl ?_
          refine ty_goto (pc := 69) (off := (-62)) (t := 7) (ks := []) (by decide +kernel) ?_
          -- at 7: .iload_n 3
          have := ih (m + 1) (some (.inl (ty_J (S.2.2.1 (29, 0) (gc - 1 - m))))) rfl (by omega)
          rw [show gc - 1 - ((m + 1 : Nat) : Int) = gc - 1 - m + -1 by omega] at this
          rw [cv_un_neg hc] at this
          exact this
        · refine ty_aload_n (pc := 43) (i := 0) (ks := []) (by decide +kernel) rfl ?_
          first | refine ty_getS (pc := 44) (idx := 15) (ci := 2) (f := 2) (by decide +kernel) (by first | rfl | assumption) rfl (by first | exact hS.1 _ _ rfl | assumption) (by assumption) ?_ | (refine ty_getR (pc := 44) (idx := 15) (ci := 2) (f := 2) (by decide +kernel) (by first | rfl | assumption) rfl (by first | exact hS.1 _ _ rfl | assumption) (fun v hv => ?_); (subst hv))
          refine ty_iload (pc := 47) (i := 4) (ks := []) (by decide +kernel) rfl ?_
          refine ty_iconst (pc := 49) (n := (-1)) (ks := []) (by decide +kernel) ?_
          -- at 50: .iastore
          refine ty_iastore (pc := 50) (ks := []) (by decide +kernel) k2 (by rfl) p2 n2 (by omega) ?_
          rw [cv_m3_F m3]
          refine ty_goto (pc := 51) (off := 15) (t := 66) (ks := []) (by decide +kernel) ?_
          refine ty_iinc (pc := 66) (i := 3) (n := (-1)) (ks := []) (ls' := [_, _, _, _, _]) (by decide +kernel) rfl rfl ?_
          refine ty_goto (pc := 69) (off := (-62)) (t := 7) (ks := []) (by decide +kernel) ?_
          -- at 7: .iload_n 3
          have := ih (m + 1) (some (.inl (ty_J (S.2.2.1 (29, 0) (gc - 1 - m))))) rfl (by omega)
          rw [show gc - 1 - ((m + 1 : Nat) : Int) = gc - 1 - m + -1 by omega] at this
          rw [cv_un_pos hc] at this
          exact this
  refine ty_enter (ml := 5) (ls := [_, _, _, _, _]) rfl rfl (Nat.le_of_ble_eq_true rfl) ?_
  refine ty_aload_n (pc := 0) (i := 0) (ks := []) (by decide +kernel) rfl ?_
  refine ty_getI (pc := 1) (idx := 49) (ci := 2) (f := 13) (by decide +kernel) (by first | rfl | assumption) rfl (by first | exact hS.1 _ _ rfl | assumption) (fun v hv => ?_)
  subst hv
  refine ty_iconst (pc := 4) (n := 1) (ks := []) (by decide +kernel) ?_
  refine ty_isub (pc := 5) (ks := []) (by decide +kernel) ?_
  refine ty_istore_n (pc := 6) (i := 3) (ks := []) (ls' := [_, _, _, _, _]) (by decide +kernel) rfl ?_
  -- at 7: .iload_n 3
  have e0 : cv_m3 S F E (cv_un (S.2.2.1 F) (S.2.2.1 E) (S.2.2.1 (28, 0)) (S.2.2.1 (29, 0)) (S.2.2.1 (30, 0)) gc 0) = S := by
    show ty_mA (ty_mA (ty_mA S (28, 0) (S.2.2.1 (28, 0))) F (S.2.2.1 F)) E (S.2.2.1 E) = S
    rw [ty_mA_self, ty_mA_self, ty_mA_self]
  have := loop (gc - kg).toNat 0 none rfl (by omega)
  rw [e0, show gc - 1 - ((0 : Nat) : Int) = gc - 1 by omega] at this
  rw [hg]
  exact this
end CVS
end
section
/-! MAKING TERMS SAME, as mathematics. -/
def mo_up (f : Int → Int) (v x : Int) : Int → Int := fun j => if j = v then x else f j
def mo_upc (f : Int → List Int) (v : Int) (l : List Int) : Int → List Int := fun j => if j = v then l else f j
/-- the arguments' pairs, the first on top -/
def mo_al (G : mo_G) (x y : Int) : Nat → List (Int × Int) → List (Int × Int)
  | 0, ps => ps
  | m + 1, ps => mo_al G x y m ((mo_g G x m, mo_g G y m) :: ps)
abbrev mo_U : Type := List (Int × Int) × (Int → Int) × (Int → List Int) × List Int × Bool
def mo_u1 (G : mo_G) (tr : Bool) (x y : Int) (ps : List (Int × Int)) (bd : Int → Int) (ch : Int → List Int) (wk : List Int) (fl : Bool) : Option mo_U :=
  if 0 ≤ x ∧ 0 ≤ y then (if mo_l G x = mo_l G y ∧ mo_a G x = mo_a G y then some (mo_al G x y (mo_a G x).toNat ps, bd, ch, wk, fl) else none)
  else if x < 0 ∧ y < 0 then (if x = y then some (ps, bd, ch, wk, fl)
    else if x < y then some (ps, mo_up bd (-1 - x) y, if tr = true then ch else mo_upc ch (-1 - y) (ch (-1 - y) ++ ch (-1 - x)), wk, true)
    else some (ps, mo_up bd (-1 - y) x, if tr = true then ch else mo_upc ch (-1 - x) (ch (-1 - x) ++ ch (-1 - y)), wk, true))
  else if x < 0 then some (ps, mo_up bd (-1 - x) y, ch, if tr = true then wk else wk ++ ch (-1 - x), true)
  else some (ps, mo_up bd (-1 - y) x, ch, if tr = true then wk else wk ++ ch (-1 - y), true)
/-- 0 it fails, 1 they are same, 2 too many steps; then the steps, what is bound, the chains, what woke, whether anything was bound -/
def mo_un (G : mo_G) (tr : Bool) : Nat → Int → mo_U → Int × Int × (Int → Int) × (Int → List Int) × List Int × Bool
  | 0, st, u => (3, st, u.2)
  | _ + 1, st, ([], u) => (1, st, u)
  | m + 1, st, (p :: ps, bd, ch, wk, fl) => if 500 ≤ st then (2, st, bd, ch, wk, fl) else match mo_u1 G tr (mo_val G bd p.1) (mo_val G bd p.2) ps bd ch wk fl with
    | none => (0, st + 1, bd, ch, wk, fl)
    | some u => mo_un G tr m (st + 1) u
/-- a stack of pairs in two rows -/
def mo_stk (l r : Int → Int) : Int → List (Int × Int) → Prop
  | n, [] => n = 0
  | n, p :: ps => 0 < n ∧ l (n - 1) = p.1 ∧ r (n - 1) = p.2 ∧ mo_stk l r (n - 1) ps
theorem mo_stk_len {l r : Int → Int} : ∀ {ps : List (Int × Int)} {n : Int}, mo_stk l r n ps → n = ps.length
  | [], n, h => by
    have h : n = 0 := h
    simp [h]
  | p :: ps, n, h => by
    have := mo_stk_len h.2.2.2
    simp only [List.length_cons]
    omega
theorem mo_stk_eq {l r l' r' : Int → Int} : ∀ {ps : List (Int × Int)} {n : Int}, (∀ i, 0 ≤ i → i < n → l' i = l i ∧ r' i = r i) → mo_stk l r n ps → mo_stk l' r' n ps
  | [], n, _, h => h
  | p :: ps, n, e, h => by
    obtain ⟨h0, h1, h2, h3⟩ := h
    have h9 := mo_stk_len h3
    have e1 := e (n - 1) (by omega) (by omega)
    exact ⟨h0, by rw [e1.1]; exact h1, by rw [e1.2]; exact h2, mo_stk_eq (fun i a b => e i a (by omega)) h3⟩
theorem mo_stk_put {l r : Int → Int} {n x y : Int} {ps : List (Int × Int)} (h : mo_stk l r n ps) : mo_stk (mo_up l n x) (mo_up r n y) (n + 1) ((x, y) :: ps) := by
  have h9 := mo_stk_len h
  refine ⟨by omega, ?_, ?_, ?_⟩
  · rw [show n + 1 - 1 = n by omega]
    simp [mo_up]
  · rw [show n + 1 - 1 = n by omega]
    simp [mo_up]
  · rw [show n + 1 - 1 = n by omega]
    refine mo_stk_eq (fun i a b => ?_) h
    simp only [mo_up]
    exact ⟨if_neg (by omega), if_neg (by omega)⟩
/-- a list in a row -/
def mo_at (w : Int → Int) : Int → List Int → Prop
  | _, [] => True
  | i, e :: es => w i = e ∧ mo_at w (i + 1) es
theorem mo_at_eq {w w' : Int → Int} : ∀ {l : List Int} {i : Int}, (∀ j, i ≤ j → j < i + l.length → w' j = w j) → mo_at w i l → mo_at w' i l
  | [], _, _, h => h
  | x :: l, i, e, h => by
    simp only [List.length_cons] at e
    exact ⟨by rw [e i (by omega) (by omega)]; exact h.1, mo_at_eq (fun j a b => e j (by omega) (by omega)) h.2⟩
theorem mo_at_app {w : Int → Int} : ∀ {l m : List Int} {i : Int}, mo_at w i (l ++ m) ↔ mo_at w i l ∧ mo_at w (i + l.length) m
  | [], m, i => by simp [mo_at]
  | x :: l, m, i => by
    have ih := mo_at_app (w := w) (l := l) (m := m) (i := i + 1)
    have e : i + 1 + (l.length : Int) = i + ((x :: l).length : Int) := by
      simp only [List.length_cons]
      omega
    rw [e] at ih
    simp only [List.cons_append, mo_at]
    rw [ih, and_assoc]
/-- a chain of links -/
def mo_lnk (nx : Int → Int) : Int → List Int → Prop
  | p, [] => p = -1
  | p, e :: es => p = e ∧ 0 ≤ e ∧ mo_lnk nx (nx e) es
def mo_last : List Int → Int
  | [] => -1
  | e :: [] => e
  | _ :: e :: es => mo_last (e :: es)
theorem mo_last_app : ∀ (l m : List Int), m ≠ [] → mo_last (l ++ m) = mo_last m
  | [], m, _ => rfl
  | [x], m, h => by
    cases m with
    | nil => exact absurd rfl h
    | cons y m => rfl
  | x :: y :: l, m, h => by
    have := mo_last_app (y :: l) m h
    exact this
theorem mo_last_mem : ∀ {l : List Int}, l ≠ [] → mo_last l ∈ l
  | [], h => absurd rfl h
  | [x], _ => List.mem_cons_self
  | _ :: y :: l, _ => List.mem_cons_of_mem _ (mo_last_mem (l := y :: l) (by simp))
theorem mo_lnk_eq {nx nx' : Int → Int} : ∀ {l : List Int} {p : Int}, (∀ e ∈ l, nx' e = nx e) → mo_lnk nx p l → mo_lnk nx' p l
  | [], _, _, h => h
  | e :: es, _, q, h => ⟨h.1, h.2.1, by
    rw [q e List.mem_cons_self]
    exact mo_lnk_eq (fun x hx => q x (List.mem_cons_of_mem _ hx)) h.2.2⟩
theorem mo_lnk_nil {nx : Int → Int} {p : Int} {l : List Int} (h : mo_lnk nx p l) : p = -1 ↔ l = [] := by
  cases l with
  | nil => exact ⟨fun _ => rfl, fun _ => h⟩
  | cons e es =>
    obtain ⟨h1, h2, -⟩ := h
    exact ⟨fun z => by omega, fun z => by cases z⟩
/-- a chain's end leads nowhere -/
theorem mo_lnk_last {nx : Int → Int} : ∀ {l : List Int} {p : Int}, mo_lnk nx p l → l ≠ [] → nx (mo_last l) = -1
  | [], _, _, h => absurd rfl h
  | [e], _, h, _ => h.2.2
  | e :: f :: es, _, h, _ => mo_lnk_last (l := f :: es) h.2.2 (by simp)
/-- two chains linked -/
theorem mo_lnk_app {nx : Int → Int} : ∀ {l m : List Int} {p q : Int}, mo_lnk nx p l → mo_lnk nx q m → l ≠ [] → l.Nodup → (∀ e ∈ l, e ∉ m) → mo_lnk (mo_up nx (mo_last l) q) p (l ++ m)
  | [], _, _, _, _, _, h, _, _ => absurd rfl h
  | [e], m, p, q, h1, h2, _, _, h4 => by
    refine ⟨h1.1, h1.2.1, ?_⟩
    have : mo_up nx (mo_last [e]) q e = q := by simp [mo_up, mo_last]
    show mo_lnk (mo_up nx (mo_last [e]) q) (mo_up nx (mo_last [e]) q e) ([] ++ m)
    rw [this]
    refine mo_lnk_eq (fun x hx => ?_) h2
    have : x ≠ e := fun z => h4 e List.mem_cons_self (z ▸ hx)
    simp [mo_up, mo_last, this]
  | e :: f :: es, m, p, q, h1, h2, _, h3, h4 => by
    obtain ⟨a, b, c⟩ := h1
    have hn := List.nodup_cons.mp h3
    refine ⟨a, b, ?_⟩
    have hm := mo_last_mem (l := f :: es) (by simp)
    have hne : e ≠ mo_last (f :: es) := fun z => hn.1 (z ▸ hm)
    have e1 : mo_up nx (mo_last (e :: f :: es)) q e = nx e := by
      show (if e = mo_last (f :: es) then q else nx e) = nx e
      rw [if_neg hne]
    show mo_lnk (mo_up nx (mo_last (e :: f :: es)) q) (mo_up nx (mo_last (e :: f :: es)) q e) ((f :: es) ++ m)
    rw [e1]
    exact mo_lnk_app (l := f :: es) c h2 (by simp) hn.2 (fun x hx => h4 x (List.mem_cons_of_mem _ hx))
/-- no more different numbers below n than n -/
theorem mo_count : ∀ (n : Nat) (l : List Int), l.Nodup → (∀ e ∈ l, 0 ≤ e ∧ e < n) → l.length ≤ n
  | 0, l, _, h => by
    cases l with
    | nil => simp
    | cons e es =>
      have := h e List.mem_cons_self
      omega
  | n + 1, l, hn, h => by
    have h1 := mo_count n (l.filter (fun e => decide (e ≠ (n : Int)))) (hn.filter _) (fun e he => by
      have h2 := List.mem_filter.mp he
      have h3 := h e h2.1
      have h4 : e ≠ (n : Int) := by simpa using h2.2
      omega)
    have h5 : l.length ≤ (l.filter (fun e => decide (e ≠ (n : Int)))).length + 1 := by
      clear h h1
      induction l with
      | nil => simp
      | cons x xs ih =>
        obtain ⟨a, b⟩ := List.nodup_cons.mp hn
        by_cases e : x = (n : Int)
        · have : xs.filter (fun e => decide (e ≠ (n : Int))) = xs := List.filter_eq_self.mpr (fun y hy => by
            have : y ≠ x := fun z => a (z ▸ hy)
            simp; omega)
          rw [List.filter_cons_of_neg (by simpa using e), this]
          simp
        · have ih := ih b
          rw [List.filter_cons_of_pos (by simpa using e)]
          simp only [List.length_cons]
          omega
    omega
end
section
/-! The class's pairs. -/
section CPP
variable {L : Nat} {xs : Nat → Int32} {S : ty_S} {B F E : ai_A} {n : Nat} {G : mo_G}
theorem cp_clear (d : Nat) (hS : ty_st S) : ty_C L xs (d + 1) 61 [.inr (.inr (some (38, 0)))] S (ty_oV fun S' => S' = ty_sI (ty_sI S (38, 0) 5 0) (38, 0) 7 0) := by
  refine ty_enter (ml := 1) (ls := [_]) rfl rfl (Nat.le_of_ble_eq_true rfl) ?_
  refine ty_aload_n (pc := 0) (i := 0) (ks := []) (by decide +kernel) rfl ?_
  refine ty_iconst (pc := 1) (n := 0) (ks := []) (by decide +kernel) ?_
  refine ty_putI (pc := 2) (idx := 18) (ci := 8) (f := 5) (by decide +kernel) (by first | rfl | assumption) rfl rfl (by first | exact hS.1 _ _ rfl | assumption) ?_
  refine ty_aload_n (pc := 5) (i := 0) (ks := []) (by decide +kernel) rfl ?_
  refine ty_iconst (pc := 6) (n := 0) (ks := []) (by decide +kernel) ?_
  refine ty_putI (pc := 7) (idx := 25) (ci := 8) (f := 7) (by decide +kernel) (by first | rfl | assumption) rfl rfl (by first | exact hS.1 _ _ rfl | assumption) ?_
  refine ty_ret_v (pc := 10) (ks := []) (by decide +kernel) rfl ?_
  exact ⟨rfl, rfl⟩
theorem cp_put (d : Nat) (hS : ty_st S) {x y o : Int} (ho : S.1 (38, 0) 5 = o) (hr : 0 ≤ o ∧ o < 1003) : ty_C L xs (d + 1) 73 [.inr (.inr (some (38, 0))), .inl (ty_J x), .inl (ty_J y)] S (ty_oV fun S' => S' = ty_sI (ty_sA (ty_sA S (40, 0) o x) (41, 0) o y) (38, 0) 5 (o + 1)) := by
  subst ho
  refine ty_enter (ml := 3) (ls := [_, _, _]) rfl rfl (Nat.le_of_ble_eq_true rfl) ?_
  refine ty_aload_n (pc := 0) (i := 0) (ks := []) (by decide +kernel) rfl ?_
  refine ty_getI (pc := 1) (idx := 18) (ci := 8) (f := 5) (by decide +kernel) (by first | rfl | assumption) rfl (by first | exact hS.1 _ _ rfl | assumption) (fun v hv => ?_)
  subst hv
  refine ty_sipush (pc := 4) (n := 1003) (ks := []) (by decide +kernel) (by omega) ?_
  -- at 7: .if_icmp .ge 33
  refine ty_icmp_ge (pc := 7) (off := 33) (t := 40) (ks := []) (by decide +kernel) (by omega) (by omega) (fun hc => ?_) (fun hc => ?_)
  · omega
  · refine ty_aload_n (pc := 10) (i := 0) (ks := []) (by decide +kernel) rfl ?_
    refine ty_getS (b := (40, 0)) (pc := 11) (idx := 11) (ci := 8) (f := 3) (by decide +kernel) (by first | rfl | assumption) rfl (by first | exact hS.1 _ _ rfl | assumption) (by first | exact hS.2.2 _ _ _ _ rfl | assumption) ?_
    refine ty_aload_n (pc := 14) (i := 0) (ks := []) (by decide +kernel) rfl ?_
    refine ty_getI (pc := 15) (idx := 18) (ci := 8) (f := 5) (by decide +kernel) (by first | rfl | assumption) rfl (by first | exact hS.1 _ _ rfl | assumption) (fun v hv => ?_)
    subst hv
    refine ty_iload_n (pc := 18) (i := 1) (ks := []) (by decide +kernel) rfl ?_
    refine ty_iastore (pc := 19) (ks := []) (by decide +kernel) (by first | rfl | assumption) (by rfl) (by first | exact hS.1 _ _ rfl | assumption) (by first | exact hS.2.1 _ _ _ rfl | assumption) (by omega) ?_
    refine ty_aload_n (pc := 20) (i := 0) (ks := []) (by decide +kernel) rfl ?_
    refine ty_getS (b := (41, 0)) (pc := 21) (idx := 15) (ci := 8) (f := 4) (by decide +kernel) (by first | rfl | assumption) rfl (by first | exact hS.1 _ _ rfl | assumption) (by first | exact hS.2.2 _ _ _ _ rfl | assumption) ?_
    refine ty_aload_n (pc := 24) (i := 0) (ks := []) (by decide +kernel) rfl ?_
    refine ty_getI (pc := 25) (idx := 18) (ci := 8) (f := 5) (by decide +kernel) (by first | rfl | assumption) rfl (by first | exact hS.1 _ _ rfl | assumption) (fun v hv => ?_)
    first | simp (decide := true) only [ty_sI, ty_sR, ty_sA, ty_sQ, ty_mA, ty_mQ, ↓reduceIte, false_and, and_false, true_and, and_true, and_self, hne] at hv | simp (decide := true) only [ty_sI, ty_sR, ty_sA, ty_sQ, ty_mA, ty_mQ, ↓reduceIte, false_and, and_false, true_and, and_true, and_self] at hv | skip
    subst hv
    refine ty_iload_n (pc := 28) (i := 2) (ks := []) (by decide +kernel) rfl ?_
    refine ty_iastore (pc := 29) (ks := []) (by decide +kernel) (by first | rfl | assumption) (by rfl) (by first | exact hS.1 _ _ rfl | assumption) (by first | exact hS.2.1 _ _ _ rfl | assumption) (by omega) ?_
    refine ty_aload_n (pc := 30) (i := 0) (ks := []) (by decide +kernel) rfl ?_
    refine ty_dup (pc := 31) (ks := []) (by decide +kernel) rfl ?_
    refine ty_getI (pc := 32) (idx := 18) (ci := 8) (f := 5) (by decide +kernel) (by first | rfl | assumption) rfl (by first | exact hS.1 _ _ rfl | assumption) (fun v hv => ?_)
    first | simp (decide := true) only [ty_sI, ty_sR, ty_sA, ty_sQ, ty_mA, ty_mQ, ↓reduceIte, false_and, and_false, true_and, and_true, and_self, hne] at hv | simp (decide := true) only [ty_sI, ty_sR, ty_sA, ty_sQ, ty_mA, ty_mQ, ↓reduceIte, false_and, and_false, true_and, and_true, and_self] at hv | skip
    subst hv
    refine ty_iconst (pc := 35) (n := 1) (ks := []) (by decide +kernel) ?_
    refine ty_iadd (pc := 36) (ks := []) (by decide +kernel) ?_
    refine ty_putI (pc := 37) (idx := 18) (ci := 8) (f := 5) (by decide +kernel) (by first | rfl | assumption) rfl rfl (by first | exact hS.1 _ _ rfl | assumption) ?_
    -- at 40: .return_
    refine ty_ret_v (pc := 40) (ks := []) (by decide +kernel) rfl ?_
    exact ⟨rfl, rfl⟩
/-- the stack of pairs l, r, o -/
def cp_s (S : ty_S) (l r : Int → Int) (o : Int) : ty_S := ty_sI (ty_mA (ty_mA S (40, 0) l) (41, 0) r) (38, 0) 5 o
theorem cp_s_put {l r : Int → Int} {o x y : Int} : ty_sI (ty_sA (ty_sA (cp_s S l r o) (40, 0) o x) (41, 0) o y) (38, 0) 5 (o + 1) = cp_s S (mo_up l o x) (mo_up r o y) (o + 1) := by
  unfold cp_s ty_sI ty_sA ty_mA mo_up
  refine Prod.ext ?_ (Prod.ext rfl (Prod.ext ?_ rfl))
  · funext b j
    by_cases e : b = (38, 0) ∧ j = 5
    · simp [e]
    · simp [e]
  · funext b
    funext j
    by_cases e1 : b = (41, 0)
    · subst e1
      simp
    · by_cases e2 : b = (40, 0)
      · subst e2
        simp
      · simp [e1, e2]
theorem cp_s_self : cp_s S (S.2.2.1 (40, 0)) (S.2.2.1 (41, 0)) (S.1 (38, 0) 5) = S := by
  unfold cp_s
  have e : ty_mA (ty_mA S (40, 0) (S.2.2.1 (40, 0))) (41, 0) (S.2.2.1 (41, 0)) = S := by
    rw [ty_mA_self, ty_mA_self]
  rw [e]
  exact ty_sI_self rfl
theorem cp_putArguments (d : Nat) (hS : ty_st S) (hG : cv_g S G) (hw : mo_wf G) {x y made : Int} (hx : mo_ok G made x) (hy : mo_ok G made y) (hxy : mo_a G y = mo_a G x) (hm : made ≤ 100000) {ps : List (Int × Int)} (hst : mo_stk (S.2.2.1 (40, 0)) (S.2.2.1 (41, 0)) (S.1 (38, 0) 5) ps) (hl : ps.length ≤ 1000) :
    ty_C L xs (d + 2) 71 [.inr (.inr (some (38, 0))), .inl (ty_J x), .inl (ty_J y)] S (ty_oV fun S' => ∃ l r o, S' = cp_s S l r o ∧ mo_stk l r o (mo_al G x y (mo_a G x).toNat ps)) := by
  have hax : 0 ≤ mo_a G x ∧ mo_a G x ≤ 3 := (hw _ hx.2.1).2.2.1
  have bx := mo_ok_le hw hx
  have by_ := mo_ok_le hw hy
  have cx := hx.1
  have cy := hy.1
  have loop : ∀ (m : Nat) (l r : Int → Int) (o : Int) (qs : List (Int × Int)), (m : Int) ≤ mo_a G x → mo_stk l r o qs → qs.length + m ≤ 1003 → ty_W L xs (d + 1) 71 11 [some (.inr (.inr (some (38, 0)))), some (.inl (ty_J x)), some (.inl (ty_J y)), some (.inl (ty_J ((m : Int) - 1)))] [] (cp_s S l r o)
      (ty_oV fun S' => ∃ l r o, S' = cp_s S l r o ∧ mo_stk l r o (mo_al G x y m qs)) := by
    intro m
    induction m with
    | zero =>
      intro l r o qs _ hq _
      refine ty_iload_n (pc := 11) (i := 3) (ks := []) (by decide +kernel) rfl ?_
      -- at 12: .ifCond .lt 31
      refine ty_if_lt (pc := 12) (off := 31) (t := 43) (ks := []) (by decide +kernel) (by omega) (fun hc => ?_) (fun hc => ?_)
      · refine ty_ret_v (pc := 43) (ks := []) (by decide +kernel) rfl ?_
        exact ⟨rfl, l, r, o, rfl, hq⟩
      · omega
    | succ m ih =>
      intro l r o qs hm1 hq hlen
      have hol := mo_stk_len hq
      have hGs : cv_g (cp_s S l r o) G := hG
      have hox := mo_ok_arg hw hx (k := m) (by omega) (by omega)
      have hoy := mo_ok_arg hw hy (k := m) (by omega) (by omega)
      rw [show ((m + 1 : Nat) : Int) - 1 = m by omega]
      refine ty_iload_n (pc := 11) (i := 3) (ks := []) (by decide +kernel) rfl ?_
      -- at 12: .ifCond .lt 31
      refine ty_if_lt (pc := 12) (off := 31) (t := 43) (ks := []) (by decide +kernel) (by omega) (fun hc => ?_) (fun hc => ?_)
      · omega
      · refine ty_aload_n (pc := 15) (i := 0) (ks := []) (by decide +kernel) rfl ?_
        refine ty_aload_n (pc := 16) (i := 0) (ks := []) (by decide +kernel) rfl ?_
        refine ty_getS (b := (12, 0)) (pc := 17) (idx := 28) (ci := 8) (f := 0) (by decide +kernel) (by first | rfl | assumption) rfl (by first | exact hS.1 _ _ rfl | assumption) (by first | exact hS.2.2 _ _ _ _ rfl | assumption) ?_
        refine ty_iload_n (pc := 20) (i := 1) (ks := []) (by decide +kernel) rfl ?_
        refine ty_iload_n (pc := 21) (i := 3) (ks := []) (by decide +kernel) rfl ?_
        -- at 22: .invokevirtual 46
        refine ty_callv (pc := 22) (idx := 46) (m := 72) (n := 3) (c := 1) (vs := [_, _]) (r := [_]) (by decide +kernel) rfl rfl (Nat.le_of_ble_eq_true rfl) (by first | rfl | assumption) (by first | exact hS.1 _ _ rfl | assumption) (ct_argumentOf d (by exact hS) (by omega) (by omega)) ?_
        rintro _ S1 ⟨z, rfl, rfl, rfl⟩
        rw [show x - x % 624 + (cp_s S l r o).2.2.1 (21, 0) (x % 624 * 3 + (m : Int)) = mo_g G x m by rw [hGs.2.2.1]; rfl]
        refine ty_KI ?_
        refine ty_aload_n (pc := 25) (i := 0) (ks := []) (by decide +kernel) rfl ?_
        refine ty_getS (b := (12, 0)) (pc := 26) (idx := 28) (ci := 8) (f := 0) (by decide +kernel) (by first | rfl | assumption) rfl (by first | exact hS.1 _ _ rfl | assumption) (by first | exact hS.2.2 _ _ _ _ rfl | assumption) ?_
        refine ty_iload_n (pc := 29) (i := 2) (ks := []) (by decide +kernel) rfl ?_
        refine ty_iload_n (pc := 30) (i := 3) (ks := []) (by decide +kernel) rfl ?_
        -- at 31: .invokevirtual 46
        refine ty_callv (pc := 31) (idx := 46) (m := 72) (n := 3) (c := 1) (vs := [_, _]) (r := [_, _]) (by decide +kernel) rfl rfl (Nat.le_of_ble_eq_true rfl) (by first | rfl | assumption) (by first | exact hS.1 _ _ rfl | assumption) (ct_argumentOf d (by exact hS) (by omega) (by omega)) ?_
        rintro _ S2 ⟨z, rfl, rfl, rfl⟩
        rw [show y - y % 624 + (cp_s S l r o).2.2.1 (21, 0) (y % 624 * 3 + (m : Int)) = mo_g G y m by rw [hGs.2.2.1]; rfl]
        refine ty_KI ?_
        refine ty_callv (pc := 34) (idx := 50) (m := 73) (n := 3) (c := 8) (vs := [_, _]) (r := []) (by decide +kernel) rfl rfl (Nat.le_of_ble_eq_true rfl) (by first | rfl | assumption) (by first | exact hS.1 _ _ rfl | assumption) (cp_put d (o := o) (by exact hS) (by rfl) (by omega)) ?_
        rintro _ S3 ⟨rfl, rfl⟩
        refine ty_KV ?_
        rw [cp_s_put]
        refine ty_iinc (pc := 37) (i := 3) (n := (-1)) (ks := []) (ls' := [_, _, _, _]) (by decide +kernel) rfl rfl ?_
        refine ty_goto (pc := 40) (off := (-29)) (t := 11) (ks := []) (by decide +kernel) ?_
        -- at 11: .iload_n 3
        have := ih (mo_up l o (mo_g G x m)) (mo_up r o (mo_g G y m)) (o + 1) ((mo_g G x m, mo_g G y m) :: qs) (by omega) (mo_stk_put hq) (by simp only [List.length_cons]; omega)
        rw [show (m : Int) - 1 = (m : Int) + -1 by omega] at this
        exact this
  refine ty_enter (ml := 4) (ls := [_, _, _, _]) rfl rfl (Nat.le_of_ble_eq_true rfl) ?_
  refine ty_aload_n (pc := 0) (i := 0) (ks := []) (by decide +kernel) rfl ?_
  refine ty_getS (b := (12, 0)) (pc := 1) (idx := 28) (ci := 8) (f := 0) (by decide +kernel) (by first | rfl | assumption) rfl (by first | exact hS.1 _ _ rfl | assumption) (by first | exact hS.2.2 _ _ _ _ rfl | assumption) ?_
  refine ty_iload_n (pc := 4) (i := 1) (ks := []) (by decide +kernel) rfl ?_
  -- at 5: .invokevirtual 40
  refine ty_callv (pc := 5) (idx := 40) (m := 67) (n := 2) (c := 1) (vs := [_]) (r := []) (by decide +kernel) rfl rfl (Nat.le_of_ble_eq_true rfl) (by first | rfl | assumption) (by first | exact hS.1 _ _ rfl | assumption) (ct_arityOf d hS (by omega)) ?_
  rintro _ S1 ⟨z, rfl, rfl, rfl⟩
  refine ty_KI ?_
  rw [show S1.2.2.1 (20, 0) (x % 624) = mo_a G x by rw [hG.2.1]; rfl]
  refine ty_iconst (pc := 8) (n := 1) (ks := []) (by decide +kernel) ?_
  refine ty_isub (pc := 9) (ks := []) (by decide +kernel) ?_
  refine ty_istore_n (pc := 10) (i := 3) (ks := []) (ls' := [_, _, _, _]) (by decide +kernel) rfl ?_
  -- at 11: .iload_n 3
  have hol := mo_stk_len hst
  have := loop (mo_a G x).toNat _ _ _ ps (by omega) hst (by omega)
  rw [cp_s_self, show (((mo_a G x).toNat : Nat) : Int) = mo_a G x by omega] at this
  exact this
/-- those that sleep on v wake -/
theorem cp_wake (d : Nat) (hS : ty_st S) (hV : cv_sh S B F E n) {v wc : Int} (hv : 0 ≤ v ∧ v < n) (hwc : S.1 (38, 0) 7 = wc) {es : List Int} (hl : mo_lnk (S.2.2.1 (28, 0)) (S.2.2.1 F v) es) (he : ∀ e ∈ es, e < 500) (hr : 0 ≤ wc ∧ wc + es.length ≤ 500) :
    ty_C L xs (d + 1) 88 [.inr (.inr (some (38, 0))), .inl (ty_J v)] S (ty_oV fun S' => ∃ w, S' = ty_sI (ty_mA S (42, 0) w) (38, 0) 7 (wc + es.length) ∧ (∀ i, i < wc → w i = S.2.2.1 (42, 0) i) ∧ mo_at w wc (es.map (S.2.2.1 (27, 0)))) := by
  obtain ⟨⟨b1, b2, b3⟩, ⟨k1, k2, k3⟩, ⟨p1, p2, p3⟩, ⟨n1, n2, n3⟩, -, -, hn⟩ := hV
  have loop : ∀ (es : List Int) (p wc : Int) (w : Int → Int), mo_lnk (S.2.2.1 (28, 0)) p es → (∀ e ∈ es, e < 500) → 0 ≤ wc → wc + es.length ≤ 500 → ty_W L xs d 88 10 [some (.inr (.inr (some (38, 0)))), some (.inl (ty_J v)), some (.inl (ty_J p))] [] (ty_sI (ty_mA S (42, 0) w) (38, 0) 7 wc)
      (ty_oV fun S' => ∃ w', S' = ty_sI (ty_mA S (42, 0) w') (38, 0) 7 (wc + es.length) ∧ (∀ i, i < wc → w' i = w i) ∧ mo_at w' wc (es.map (S.2.2.1 (27, 0)))) := by
    intro es
    induction es with
    | nil =>
      intro p wc w h _ h0 h1
      have h : p = -1 := h
      subst h
      refine ty_iload_n (pc := 10) (i := 2) (ks := []) (by decide +kernel) rfl ?_
      refine ty_iconst (pc := 11) (n := (-1)) (ks := []) (by decide +kernel) ?_
      -- at 12: .if_icmp .eq 54
      refine ty_icmp_eq (pc := 12) (off := 54) (t := 66) (ks := []) (by decide +kernel) (by omega) (by omega) (fun hc => ?_) (fun hc => ?_)
      · refine ty_ret_v (pc := 66) (ks := []) (by decide +kernel) rfl ?_
        refine ⟨rfl, w, ?_, fun i hi => rfl, trivial⟩
        simp
      · omega
    | cons e es ih =>
      intro p wc w h hlt h0 h1
      obtain ⟨rfl, h3, h4⟩ := h
      have h5 := hlt p List.mem_cons_self
      simp only [List.length_cons] at h1
      refine ty_iload_n (pc := 10) (i := 2) (ks := []) (by decide +kernel) rfl ?_
      refine ty_iconst (pc := 11) (n := (-1)) (ks := []) (by decide +kernel) ?_
      -- at 12: .if_icmp .eq 54
      refine ty_icmp_eq (pc := 12) (off := 54) (t := 66) (ks := []) (by decide +kernel) (by omega) (by omega) (fun hc => ?_) (fun hc => ?_)
      · omega
      · refine ty_aload_n (pc := 15) (i := 0) (ks := []) (by decide +kernel) rfl ?_
        refine ty_getI (pc := 16) (idx := 25) (ci := 8) (f := 7) (by decide +kernel) (by first | rfl | assumption) rfl (by first | exact hS.1 _ _ rfl | assumption) (fun v hv => ?_)
        first | simp (decide := true) only [ty_sI, ty_sR, ty_sA, ty_sQ, ty_mA, ty_mQ, ↓reduceIte, false_and, and_false, true_and, and_true, and_self, hne] at hv | simp (decide := true) only [ty_sI, ty_sR, ty_sA, ty_sQ, ty_mA, ty_mQ, ↓reduceIte, false_and, and_false, true_and, and_true, and_self] at hv | skip
        subst hv
        refine ty_sipush (pc := 19) (n := 500) (ks := []) (by decide +kernel) (by omega) ?_
        -- at 22: .if_icmp .ge 44
        refine ty_icmp_ge (pc := 22) (off := 44) (t := 66) (ks := []) (by decide +kernel) (by omega) (by omega) (fun hc => ?_) (fun hc => ?_)
        · omega
        · refine ty_aload_n (pc := 25) (i := 0) (ks := []) (by decide +kernel) rfl ?_
          refine ty_getS (b := (42, 0)) (pc := 26) (idx := 22) (ci := 8) (f := 6) (by decide +kernel) (by first | rfl | assumption) rfl (by first | exact hS.1 _ _ rfl | assumption) (by first | exact hS.2.2 _ _ _ _ rfl | assumption) ?_
          refine ty_aload_n (pc := 29) (i := 0) (ks := []) (by decide +kernel) rfl ?_
          refine ty_getI (pc := 30) (idx := 25) (ci := 8) (f := 7) (by decide +kernel) (by first | rfl | assumption) rfl (by first | exact hS.1 _ _ rfl | assumption) (fun v hv => ?_)
          first | simp (decide := true) only [ty_sI, ty_sR, ty_sA, ty_sQ, ty_mA, ty_mQ, ↓reduceIte, false_and, and_false, true_and, and_true, and_self, hne] at hv | simp (decide := true) only [ty_sI, ty_sR, ty_sA, ty_sQ, ty_mA, ty_mQ, ↓reduceIte, false_and, and_false, true_and, and_true, and_self] at hv | skip
          subst hv
          refine ty_aload_n (pc := 33) (i := 0) (ks := []) (by decide +kernel) rfl ?_
          refine ty_getS (b := (13, 0)) (pc := 34) (idx := 32) (ci := 8) (f := 1) (by decide +kernel) (by first | rfl | assumption) rfl (by first | exact hS.1 _ _ rfl | assumption) (by first | exact hS.2.2 _ _ _ _ rfl | assumption) ?_
          refine ty_getS (b := (27, 0)) (pc := 37) (idx := 100) (ci := 2) (f := 8) (by decide +kernel) (by first | rfl | assumption) rfl (by first | exact hS.1 _ _ rfl | assumption) (by first | exact hS.2.2 _ _ _ _ rfl | assumption) ?_
          refine ty_iload_n (pc := 40) (i := 2) (ks := []) (by decide +kernel) rfl ?_
          refine ty_iaload (pc := 41) (ks := []) (by decide +kernel) (by first | rfl | assumption) (by rfl) (by first | exact hS.1 _ _ rfl | assumption) (by first | exact hS.2.1 _ _ _ rfl | assumption) (by omega) (fun v hv => ?_)
          first | simp (decide := true) only [ty_sI, ty_sR, ty_sA, ty_sQ, ty_mA, ty_mQ, ↓reduceIte, false_and, and_false, true_and, and_true, and_self, hne] at hv | simp (decide := true) only [ty_sI, ty_sR, ty_sA, ty_sQ, ty_mA, ty_mQ, ↓reduceIte, false_and, and_false, true_and, and_true, and_self] at hv | skip
          subst hv
          refine ty_iastore (pc := 42) (ks := []) (by decide +kernel) (by first | rfl | assumption) (by rfl) (by first | exact hS.1 _ _ rfl | assumption) (by first | exact hS.2.1 _ _ _ rfl | assumption) (by omega) ?_
          refine ty_aload_n (pc := 43) (i := 0) (ks := []) (by decide +kernel) rfl ?_
          refine ty_dup (pc := 44) (ks := []) (by decide +kernel) rfl ?_
          refine ty_getI (pc := 45) (idx := 25) (ci := 8) (f := 7) (by decide +kernel) (by first | rfl | assumption) rfl (by first | exact hS.1 _ _ rfl | assumption) (fun v hv => ?_)
          first | simp (decide := true) only [ty_sI, ty_sR, ty_sA, ty_sQ, ty_mA, ty_mQ, ↓reduceIte, false_and, and_false, true_and, and_true, and_self, hne] at hv | simp (decide := true) only [ty_sI, ty_sR, ty_sA, ty_sQ, ty_mA, ty_mQ, ↓reduceIte, false_and, and_false, true_and, and_true, and_self] at hv | skip
          subst hv
          refine ty_iconst (pc := 48) (n := 1) (ks := []) (by decide +kernel) ?_
          refine ty_iadd (pc := 49) (ks := []) (by decide +kernel) ?_
          refine ty_putI (pc := 50) (idx := 25) (ci := 8) (f := 7) (by decide +kernel) (by first | rfl | assumption) rfl rfl (by first | exact hS.1 _ _ rfl | assumption) ?_
          refine ty_aload_n (pc := 53) (i := 0) (ks := []) (by decide +kernel) rfl ?_
          refine ty_getS (b := (13, 0)) (pc := 54) (idx := 32) (ci := 8) (f := 1) (by decide +kernel) (by first | rfl | assumption) rfl (by first | exact hS.1 _ _ rfl | assumption) (by first | exact hS.2.2 _ _ _ _ rfl | assumption) ?_
          refine ty_getS (b := (28, 0)) (pc := 57) (idx := 103) (ci := 2) (f := 9) (by decide +kernel) (by first | rfl | assumption) rfl (by first | exact hS.1 _ _ rfl | assumption) (by first | exact hS.2.2 _ _ _ _ rfl | assumption) ?_
          refine ty_iload_n (pc := 60) (i := 2) (ks := []) (by decide +kernel) rfl ?_
          refine ty_iaload (pc := 61) (ks := []) (by decide +kernel) (by first | rfl | assumption) (by rfl) (by first | exact hS.1 _ _ rfl | assumption) (by first | exact hS.2.1 _ _ _ rfl | assumption) (by omega) (fun v hv => ?_)
          first | simp (decide := true) only [ty_sI, ty_sR, ty_sA, ty_sQ, ty_mA, ty_mQ, ↓reduceIte, false_and, and_false, true_and, and_true, and_self, hne] at hv | simp (decide := true) only [ty_sI, ty_sR, ty_sA, ty_sQ, ty_mA, ty_mQ, ↓reduceIte, false_and, and_false, true_and, and_true, and_self] at hv | skip
          subst hv
          refine ty_istore_n (pc := 62) (i := 2) (ks := []) (ls' := [_, _, _]) (by decide +kernel) rfl ?_
          refine ty_goto (pc := 63) (off := (-53)) (t := 10) (ks := []) (by decide +kernel) ?_
          -- at 10: .iload_n 2
          have e1 : ty_sI (ty_sA (ty_sI (ty_mA S (42, 0) w) (38, 0) 7 wc) (42, 0) wc (S.2.2.1 (27, 0) p)) (38, 0) 7 (wc + 1) = ty_sI (ty_mA S (42, 0) (mo_up w wc (S.2.2.1 (27, 0) p))) (38, 0) 7 (wc + 1) := by
            have e2 : ty_sA (ty_sI (ty_mA S (42, 0) w) (38, 0) 7 wc) (42, 0) wc (S.2.2.1 (27, 0) p) = ty_sI (ty_sA (ty_mA S (42, 0) w) (42, 0) wc (S.2.2.1 (27, 0) p)) (38, 0) 7 wc := rfl
            rw [e2, ty_sA_mA, ty_sI_sI]
            rfl
          rw [e1]
          refine (ih _ (wc + 1) (mo_up w wc (S.2.2.1 (27, 0) p)) h4 (fun x hx => hlt x (List.mem_cons_of_mem _ hx)) (by omega) (by omega)).mono ?_
          rintro o S' ⟨rfl, w', rfl, q1, q2⟩
          refine ⟨rfl, w', ?_, fun i hi => ?_, ?_, q2⟩
          · simp only [List.length_cons]
            rw [show wc + 1 + (es.length : Int) = wc + ((es.length + 1 : Nat) : Int) by omega]
          · rw [q1 i (by omega)]
            simp only [mo_up]
            rw [if_neg (by omega)]
          · rw [q1 wc (by omega)]
            simp [mo_up]
  refine ty_enter (ml := 3) (ls := [_, _, _]) rfl rfl (Nat.le_of_ble_eq_true rfl) ?_
  refine ty_aload_n (pc := 0) (i := 0) (ks := []) (by decide +kernel) rfl ?_
  refine ty_getS (b := (13, 0)) (pc := 1) (idx := 32) (ci := 8) (f := 1) (by decide +kernel) (by first | rfl | assumption) rfl (by first | exact hS.1 _ _ rfl | assumption) (by first | exact hS.2.2 _ _ _ _ rfl | assumption) ?_
  first | refine ty_getS (pc := 4) (idx := 86) (ci := 2) (f := 2) (by decide +kernel) (by first | rfl | assumption) rfl (by first | exact hS.1 _ _ rfl | assumption) (by assumption) ?_ | (refine ty_getR (pc := 4) (idx := 86) (ci := 2) (f := 2) (by decide +kernel) (by first | rfl | assumption) rfl (by first | exact hS.1 _ _ rfl | assumption) (fun v hv => ?_); (subst hv))
  refine ty_iload_n (pc := 7) (i := 1) (ks := []) (by decide +kernel) rfl ?_
  refine ty_iaload (pc := 8) (ks := []) (by decide +kernel) (by first | rfl | assumption) (by rfl) (by first | exact hS.1 _ _ rfl | assumption) (by first | exact hS.2.1 _ _ _ rfl | assumption) (by omega) (fun v hv => ?_)
  subst hv
  refine ty_istore_n (pc := 9) (i := 2) (ks := []) (ls' := [_, _, _]) (by decide +kernel) rfl ?_
  -- at 10: .iload_n 2
  have e0 : ty_sI (ty_mA S (42, 0) (S.2.2.1 (42, 0))) (38, 0) 7 wc = S := by
    rw [ty_mA_self]
    exact ty_sI_self hwc
  have := loop es _ wc (S.2.2.1 (42, 0)) hl he hr.1 hr.2
  rw [e0] at this
  exact this
end CPP
end
section
/-! What stays true while terms are made same. -/
/-- the chains of free variables: below ns, apart from each other, and from w, those that woke -/
def mo_cw (made ns : Int) (bd : Int → Int) (ch : Int → List Int) (w : List Int) : Prop :=
  (∀ v, 0 ≤ v → v < made → bd v = mo_F → (∀ c ∈ ch v, 0 ≤ c ∧ c < ns) ∧ (ch v).Nodup ∧ (∀ c ∈ ch v, c ∉ w)) ∧ (∀ u v, 0 ≤ u → u < made → 0 ≤ v → v < made → bd u = mo_F → bd v = mo_F → u ≠ v → ∀ c ∈ ch u, c ∉ ch v) ∧ w.Nodup ∧ ∀ c ∈ w, 0 ≤ c ∧ c < ns
theorem mo_F_neg : mo_F < 0 ∧ ¬ 0 ≤ -1 - (0 : Int) := by decide
theorem mo_bw_term {G : mo_G} {made : Int} {bd : Int → Int} (h : mo_bw G made bd) {v t : Int} (ht : mo_ok G made t) (hn : ¬ (65 ≤ mo_l G t ∧ mo_l G t ≤ 90)) : mo_bw G made (mo_up bd v t) := by
  intro u h0 h1
  by_cases e : u = v
  · have : mo_up bd v t u = t := by simp [mo_up, e]
    rw [this]
    exact .inr (.inl ⟨ht.1, ht, hn⟩)
  · have : mo_up bd v t u = bd u := by simp [mo_up, e]
    rw [this]
    exact h u h0 h1
theorem mo_bw_var {G : mo_G} {made : Int} {bd : Int → Int} (h : mo_bw G made bd) {v t : Int} (ht : t < 0 ∧ 0 ≤ -1 - t ∧ -1 - t < v) : mo_bw G made (mo_up bd v t) := by
  intro u h0 h1
  by_cases e : u = v
  · have : mo_up bd v t u = t := by simp [mo_up, e]
    rw [this]
    exact .inr (.inr ⟨ht.1, ht.2.1, by omega⟩)
  · have : mo_up bd v t u = bd u := by simp [mo_up, e]
    rw [this]
    exact h u h0 h1
theorem mo_up_free {bd : Int → Int} {v t u : Int} (ht : t ≠ mo_F) (h : mo_up bd v t u = mo_F) : u ≠ v ∧ bd u = mo_F := by
  by_cases e : u = v
  · have : mo_up bd v t u = t := by simp [mo_up, e]
    rw [this] at h
    exact absurd h ht
  · have : mo_up bd v t u = bd u := by simp [mo_up, e]
    rw [this] at h
    exact ⟨e, h⟩
theorem mo_cw_bind {made ns : Int} {bd : Int → Int} {ch : Int → List Int} {w : List Int} (h : mo_cw made ns bd ch w) {v t : Int} (ht : t ≠ mo_F) : mo_cw made ns (mo_up bd v t) ch w := by
  obtain ⟨h1, h2, h3, h4⟩ := h
  refine ⟨fun u a b c => h1 u a b (mo_up_free ht c).2, fun u x a b c e f g => h2 u x a b c e (mo_up_free ht f).2 (mo_up_free ht g).2, h3, h4⟩
theorem mo_cw_wake {made ns : Int} {bd : Int → Int} {ch : Int → List Int} {w : List Int} (h : mo_cw made ns bd ch w) {v t : Int} (ht : t ≠ mo_F) (hv : 0 ≤ v ∧ v < made ∧ bd v = mo_F) : mo_cw made ns (mo_up bd v t) ch (w ++ ch v) := by
  obtain ⟨h1, h2, h3, h4⟩ := h
  obtain ⟨a1, a2, a3⟩ := h1 v hv.1 hv.2.1 hv.2.2
  refine ⟨fun u a b c => ?_, fun u x a b c e f g => h2 u x a b c e (mo_up_free ht f).2 (mo_up_free ht g).2, ?_, ?_⟩
  · obtain ⟨c1, c2⟩ := mo_up_free ht c
    obtain ⟨b1, b2, b3⟩ := h1 u a b c2
    refine ⟨b1, b2, fun x hx hx2 => ?_⟩
    rcases List.mem_append.mp hx2 with z | z
    · exact b3 x hx z
    · exact h2 u v a b hv.1 hv.2.1 c2 hv.2.2 c1 x hx z
  · rw [List.nodup_append]
    refine ⟨h3, a2, fun x hx y hy => ?_⟩
    intro z
    subst z
    exact a3 x hy hx
  · intro c hc
    rcases List.mem_append.mp hc with z | z
    · exact h4 c z
    · exact a1 c z
theorem mo_cw_link {made ns : Int} {bd : Int → Int} {ch : Int → List Int} {w : List Int} (h : mo_cw made ns bd ch w) {lo hi t : Int} (ht : t ≠ mo_F) (h0 : 0 ≤ lo ∧ lo < hi ∧ hi < made ∧ bd lo = mo_F ∧ bd hi = mo_F) : mo_cw made ns (mo_up bd hi t) (mo_upc ch lo (ch lo ++ ch hi)) w := by
  obtain ⟨h1, h2, h3, h4⟩ := h
  obtain ⟨l0, l1, l2, l3, l4⟩ := h0
  obtain ⟨a1, a2, a3⟩ := h1 lo l0 (by omega) l3
  obtain ⟨b1, b2, b3⟩ := h1 hi (by omega) l2 l4
  have hd := h2 lo hi l0 (by omega) (by omega) l2 l3 l4 (by omega)
  have at_ : ∀ u, u ≠ lo → mo_upc ch lo (ch lo ++ ch hi) u = ch u := fun u hu => by simp [mo_upc, hu]
  have atl : mo_upc ch lo (ch lo ++ ch hi) lo = ch lo ++ ch hi := by simp [mo_upc]
  refine ⟨fun u a b c => ?_, fun u x a b c e f g hux => ?_, h3, h4⟩
  · obtain ⟨c1, c2⟩ := mo_up_free ht c
    by_cases e : u = lo
    · subst e
      rw [atl]
      refine ⟨fun c hc => ?_, ?_, fun c hc => ?_⟩
      · rcases List.mem_append.mp hc with z | z
        · exact a1 c z
        · exact b1 c z
      · rw [List.nodup_append]
        exact ⟨a2, b2, fun x hx y hy z => hd x hx (z ▸ hy)⟩
      · rcases List.mem_append.mp hc with z | z
        · exact a3 c z
        · exact b3 c z
    · rw [at_ u e]
      exact h1 u a b c2
  · obtain ⟨f1, f2⟩ := mo_up_free ht f
    obtain ⟨g1, g2⟩ := mo_up_free ht g
    by_cases e1 : u = lo
    · subst e1
      have e2 : x ≠ u := fun z => hux z.symm
      rw [atl, at_ x e2]
      intro y hy
      rcases List.mem_append.mp hy with z | z
      · exact h2 u x a b c e f2 g2 hux y z
      · exact h2 hi x (by omega) l2 c e l4 g2 (fun z => g1 z.symm) y z
    · rw [at_ u e1]
      by_cases e2 : x = lo
      · subst e2
        rw [atl]
        intro y hy hy2
        rcases List.mem_append.mp hy2 with z | z
        · exact h2 u x a b c e f2 g2 hux y hy z
        · exact h2 u hi a b (by omega) l2 f2 l4 f1 y hy z
      · rw [at_ x e2]
        exact h2 u x a b c e f2 g2 hux
/-- the pairs are terms -/
def mo_po (G : mo_G) (made : Int) (ps : List (Int × Int)) : Prop := ∀ p ∈ ps, mo_ok G made p.1 ∧ mo_ok G made p.2
theorem mo_al_po {G : mo_G} (hw : mo_wf G) {made x y : Int} (hx : mo_ok G made x) (hy : mo_ok G made y) : ∀ (m : Nat) (ps : List (Int × Int)), (m : Int) ≤ mo_a G x → (m : Int) ≤ mo_a G y → mo_po G made ps → mo_po G made (mo_al G x y m ps)
  | 0, _, _, _, h => h
  | m + 1, ps, h1, h2, h => mo_al_po hw hx hy m _ (by omega) (by omega) (fun p hp => by
    rcases List.mem_cons.mp hp with z | z
    · subst z
      exact ⟨mo_ok_arg hw hx (by omega) (by omega), mo_ok_arg hw hy (by omega) (by omega)⟩
    · exact h p z)
theorem mo_al_len {G : mo_G} {x y : Int} : ∀ (m : Nat) (ps : List (Int × Int)), (mo_al G x y m ps).length = ps.length + m
  | 0, _ => rfl
  | m + 1, ps => by
    show (mo_al G x y m ((mo_g G x m, mo_g G y m) :: ps)).length = _
    rw [mo_al_len m]
    simp only [List.length_cons]
    omega
theorem mo_ne_F {x : Int} (h : 0 ≤ -1 - x ∧ -1 - x < 2147483647 ∨ 0 ≤ x) : x ≠ mo_F := by
  intro e
  rw [e] at h
  rcases h with h | h
  · have : (-1 : Int) - mo_F = 2147483647 := by decide
    omega
  · have : mo_F < 0 := by decide
    omega
/-- what one pair leaves true -/
theorem mo_u1_inv {G : mo_G} (hw : mo_wf G) {made ns : Int} (hmade : made ≤ 100000) {tr : Bool} {x y : Int} {ps : List (Int × Int)} {bd : Int → Int} {ch : Int → List Int} {wk dn : List Int} {fl : Bool} {u : mo_U} (h : mo_u1 G tr x y ps bd ch wk fl = some u) (hx : mo_isval G made bd x) (hy : mo_isval G made bd y) (hb : mo_bw G made bd) (hc : mo_cw made ns bd ch (dn ++ wk)) (hp : mo_po G made ps) :
    mo_po G made u.1 ∧ mo_bw G made u.2.1 ∧ mo_cw made ns u.2.1 u.2.2.1 (dn ++ u.2.2.2.1) ∧ u.1.length ≤ ps.length + 3 ∧ (tr = true → u.2.2.1 = ch ∧ u.2.2.2.1 = wk) := by
  unfold mo_u1 at h
  split at h
  · rename_i hxy
    split at h
    · rename_i hla
      cases h
      have hx : mo_ok G made x := by
        rcases hx with z | z
        · omega
        · exact z.2.1
      have hy : mo_ok G made y := by
        rcases hy with z | z
        · omega
        · exact z.2.1
      have ha : 0 ≤ mo_a G x ∧ mo_a G x ≤ 3 := (hw _ hx.2.1).2.2.1
      refine ⟨mo_al_po hw hx hy _ _ (by omega) (by rw [← hla.2]; omega) hp, hb, hc, ?_, fun _ => ⟨rfl, rfl⟩⟩
      show (mo_al G x y (mo_a G x).toNat ps).length ≤ ps.length + 3
      rw [mo_al_len]
      omega
    · cases h
  · rename_i hxy
    split at h
    · rename_i hneg
      have hx : 0 ≤ -1 - x ∧ -1 - x < made ∧ bd (-1 - x) = mo_F := by
        rcases hx with z | z
        · exact z.2
        · omega
      have hy : 0 ≤ -1 - y ∧ -1 - y < made ∧ bd (-1 - y) = mo_F := by
        rcases hy with z | z
        · exact z.2
        · omega
      split at h
      · cases h
        exact ⟨hp, hb, hc, by simp, fun _ => ⟨rfl, rfl⟩⟩
      · split at h
        · rename_i hlt
          cases h
          have hnf : y ≠ mo_F := mo_ne_F (.inl ⟨hy.1, by omega⟩)
          refine ⟨hp, mo_bw_var hb ⟨by omega, hy.1, by omega⟩, ?_, by simp, fun ht => ⟨by simp [ht], rfl⟩⟩
          cases tr
          · exact mo_cw_link hc hnf ⟨hy.1, by omega, hx.2.1, hy.2.2, hx.2.2⟩
          · exact mo_cw_bind hc hnf
        · rename_i hlt
          cases h
          have hnf : x ≠ mo_F := mo_ne_F (.inl ⟨hx.1, by omega⟩)
          refine ⟨hp, mo_bw_var hb ⟨by omega, hx.1, by omega⟩, ?_, by simp, fun ht => ⟨by simp [ht], rfl⟩⟩
          cases tr
          · exact mo_cw_link hc hnf ⟨hx.1, by omega, hy.2.1, hx.2.2, hy.2.2⟩
          · exact mo_cw_bind hc hnf
    · split at h
      · rename_i hneg hx0
        cases h
        have hx : 0 ≤ -1 - x ∧ -1 - x < made ∧ bd (-1 - x) = mo_F := by
          rcases hx with z | z
          · exact z.2
          · omega
        have hy : mo_ok G made y ∧ ¬ (65 ≤ mo_l G y ∧ mo_l G y ≤ 90) := by
          rcases hy with z | z
          · omega
          · exact z.2
        have hnf : y ≠ mo_F := mo_ne_F (.inr hy.1.1)
        refine ⟨hp, mo_bw_term hb hy.1 hy.2, ?_, by simp, fun ht => ⟨rfl, by simp [ht]⟩⟩
        cases tr
        · have := mo_cw_wake hc hnf hx
          rw [List.append_assoc] at this
          exact this
        · exact mo_cw_bind hc hnf
      · rename_i hneg hx0
        cases h
        have hy : 0 ≤ -1 - y ∧ -1 - y < made ∧ bd (-1 - y) = mo_F := by
          rcases hy with z | z
          · exact z.2
          · omega
        have hx : mo_ok G made x ∧ ¬ (65 ≤ mo_l G x ∧ mo_l G x ≤ 90) := by
          rcases hx with z | z
          · omega
          · exact z.2
        have hnf : x ≠ mo_F := mo_ne_F (.inr hx.1.1)
        refine ⟨hp, mo_bw_term hb hx.1 hx.2, ?_, by simp, fun ht => ⟨rfl, by simp [ht]⟩⟩
        cases tr
        · have := mo_cw_wake hc hnf hy
          rw [List.append_assoc] at this
          exact this
        · exact mo_cw_bind hc hnf
end
section
/-! How the class's rows hold what is bound and who sleeps; how they are taken back. -/
def cv_rv (b f e x : Int → Int) (made : Int) (bd : Int → Int) (ch : Int → List Int) : Prop :=
  (∀ v, 0 ≤ v → v < made → b v = bd v) ∧ ∀ v, 0 ≤ v → v < made → bd v = mo_F → mo_lnk x (f v) (ch v) ∧ e v = mo_last (ch v)
theorem cv_rv_bind {b f e x : Int → Int} {made : Int} {bd : Int → Int} {ch : Int → List Int} (h : cv_rv b f e x made bd ch) {v t : Int} (ht : t ≠ mo_F) : cv_rv (mo_up b v t) f e x made (mo_up bd v t) ch := by
  obtain ⟨h1, h2⟩ := h
  refine ⟨fun u a c => ?_, fun u a c g => h2 u a c (mo_up_free ht g).2⟩
  simp only [mo_up]
  by_cases e : u = v
  · rw [if_pos e, if_pos e]
  · rw [if_neg e, if_neg e]
    exact h1 u a c
/-- v's chain with another behind it -/
theorem cv_rv_link {b f e x : Int → Int} {made ns : Int} {bd : Int → Int} {ch : Int → List Int} {w : List Int} (h : cv_rv b f e x made bd ch) (hc : mo_cw made ns bd ch w) {lo hi t : Int} (ht : t ≠ mo_F) (h0 : 0 ≤ lo ∧ lo < hi ∧ hi < made ∧ bd lo = mo_F ∧ bd hi = mo_F) (hne : ch hi ≠ []) :
    cv_rv (mo_up b hi t) (if e lo = -1 then mo_up f lo (f hi) else f) (mo_up e lo (e hi)) (if e lo = -1 then x else mo_up x (e lo) (f hi)) made (mo_up bd hi t) (mo_upc ch lo (ch lo ++ ch hi)) := by
  obtain ⟨l0, l1, l2, l3, l4⟩ := h0
  have hb := cv_rv_bind h (v := hi) (t := t) ht
  obtain ⟨h1, h2⟩ := h
  obtain ⟨p1, p2⟩ := h2 lo l0 (by omega) l3
  obtain ⟨q1, q2⟩ := h2 hi (by omega) l2 l4
  obtain ⟨c1, c2, c3, c4⟩ := hc
  obtain ⟨a1, a2, a3⟩ := c1 lo l0 (by omega) l3
  have hd := c2 lo hi l0 (by omega) (by omega) l2 l3 l4 (by omega)
  have el : e lo = -1 ↔ ch lo = [] := by
    constructor
    · intro z
      rw [p2] at z
      cases hl : ch lo with
      | nil => rfl
      | cons y ys =>
        have hm := mo_last_mem (l := ch lo) (by rw [hl]; simp)
        have := a1 _ hm
        omega
    · intro z
      rw [p2, z]
      rfl
  refine ⟨hb.1, fun u a c g => ?_⟩
  obtain ⟨g1, g2⟩ := mo_up_free ht g
  obtain ⟨u1, u2⟩ := h2 u a c g2
  by_cases eu : u = lo
  · subst eu
    have e1 : mo_upc ch u (ch u ++ ch hi) u = ch u ++ ch hi := by simp [mo_upc]
    rw [e1]
    by_cases ee : e u = -1
    · have hz := el.mp ee
      rw [if_pos ee, if_pos ee, hz, List.nil_append]
      refine ⟨?_, ?_⟩
      · have : mo_up f u (f hi) u = f hi := by simp [mo_up]
        rw [this]
        exact q1
      · have : mo_up e u (e hi) u = e hi := by simp [mo_up]
        rw [this]
        exact q2
    · have hz : ch u ≠ [] := fun z => ee (el.mpr z)
      rw [if_neg ee, if_neg ee]
      refine ⟨?_, ?_⟩
      · rw [p2]
        exact mo_lnk_app p1 q1 hz a2 hd
      · have : mo_up e u (e hi) u = e hi := by simp [mo_up]
        rw [this, q2, mo_last_app _ _ hne]
  · have e1 : mo_upc ch lo (ch lo ++ ch hi) u = ch u := by simp [mo_upc, eu]
    rw [e1]
    have e2 : mo_up e lo (e hi) u = e u := by simp [mo_up, eu]
    rw [e2]
    refine ⟨?_, u2⟩
    by_cases ee : e lo = -1
    · rw [if_pos ee, if_pos ee]
      have : mo_up f lo (f hi) u = f u := by simp [mo_up, eu]
      rw [this]
      exact u1
    · rw [if_neg ee, if_neg ee]
      refine mo_lnk_eq (fun y hy => ?_) u1
      have hz : ch lo ≠ [] := fun z => ee (el.mpr z)
      have hm := mo_last_mem hz
      have : y ≠ e lo := by
        rw [p2]
        intro z
        exact c2 u lo a c l0 (by omega) g2 l3 eu y hy (z ▸ hm)
      simp [mo_up, this]
/-- freeing after one more was bound is freeing before -/
theorem cv_fr_eq {f ones ones' : Int → Int} {kept : Int} : ∀ (m : Nat), (∀ i, kept ≤ i → i < kept + m → ones' i = ones i) → cv_fr f ones' kept m = cv_fr f ones kept m
  | 0, _ => rfl
  | m + 1, h => by
    funext j
    show (if j = ones' (kept + m) then mo_F else cv_fr f ones' kept m j) = if j = ones (kept + m) then mo_F else cv_fr f ones kept m j
    rw [h (kept + m) (by omega) (by omega), cv_fr_eq m (fun i a b => h i a (by omega))]
theorem cv_fr_at {f f' ones : Int → Int} {kept : Int} {j : Int} (h : f' j = f j) : ∀ (m : Nat), cv_fr f' ones kept m j = cv_fr f ones kept m j
  | 0 => h
  | m + 1 => by
    show (if j = ones (kept + m) then mo_F else cv_fr f' ones kept m j) = if j = ones (kept + m) then mo_F else cv_fr f ones kept m j
    rw [cv_fr_at h m]
theorem cv_fr_F {f ones : Int → Int} {kept : Int} {j : Int} (h : f j = mo_F) : ∀ (m : Nat), cv_fr f ones kept m j = mo_F
  | 0 => h
  | m + 1 => by
    show (if j = ones (kept + m) then mo_F else cv_fr f ones kept m j) = mo_F
    rw [cv_fr_F h m]
    simp
theorem cv_fr_bind {f ones : Int → Int} {kept bc v t : Int} (hk : kept ≤ bc) (hv : f v = mo_F) : cv_fr (mo_up f v t) (mo_up ones bc v) kept (bc + 1 - kept).toNat = cv_fr f ones kept (bc - kept).toNat := by
  have e : (bc + 1 - kept).toNat = (bc - kept).toNat + 1 := by omega
  rw [e]
  funext j
  show (if j = mo_up ones bc v (kept + ((bc - kept).toNat : Nat)) then mo_F else cv_fr (mo_up f v t) (mo_up ones bc v) kept (bc - kept).toNat j) = _
  have e1 : mo_up ones bc v (kept + ((bc - kept).toNat : Nat)) = v := by
    simp only [mo_up]
    rw [if_pos (by omega)]
  rw [e1, cv_fr_eq (ones := ones) _ (fun i a b => by
    simp only [mo_up]
    rw [if_neg (by omega)])]
  by_cases ej : j = v
  · rw [if_pos ej, ej, cv_fr_F hv]
  · rw [if_neg ej]
    exact cv_fr_at (by simp [mo_up, ej]) _
/-- the newest link first, then the others -/
theorem cv_un_shift {f e x on gb : Int → Int} {gc : Int} : ∀ (m : Nat), cv_un f e x on gb (gc + 1) (m + 1) = cv_un (cv_un f e x on gb (gc + 1) 1).1 (cv_un f e x on gb (gc + 1) 1).2.1 (cv_un f e x on gb (gc + 1) 1).2.2 on gb gc m
  | 0 => rfl
  | m + 1 => by
    have ih := cv_un_shift (f := f) (e := e) (x := x) (on := on) (gb := gb) (gc := gc) m
    have e1 : gc + 1 - 1 - ((m + 1 : Nat) : Int) = gc - 1 - (m : Int) := by omega
    by_cases h : gb (gc - 1 - (m : Int)) = -1
    · rw [cv_un_pos (m := m + 1) (by rw [e1]; exact h), cv_un_pos (m := m) h, ih, e1]
    · rw [cv_un_neg (m := m + 1) (by rw [e1]; exact h), cv_un_neg (m := m) h, ih, e1]
theorem cv_un_eq {f e x on gb on' gb' : Int → Int} {gc : Int} : ∀ (m : Nat), (∀ i, gc - m ≤ i → i < gc → on' i = on i ∧ gb' i = gb i) → cv_un f e x on' gb' gc m = cv_un f e x on gb gc m
  | 0, _ => rfl
  | m + 1, h => by
    have ih := cv_un_eq (f := f) (e := e) (x := x) m (fun i a b => h i (by omega) b)
    obtain ⟨h1, h2⟩ := h (gc - 1 - m) (by omega) (by omega)
    by_cases hg : gb (gc - 1 - (m : Int)) = -1
    · rw [cv_un_pos (m := m) (by rw [h2]; exact hg), cv_un_pos (m := m) hg, ih, h1, h2]
    · rw [cv_un_neg (m := m) (by rw [h2]; exact hg), cv_un_neg (m := m) hg, ih, h1, h2]
theorem cv_un_link {f e x on gb : Int → Int} {kg gc v first last : Int} (hk : kg ≤ gc) (hf : e v = -1 → f v = -1) (hx : e v ≠ -1 → x (e v) = -1) :
    cv_un (if e v = -1 then mo_up f v first else f) (mo_up e v last) (if e v = -1 then x else mo_up x (e v) first) (mo_up on gc v) (mo_up gb gc (e v)) (gc + 1) (gc + 1 - kg).toNat = cv_un f e x on gb gc (gc - kg).toNat := by
  have e0 : (gc + 1 - kg).toNat = (gc - kg).toNat + 1 := by omega
  rw [e0, cv_un_shift]
  have g1 : mo_up gb gc (e v) (gc + 1 - 1 - ((0 : Nat) : Int)) = e v := by
    simp only [mo_up]
    rw [if_pos (by omega)]
  have g2 : mo_up on gc v (gc + 1 - 1 - ((0 : Nat) : Int)) = v := by
    simp only [mo_up]
    rw [if_pos (by omega)]
  have e1 : cv_un (if e v = -1 then mo_up f v first else f) (mo_up e v last) (if e v = -1 then x else mo_up x (e v) first) (mo_up on gc v) (mo_up gb gc (e v)) (gc + 1) 1 = (f, e, x) := by
    have ee : (fun j => if j = v then e v else mo_up e v last j) = e := by
      funext j
      simp only [mo_up]
      by_cases z : j = v
      · rw [if_pos z, z]
      · rw [if_neg z, if_neg z]
    by_cases h : e v = -1
    · rw [cv_un_pos (m := 0) (by rw [g1]; exact h), g1, g2, if_pos h, if_pos h]
      show ((fun j => if j = v then -1 else mo_up f v first j), (fun j => if j = v then e v else mo_up e v last j), x) = (f, e, x)
      rw [ee]
      have ef : (fun j => if j = v then -1 else mo_up f v first j) = f := by
        funext j
        simp only [mo_up]
        by_cases z : j = v
        · rw [if_pos z, z, hf h]
        · rw [if_neg z, if_neg z]
      rw [ef]
    · rw [cv_un_neg (m := 0) (by rw [g1]; exact h), g1, g2, if_neg h, if_neg h]
      show (f, (fun j => if j = v then e v else mo_up e v last j), fun j => if j = e v then -1 else mo_up x (e v) first j) = (f, e, x)
      rw [ee]
      have ex : (fun j => if j = e v then -1 else mo_up x (e v) first j) = x := by
        funext j
        simp only [mo_up]
        by_cases z : j = e v
        · rw [if_pos z, z, hx h]
        · rw [if_neg z, if_neg z]
      rw [ex]
  rw [e1]
  refine cv_un_eq _ (fun i a b => ?_)
  simp only [mo_up]
  exact ⟨if_neg (by omega), if_neg (by omega)⟩
/-- what is left alone while terms are made same -/
def cp_fm (S S' : ty_S) (B F E : ai_A) : Prop := (∀ b j, b ≠ (37, 0) → b ≠ (38, 0) → ¬ (b = (13, 0) ∧ (j = 7 ∨ j = 13)) → S'.1 b j = S.1 b j) ∧ S'.2.1 = S.2.1 ∧
  (∀ b, b ≠ B → b ≠ F → b ≠ E → b ≠ (26, 0) → b ≠ (28, 0) → b ≠ (29, 0) → b ≠ (30, 0) → b ≠ (40, 0) → b ≠ (41, 0) → b ≠ (42, 0) → S'.2.2.1 b = S.2.2.1 b) ∧ S'.2.2.2.1 = S.2.2.2.1 ∧ S'.2.2.2.2.1 = S.2.2.2.2.1 ∧ S'.2.2.2.2.2.1 = S.2.2.2.2.2.1 ∧ S'.2.2.2.2.2.2.1 = S.2.2.2.2.2.2.1
theorem cp_fm.refl {S : ty_S} {B F E : ai_A} : cp_fm S S B F E := ⟨fun _ _ _ _ _ => rfl, rfl, fun _ _ _ _ _ _ _ _ _ _ _ => rfl, rfl, rfl, rfl, rfl⟩
theorem cp_fm.trans {S S1 S2 : ty_S} {B F E : ai_A} (h : cp_fm S S1 B F E) (g : cp_fm S1 S2 B F E) : cp_fm S S2 B F E :=
  ⟨fun b j a c e => (g.1 b j a c e).trans (h.1 b j a c e), g.2.1.trans h.2.1, fun b a1 a2 a3 a4 a5 a6 a7 a8 a9 a10 => (g.2.2.1 b a1 a2 a3 a4 a5 a6 a7 a8 a9 a10).trans (h.2.2.1 b a1 a2 a3 a4 a5 a6 a7 a8 a9 a10), g.2.2.2.1.trans h.2.2.2.1, g.2.2.2.2.1.trans h.2.2.2.2.1, g.2.2.2.2.2.1.trans h.2.2.2.2.2.1, g.2.2.2.2.2.2.trans h.2.2.2.2.2.2⟩
/-- what can be taken back is the same -/
def cp_ud (S S' : ty_S) (B F E : ai_A) : Prop := S.1 (13, 0) 7 ≤ S'.1 (13, 0) 7 ∧ S.1 (13, 0) 13 ≤ S'.1 (13, 0) 13 ∧
  (∀ k, 0 ≤ k → k ≤ S.1 (13, 0) 7 → cv_fr (S'.2.2.1 B) (S'.2.2.1 (26, 0)) k (S'.1 (13, 0) 7 - k).toNat = cv_fr (S.2.2.1 B) (S.2.2.1 (26, 0)) k (S.1 (13, 0) 7 - k).toNat) ∧
  ∀ k, 0 ≤ k → k ≤ S.1 (13, 0) 13 → cv_un (S'.2.2.1 F) (S'.2.2.1 E) (S'.2.2.1 (28, 0)) (S'.2.2.1 (29, 0)) (S'.2.2.1 (30, 0)) (S'.1 (13, 0) 13) (S'.1 (13, 0) 13 - k).toNat = cv_un (S.2.2.1 F) (S.2.2.1 E) (S.2.2.1 (28, 0)) (S.2.2.1 (29, 0)) (S.2.2.1 (30, 0)) (S.1 (13, 0) 13) (S.1 (13, 0) 13 - k).toNat
theorem cp_ud.refl {S : ty_S} {B F E : ai_A} : cp_ud S S B F E := ⟨Int.le_refl _, Int.le_refl _, fun _ _ _ => rfl, fun _ _ _ => rfl⟩
theorem cp_ud.trans {S S1 S2 : ty_S} {B F E : ai_A} (h : cp_ud S S1 B F E) (g : cp_ud S1 S2 B F E) : cp_ud S S2 B F E :=
  ⟨Int.le_trans h.1 g.1, Int.le_trans h.2.1 g.2.1, fun k a b => (g.2.2.1 k a (Int.le_trans b h.1)).trans (h.2.2.1 k a b), fun k a b => (g.2.2.2 k a (Int.le_trans b h.2.1)).trans (h.2.2.2 k a b)⟩
/-- the class's rows while terms are made same: k bounds what was bound and linked -/
def cp_R (S : ty_S) (B F E : ai_A) (n : Nat) (G : mo_G) (made ns : Int) (sl : Int → Int) (st k : Int) (u : mo_U) : Prop :=
  ty_st S ∧ cv_sh S B F E n ∧ cv_g S G ∧ (S.1 (13, 0) 4 = made ∧ 0 ≤ made ∧ made ≤ n) ∧ (S.1 (37, 0) 0 = st ∧ 0 ≤ st ∧ st ≤ 500) ∧ mo_stk (S.2.2.1 (40, 0)) (S.2.2.1 (41, 0)) (S.1 (38, 0) 5) u.1 ∧
  (S.1 (38, 0) 7 = u.2.2.2.1.length ∧ mo_at (S.2.2.1 (42, 0)) 0 (u.2.2.2.1.map sl)) ∧ cv_rv (S.2.2.1 B) (S.2.2.1 F) (S.2.2.1 E) (S.2.2.1 (28, 0)) made u.2.1 u.2.2.1 ∧ (∀ e, 0 ≤ e → e < ns → S.2.2.1 (27, 0) e = sl e) ∧
  ((0 ≤ S.1 (13, 0) 7 ∧ S.1 (13, 0) 7 ≤ k) ∧ ∀ i, 0 ≤ i → i < S.1 (13, 0) 7 → 0 ≤ S.2.2.1 (26, 0) i ∧ S.2.2.1 (26, 0) i < made) ∧
  ((0 ≤ S.1 (13, 0) 13 ∧ S.1 (13, 0) 13 ≤ k) ∧ ∀ i, 0 ≤ i → i < S.1 (13, 0) 13 → (0 ≤ S.2.2.1 (29, 0) i ∧ S.2.2.1 (29, 0) i < made) ∧ -1 ≤ S.2.2.1 (30, 0) i ∧ S.2.2.1 (30, 0) i < ns) ∧ 0 ≤ ns ∧ ns ≤ 500
end
section
/-! One more bound, one more linked, some that wake: what holds behind it. -/
section CPS
variable {L : Nat} {xs : Nat → Int32} {S : ty_S} {B F E : ai_A} {n : Nat} {G : mo_G} {made ns st k : Int} {sl : Int → Int} {u : mo_U}
def cp_b (S : ty_S) (B : ai_A) (v t : Int) : ty_S := ty_sI (ty_sA (ty_sA S B v t) (26, 0) (S.1 (13, 0) 7) v) (13, 0) 7 (S.1 (13, 0) 7 + 1)
theorem cp_b_A (hV : cv_sh S B F E n) {v t : Int} : (cp_b S B v t).2.2.1 B = mo_up (S.2.2.1 B) v t ∧ (cp_b S B v t).2.2.1 (26, 0) = mo_up (S.2.2.1 (26, 0)) (S.1 (13, 0) 7) v ∧ ∀ b, b ≠ B → b ≠ (26, 0) → (cp_b S B v t).2.2.1 b = S.2.2.1 b := by
  have hne := cv_ne hV (s := 26) (i := 0) (by decide)
  refine ⟨?_, ?_, fun b h1 h2 => ?_⟩
  · show (ty_sA (ty_sA S B v t) (26, 0) _ v).2.2.1 B = _
    rw [ty_sA_ne hne.1.1, ty_sA_at]
    rfl
  · show (ty_sA (ty_sA S B v t) (26, 0) _ v).2.2.1 (26, 0) = _
    rw [ty_sA_at, ty_sA_ne hne.2.1]
    rfl
  · show (ty_sA (ty_sA S B v t) (26, 0) _ v).2.2.1 b = _
    rw [ty_sA_ne h2, ty_sA_ne h1]
theorem cp_R_bind (hR : cp_R S B F E n G made ns sl st k u) {v t : Int} (hv : 0 ≤ v ∧ v < made ∧ u.2.1 v = mo_F) (ht : t ≠ mo_F) (fl : Bool) : cp_R (cp_b S B v t) B F E n G made ns sl st (k + 1) (u.1, mo_up u.2.1 v t, u.2.2.1, u.2.2.2.1, fl) ∧ cp_fm S (cp_b S B v t) B F E ∧ cp_ud S (cp_b S B v t) B F E := by
  obtain ⟨r1, r2, r3, r4, r5, r6, r7, r8, r9, r10, r11, r12⟩ := hR
  obtain ⟨a1, a2, a3⟩ := cp_b_A r2 (v := v) (t := t)
  have d1 := r2.2.2.2.2.1
  have hs : ∀ s : Nat, s ≠ 23 ∧ s ≠ 24 ∧ s ≠ 25 ∧ s ≠ 48 → (s, 0) ≠ B := fun s h => (cv_ne r2 h).2.1
  have hs2 : ∀ s : Nat, s ≠ 23 ∧ s ≠ 24 ∧ s ≠ 25 ∧ s ≠ 48 → F ≠ (s, 0) ∧ E ≠ (s, 0) := fun s h => (cv_ne r2 h).1.2
  have oth : ∀ s : Nat, (s ≠ 23 ∧ s ≠ 24 ∧ s ≠ 25 ∧ s ≠ 48) → s ≠ 26 → (cp_b S B v t).2.2.1 (s, 0) = S.2.2.1 (s, 0) := fun s h h2 => a3 _ (hs s h) (fun z => h2 (congrArg Prod.fst z))
  have aF : (cp_b S B v t).2.2.1 F = S.2.2.1 F := a3 F (fun z => d1.1 z.symm) (hs2 _ (by decide)).1
  have aE : (cp_b S B v t).2.2.1 E = S.2.2.1 E := a3 E (fun z => d1.2.1 z.symm) (hs2 _ (by decide)).2
  have i1 : ∀ b j, ¬ (b = (13, 0) ∧ j = 7) → (cp_b S B v t).1 b j = S.1 b j := fun b j h => if_neg h
  have i2 : (cp_b S B v t).1 (13, 0) 7 = S.1 (13, 0) 7 + 1 := ty_sI_at
  refine ⟨⟨r1, r2, ?_, ?_, ?_, ?_, ?_, ?_, ?_, ?_, ?_, r12⟩, ⟨fun b j h1 h2 h3 => i1 b j (fun z => h3 ⟨z.1, .inl z.2⟩), rfl, fun b h1 h2 h3 h4 _ _ _ _ _ _ => a3 b h1 h4, rfl, rfl, rfl, rfl⟩, ?_⟩
  · unfold cv_g
    rw [oth 19 (by decide) (by decide), oth 20 (by decide) (by decide), oth 21 (by decide) (by decide), oth 22 (by decide) (by decide)]
    exact r3
  · rw [i1 _ _ (by decide)]; exact r4
  · rw [i1 _ _ (by decide)]; exact r5
  · rw [oth 40 (by decide) (by decide), oth 41 (by decide) (by decide), i1 _ _ (by decide)]; exact r6
  · rw [oth 42 (by decide) (by decide), i1 _ _ (by decide)]; exact r7
  · rw [a1, aF, aE, oth 28 (by decide) (by decide)]
    exact cv_rv_bind r8 ht
  · rw [oth 27 (by decide) (by decide)]; exact r9
  · rw [i2, a2]
    refine ⟨by omega, fun i h0 h1 => ?_⟩
    simp only [mo_up]
    by_cases e : i = S.1 (13, 0) 7
    · rw [if_pos e]; exact ⟨hv.1, hv.2.1⟩
    · rw [if_neg e]; exact r10.2 i h0 (by omega)
  · rw [oth 29 (by decide) (by decide), oth 30 (by decide) (by decide), i1 _ _ (by decide)]
    exact ⟨⟨r11.1.1, by omega⟩, r11.2⟩
  · refine ⟨by rw [i2]; omega, by rw [i1 _ _ (by decide)]; omega, fun q h0 h1 => ?_, fun q h0 h1 => ?_⟩
    · rw [a1, a2, i2]
      exact cv_fr_bind h1 (by rw [r8.1 v hv.1 hv.2.1]; exact hv.2.2)
    · rw [aF, aE, oth 28 (by decide) (by decide), oth 29 (by decide) (by decide), oth 30 (by decide) (by decide), i1 _ _ (by decide)]
theorem cv_lk_A (hV : cv_sh S B F E n) {v first last gc : Int} : (cv_lk S F E v first last gc).2.2.1 F = (if S.2.2.1 E v = -1 then mo_up (S.2.2.1 F) v first else S.2.2.1 F) ∧ (cv_lk S F E v first last gc).2.2.1 E = mo_up (S.2.2.1 E) v last ∧
    (cv_lk S F E v first last gc).2.2.1 (28, 0) = (if S.2.2.1 E v = -1 then S.2.2.1 (28, 0) else mo_up (S.2.2.1 (28, 0)) (S.2.2.1 E v) first) ∧ (cv_lk S F E v first last gc).2.2.1 (29, 0) = mo_up (S.2.2.1 (29, 0)) gc v ∧ (cv_lk S F E v first last gc).2.2.1 (30, 0) = mo_up (S.2.2.1 (30, 0)) gc (S.2.2.1 E v) ∧
    ∀ b, b ≠ F → b ≠ E → b ≠ (28, 0) → b ≠ (29, 0) → b ≠ (30, 0) → (cv_lk S F E v first last gc).2.2.1 b = S.2.2.1 b := by
  have n29 := cv_ne hV (s := 29) (i := 0) (by decide)
  have n30 := cv_ne hV (s := 30) (i := 0) (by decide)
  have n28 := cv_ne hV (s := 28) (i := 0) (by decide)
  have d3 := hV.2.2.2.2.1.2.2
  have d3' : ¬ E = F := fun z => d3 z.symm
  by_cases h : S.2.2.1 E v = -1
  · unfold cv_lk
    rw [if_pos h, if_pos h, if_pos h]
    refine ⟨?_, ?_, ?_, ?_, ?_, fun b h1 h2 h3 h4 h5 => ?_⟩
    · rw [ty_sA_ne d3, ty_sA_at]
      show (fun j => if j = v then first else (ty_sA (ty_sA S _ _ _) _ _ _).2.2.1 F j) = _
      rw [ty_sA_ne n30.1.2.1, ty_sA_ne n29.1.2.1]
      rfl
    · rw [ty_sA_at, ty_sA_ne d3']
      show (fun j => if j = v then last else (ty_sA (ty_sA S _ _ _) _ _ _).2.2.1 E j) = _
      rw [ty_sA_ne n30.1.2.2, ty_sA_ne n29.1.2.2]
      rfl
    · rw [ty_sA_ne n28.2.2.2, ty_sA_ne n28.2.2.1]
      show (ty_sA (ty_sA S _ _ _) _ _ _).2.2.1 (28, 0) = _
      rw [ty_sA_ne (by decide), ty_sA_ne (by decide)]
    · rw [ty_sA_ne n29.2.2.2, ty_sA_ne n29.2.2.1]
      show (ty_sA (ty_sA S _ _ _) _ _ _).2.2.1 (29, 0) = _
      rw [ty_sA_ne (by decide), ty_sA_at]
      rfl
    · rw [ty_sA_ne n30.2.2.2, ty_sA_ne n30.2.2.1]
      show (ty_sA (ty_sA S _ _ _) _ _ _).2.2.1 (30, 0) = _
      rw [ty_sA_at, ty_sA_ne (by decide)]
      rfl
    · rw [ty_sA_ne h2, ty_sA_ne h1]
      show (ty_sA (ty_sA S _ _ _) _ _ _).2.2.1 b = _
      rw [ty_sA_ne h5, ty_sA_ne h4]
  · unfold cv_lk
    rw [if_neg h, if_neg h, if_neg h]
    refine ⟨?_, ?_, ?_, ?_, ?_, fun b h1 h2 h3 h4 h5 => ?_⟩
    · rw [ty_sA_ne d3, ty_sA_ne n28.1.2.1]
      show (ty_sA (ty_sA S _ _ _) _ _ _).2.2.1 F = _
      rw [ty_sA_ne n30.1.2.1, ty_sA_ne n29.1.2.1]
    · rw [ty_sA_at, ty_sA_ne n28.1.2.2]
      show (fun j => if j = v then last else (ty_sA (ty_sA S _ _ _) _ _ _).2.2.1 E j) = _
      rw [ty_sA_ne n30.1.2.2, ty_sA_ne n29.1.2.2]
      rfl
    · rw [ty_sA_ne n28.2.2.2, ty_sA_at]
      show (fun j => if j = S.2.2.1 E v then first else (ty_sA (ty_sA S _ _ _) _ _ _).2.2.1 (28, 0) j) = _
      rw [ty_sA_ne (by decide), ty_sA_ne (by decide)]
      rfl
    · rw [ty_sA_ne n29.2.2.2, ty_sA_ne (by decide)]
      show (ty_sA (ty_sA S _ _ _) _ _ _).2.2.1 (29, 0) = _
      rw [ty_sA_ne (by decide), ty_sA_at]
      rfl
    · rw [ty_sA_ne n30.2.2.2, ty_sA_ne (by decide)]
      show (ty_sA (ty_sA S _ _ _) _ _ _).2.2.1 (30, 0) = _
      rw [ty_sA_at, ty_sA_ne (by decide)]
      rfl
    · rw [ty_sA_ne h2, ty_sA_ne h3]
      show (ty_sA (ty_sA S _ _ _) _ _ _).2.2.1 b = _
      rw [ty_sA_ne h5, ty_sA_ne h4]
theorem cv_lk_I {v first last gc : Int} : (cv_lk S F E v first last gc).1 = (ty_sI S (13, 0) 13 (gc + 1)).1 := by
  unfold cv_lk
  split <;> rfl
theorem cv_lk_2 {v first last gc : Int} : (cv_lk S F E v first last gc).2.1 = S.2.1 ∧ (cv_lk S F E v first last gc).2.2.2 = S.2.2.2 := by
  unfold cv_lk
  split <;> exact ⟨rfl, rfl⟩
/-- linked: f, e, x as they are behind it hold bd', ch' -/
theorem cp_R_link (hR : cp_R S B F E n G made ns sl st k u) {v first last : Int} {ch' : Int → List Int} (hv : 0 ≤ v ∧ v < made) (hgb : -1 ≤ S.2.2.1 E v ∧ S.2.2.1 E v < ns) (hg : S.1 (13, 0) 13 < k) (hf : S.2.2.1 E v = -1 → S.2.2.1 F v = -1) (hx : S.2.2.1 E v ≠ -1 → S.2.2.1 (28, 0) (S.2.2.1 E v) = -1)
    (hrv : cv_rv (S.2.2.1 B) (if S.2.2.1 E v = -1 then mo_up (S.2.2.1 F) v first else S.2.2.1 F) (mo_up (S.2.2.1 E) v last) (if S.2.2.1 E v = -1 then S.2.2.1 (28, 0) else mo_up (S.2.2.1 (28, 0)) (S.2.2.1 E v) first) made u.2.1 ch') :
    cp_R (cv_lk S F E v first last (S.1 (13, 0) 13)) B F E n G made ns sl st k (u.1, u.2.1, ch', u.2.2.2) ∧ cp_fm S (cv_lk S F E v first last (S.1 (13, 0) 13)) B F E ∧ cp_ud S (cv_lk S F E v first last (S.1 (13, 0) 13)) B F E := by
  obtain ⟨r1, r2, r3, r4, r5, r6, r7, r8, r9, r10, r11, r12⟩ := hR
  obtain ⟨a1, a2, a3, a4, a5, a6⟩ := cv_lk_A r2 (v := v) (first := first) (last := last) (gc := S.1 (13, 0) 13)
  have d1 := r2.2.2.2.2.1
  generalize hT : cv_lk S F E v first last (S.1 (13, 0) 13) = T at a1 a2 a3 a4 a5 a6
  have e2 : T.2.1 = S.2.1 := by rw [← hT]; exact cv_lk_2.1
  have e3 : T.2.2.2 = S.2.2.2 := by rw [← hT]; exact cv_lk_2.2
  have hI : ∀ b j, T.1 b j = if b = (13, 0) ∧ j = 13 then S.1 (13, 0) 13 + 1 else S.1 b j := fun b j => by rw [← hT, cv_lk_I]; rfl
  have i1 : ∀ b j, ¬ (b = (13, 0) ∧ j = 13) → T.1 b j = S.1 b j := fun b j h => by rw [hI, if_neg h]
  have i2 : T.1 (13, 0) 13 = S.1 (13, 0) 13 + 1 := by rw [hI, if_pos ⟨rfl, rfl⟩]
  have oth : ∀ s : Nat, (s ≠ 23 ∧ s ≠ 24 ∧ s ≠ 25 ∧ s ≠ 48) → s ≠ 28 → s ≠ 29 → s ≠ 30 → T.2.2.1 (s, 0) = S.2.2.1 (s, 0) := fun s h h2 h3 h4 => a6 _ (cv_ne r2 h).2.2.1 (cv_ne r2 h).2.2.2 (fun z => h2 (congrArg Prod.fst z)) (fun z => h3 (congrArg Prod.fst z)) (fun z => h4 (congrArg Prod.fst z))
  have aB : T.2.2.1 B = S.2.2.1 B := a6 B d1.1 d1.2.1 (cv_ne r2 (by decide)).1.1 (cv_ne r2 (by decide)).1.1 (cv_ne r2 (by decide)).1.1
  refine ⟨⟨?_, ?_, ?_, ?_, ?_, ?_, ?_, ?_, ?_, ?_, ?_, r12⟩, ⟨fun b j h1 h2 h3 => i1 b j (fun z => h3 ⟨z.1, .inr z.2⟩), e2, fun b h1 h2 h3 h4 h5 h6 h7 _ _ _ => a6 b h2 h3 h5 h6 h7, by rw [e3], by rw [e3], by rw [e3], by rw [e3]⟩, ?_⟩
  · unfold ty_st; rw [e2, e3]; exact r1
  · unfold cv_sh; rw [e2, e3]; exact r2
  · unfold cv_g
    rw [oth 19 (by decide) (by decide) (by decide) (by decide), oth 20 (by decide) (by decide) (by decide) (by decide), oth 21 (by decide) (by decide) (by decide) (by decide), oth 22 (by decide) (by decide) (by decide) (by decide)]
    exact r3
  · rw [i1 _ _ (by decide)]; exact r4
  · rw [i1 _ _ (by decide)]; exact r5
  · rw [oth 40 (by decide) (by decide) (by decide) (by decide), oth 41 (by decide) (by decide) (by decide) (by decide), i1 _ _ (by decide)]; exact r6
  · rw [oth 42 (by decide) (by decide) (by decide) (by decide), i1 _ _ (by decide)]; exact r7
  · rw [aB, a1, a2, a3]; exact hrv
  · rw [oth 27 (by decide) (by decide) (by decide) (by decide)]; exact r9
  · rw [oth 26 (by decide) (by decide) (by decide) (by decide), i1 _ _ (by decide)]; exact r10
  · rw [i2, a4, a5]
    refine ⟨by omega, fun i h0 h1 => ?_⟩
    simp only [mo_up]
    by_cases e : i = S.1 (13, 0) 13
    · rw [if_pos e, if_pos e]; exact ⟨hv, hgb⟩
    · rw [if_neg e, if_neg e]; exact r11.2 i h0 (by omega)
  · refine ⟨by rw [i1 _ _ (by decide)]; omega, by rw [i2]; omega, fun q h0 h1 => ?_, fun q h0 h1 => ?_⟩
    · rw [aB, oth 26 (by decide) (by decide) (by decide) (by decide), i1 _ _ (by decide)]
    · rw [a1, a2, a3, a4, a5, i2]
      exact cv_un_link h1 hf hx
theorem cp_R_wake (hR : cp_R S B F E n G made ns sl st k u) {w : Int → Int} {es : List Int} (he : ∀ e ∈ es, 0 ≤ e ∧ e < ns) (h1 : ∀ i, i < (u.2.2.2.1.length : Int) → w i = S.2.2.1 (42, 0) i) (h2 : mo_at w u.2.2.2.1.length (es.map (S.2.2.1 (27, 0)))) :
    cp_R (ty_sI (ty_mA S (42, 0) w) (38, 0) 7 ((u.2.2.2.1.length : Int) + es.length)) B F E n G made ns sl st k (u.1, u.2.1, u.2.2.1, u.2.2.2.1 ++ es, u.2.2.2.2) ∧ cp_fm S (ty_sI (ty_mA S (42, 0) w) (38, 0) 7 ((u.2.2.2.1.length : Int) + es.length)) B F E ∧ cp_ud S (ty_sI (ty_mA S (42, 0) w) (38, 0) 7 ((u.2.2.2.1.length : Int) + es.length)) B F E := by
  obtain ⟨r1, r2, r3, r4, r5, r6, r7, r8, r9, r10, r11, r12⟩ := hR
  generalize hT : ty_sI (ty_mA S (42, 0) w) (38, 0) 7 ((u.2.2.2.1.length : Int) + es.length) = T
  have e2 : T.2.1 = S.2.1 := by rw [← hT]; rfl
  have e3 : T.2.2.2 = S.2.2.2 := by rw [← hT]; rfl
  have i1 : ∀ b j, ¬ (b = (38, 0) ∧ j = 7) → T.1 b j = S.1 b j := fun b j h => by rw [← hT]; exact if_neg h
  have i2 : T.1 (38, 0) 7 = (u.2.2.2.1.length : Int) + es.length := by rw [← hT]; exact ty_sI_at
  have aw : T.2.2.1 (42, 0) = w := by rw [← hT]; exact ty_mA_at
  have a6 : ∀ b, b ≠ (42, 0) → T.2.2.1 b = S.2.2.1 b := fun b h => by rw [← hT]; exact if_neg h
  have nB := (cv_ne r2 (s := 42) (i := 0) (by decide)).1
  have oth : ∀ s : Nat, s ≠ 42 → T.2.2.1 (s, 0) = S.2.2.1 (s, 0) := fun s h => a6 _ (fun z => h (congrArg Prod.fst z))
  have hvo : ∀ s i, ¬ ((s, i) = (38, 0)) → True := fun _ _ _ => trivial
  refine ⟨⟨?_, ?_, ?_, ?_, ?_, ?_, ?_, ?_, ?_, ?_, ?_, r12⟩, ⟨fun b j h1 h2 h3 => i1 b j (fun z => h2 z.1), e2, fun b _ _ _ _ _ _ _ _ _ h => a6 b h, by rw [e3], by rw [e3], by rw [e3], by rw [e3]⟩, ?_⟩
  · unfold ty_st; rw [e2, e3]; exact r1
  · unfold cv_sh; rw [e2, e3]; exact r2
  · unfold cv_g
    rw [oth 19 (by decide), oth 20 (by decide), oth 21 (by decide), oth 22 (by decide)]
    exact r3
  · rw [i1 _ _ (by decide)]; exact r4
  · rw [i1 _ _ (by decide)]; exact r5
  · rw [oth 40 (by decide), oth 41 (by decide), i1 _ _ (by decide)]; exact r6
  · rw [i2, aw]
    refine ⟨by simp only [List.length_append]; omega, ?_⟩
    rw [List.map_append, mo_at_app]
    refine ⟨mo_at_eq (fun j a b => h1 j ?_) r7.2, ?_⟩
    · simp only [List.length_map] at b
      omega
    · rw [List.length_map, Int.zero_add]
      have : es.map sl = es.map (S.2.2.1 (27, 0)) := List.map_congr_left (fun e h => (r9 e (he e h).1 (he e h).2).symm)
      rw [this]
      exact h2
  · rw [a6 B nB.1, a6 F nB.2.1, a6 E nB.2.2, oth 28 (by decide)]; exact r8
  · rw [oth 27 (by decide)]; exact r9
  · rw [oth 26 (by decide), i1 _ _ (by decide)]; exact r10
  · rw [oth 29 (by decide), oth 30 (by decide), i1 _ _ (by decide)]; exact r11
  · refine ⟨by rw [i1 _ _ (by decide)]; omega, by rw [i1 _ _ (by decide)]; omega, fun q _ _ => ?_, fun q _ _ => ?_⟩
    · rw [a6 B nB.1, oth 26 (by decide), i1 _ _ (by decide)]
    · rw [a6 F nB.2.1, a6 E nB.2.2, oth 28 (by decide), oth 29 (by decide), oth 30 (by decide), i1 _ _ (by decide)]
theorem cp_R_stk (hR : cp_R S B F E n G made ns sl st k u) {l r : Int → Int} {o : Int} {ps : List (Int × Int)} (h : mo_stk l r o ps) :
    cp_R (cp_s S l r o) B F E n G made ns sl st k (ps, u.2) ∧ cp_fm S (cp_s S l r o) B F E ∧ cp_ud S (cp_s S l r o) B F E := by
  obtain ⟨r1, r2, r3, r4, r5, r6, r7, r8, r9, r10, r11, r12⟩ := hR
  generalize hT : cp_s S l r o = T
  have e2 : T.2.1 = S.2.1 := by rw [← hT]; rfl
  have e3 : T.2.2.2 = S.2.2.2 := by rw [← hT]; rfl
  have i1 : ∀ b j, ¬ (b = (38, 0) ∧ j = 5) → T.1 b j = S.1 b j := fun b j h => by rw [← hT]; exact if_neg h
  have i2 : T.1 (38, 0) 5 = o := by rw [← hT]; exact ty_sI_at
  have al : T.2.2.1 (40, 0) = l := by
    rw [← hT]
    show (ty_mA (ty_mA S (40, 0) l) (41, 0) r).2.2.1 (40, 0) = l
    rw [ty_mA_ne (by decide), ty_mA_at]
  have ar : T.2.2.1 (41, 0) = r := by
    rw [← hT]
    show (ty_mA (ty_mA S (40, 0) l) (41, 0) r).2.2.1 (41, 0) = r
    rw [ty_mA_at]
  have a6 : ∀ b, b ≠ (40, 0) → b ≠ (41, 0) → T.2.2.1 b = S.2.2.1 b := fun b h1 h2 => by
    rw [← hT]
    show (ty_mA (ty_mA S (40, 0) l) (41, 0) r).2.2.1 b = S.2.2.1 b
    rw [ty_mA_ne h2, ty_mA_ne h1]
  have nB := (cv_ne r2 (s := 40) (i := 0) (by decide)).1
  have nC := (cv_ne r2 (s := 41) (i := 0) (by decide)).1
  have oth : ∀ s : Nat, s ≠ 40 → s ≠ 41 → T.2.2.1 (s, 0) = S.2.2.1 (s, 0) := fun s h h2 => a6 _ (fun z => h (congrArg Prod.fst z)) (fun z => h2 (congrArg Prod.fst z))
  refine ⟨⟨?_, ?_, ?_, ?_, ?_, ?_, ?_, ?_, ?_, ?_, ?_, r12⟩, ⟨fun b j h1 h2 h3 => i1 b j (fun z => h2 z.1), e2, fun b _ _ _ _ _ _ _ h h2 _ => a6 b h h2, by rw [e3], by rw [e3], by rw [e3], by rw [e3]⟩, ?_⟩
  · unfold ty_st; rw [e2, e3]; exact r1
  · unfold cv_sh; rw [e2, e3]; exact r2
  · unfold cv_g
    rw [oth 19 (by decide) (by decide), oth 20 (by decide) (by decide), oth 21 (by decide) (by decide), oth 22 (by decide) (by decide)]
    exact r3
  · rw [i1 _ _ (by decide)]; exact r4
  · rw [i1 _ _ (by decide)]; exact r5
  · rw [al, ar, i2]; exact h
  · rw [oth 42 (by decide) (by decide), i1 _ _ (by decide)]; exact r7
  · rw [a6 B nB.1 nC.1, a6 F nB.2.1 nC.2.1, a6 E nB.2.2 nC.2.2, oth 28 (by decide) (by decide)]; exact r8
  · rw [oth 27 (by decide) (by decide)]; exact r9
  · rw [oth 26 (by decide) (by decide), i1 _ _ (by decide)]; exact r10
  · rw [oth 29 (by decide) (by decide), oth 30 (by decide) (by decide), i1 _ _ (by decide)]; exact r11
  · refine ⟨by rw [i1 _ _ (by decide)]; omega, by rw [i1 _ _ (by decide)]; omega, fun q _ _ => ?_, fun q _ _ => ?_⟩
    · rw [a6 B nB.1 nC.1, oth 26 (by decide) (by decide), i1 _ _ (by decide)]
    · rw [a6 F nB.2.1 nC.2.1, a6 E nB.2.2 nC.2.2, oth 28 (by decide) (by decide), oth 29 (by decide) (by decide), oth 30 (by decide) (by decide), i1 _ _ (by decide)]
theorem cp_R_le {k' : Int} (hR : cp_R S B F E n G made ns sl st k u) (h : k ≤ k') : cp_R S B F E n G made ns sl st k' u := by
  obtain ⟨r1, r2, r3, r4, r5, r6, r7, r8, r9, r10, r11, r12⟩ := hR
  exact ⟨r1, r2, r3, r4, r5, r6, r7, r8, r9, ⟨⟨r10.1.1, by omega⟩, r10.2⟩, ⟨⟨r11.1.1, by omega⟩, r11.2⟩, r12⟩
end CPS
end
section
/-! MAKING TERMS SAME: the class does as the mathematics. -/
section CPM
variable {L : Nat} {xs : Nat → Int32} {S : ty_S} {B F E : ai_A} {n : Nat} {G : mo_G} {made ns st : Int} {sl : Int → Int}
/-- a try leaves the sleepers' rows alone -/
def cp_tr (S S' : ty_S) (F E : ai_A) : Prop := S'.2.2.1 F = S.2.2.1 F ∧ S'.2.2.1 E = S.2.2.1 E ∧ S'.2.2.1 (28, 0) = S.2.2.1 (28, 0) ∧ S'.2.2.1 (29, 0) = S.2.2.1 (29, 0) ∧ S'.2.2.1 (30, 0) = S.2.2.1 (30, 0) ∧ S'.2.2.1 (42, 0) = S.2.2.1 (42, 0) ∧ S'.1 (13, 0) 13 = S.1 (13, 0) 13 ∧ S'.1 (38, 0) 7 = S.1 (38, 0) 7
theorem cp_tr.refl : cp_tr S S F E := ⟨rfl, rfl, rfl, rfl, rfl, rfl, rfl, rfl⟩
theorem cp_tr.trans {S1 S2 : ty_S} (h : cp_tr S S1 F E) (g : cp_tr S1 S2 F E) : cp_tr S S2 F E :=
  ⟨g.1.trans h.1, g.2.1.trans h.2.1, g.2.2.1.trans h.2.2.1, g.2.2.2.1.trans h.2.2.2.1, g.2.2.2.2.1.trans h.2.2.2.2.1, g.2.2.2.2.2.1.trans h.2.2.2.2.2.1, g.2.2.2.2.2.2.1.trans h.2.2.2.2.2.2.1, g.2.2.2.2.2.2.2.trans h.2.2.2.2.2.2.2⟩
theorem cp_tr_s (hV : cv_sh S B F E n) {l r : Int → Int} {o : Int} : cp_tr S (cp_s S l r o) F E := by
  have n1 := (cv_ne hV (s := 40) (i := 0) (by decide)).1
  have n2 := (cv_ne hV (s := 41) (i := 0) (by decide)).1
  have a6 : ∀ b, ¬ b = (40, 0) → ¬ b = (41, 0) → (cp_s S l r o).2.2.1 b = S.2.2.1 b := fun b h1 h2 => by
    show (ty_mA (ty_mA S (40, 0) l) (41, 0) r).2.2.1 b = S.2.2.1 b
    rw [ty_mA_ne h2, ty_mA_ne h1]
  exact ⟨a6 _ n1.2.1 n2.2.1, a6 _ n1.2.2 n2.2.2, a6 _ (by decide) (by decide), a6 _ (by decide) (by decide), a6 _ (by decide) (by decide), a6 _ (by decide) (by decide), ty_sI_ne (by decide), ty_sI_ne (by decide)⟩
theorem cp_tr_b (hV : cv_sh S B F E n) {v t : Int} : cp_tr S (cp_b S B v t) F E := by
  obtain ⟨a1, a2, a3⟩ := cp_b_A hV (v := v) (t := t)
  have m := hV.2.2.2.2.1
  have n26 := (cv_ne hV (s := 26) (i := 0) (by decide)).1
  exact ⟨a3 F (fun z => m.1 z.symm) n26.2.1, a3 E (fun z => m.2.1 z.symm) n26.2.2, a3 _ (cv_ne hV (by decide)).2.1 (by decide), a3 _ (cv_ne hV (by decide)).2.1 (by decide), a3 _ (cv_ne hV (by decide)).2.1 (by decide), a3 _ (cv_ne hV (by decide)).2.1 (by decide), ty_sI_ne (by decide), ty_sI_ne (by decide)⟩
/-- what one pair comes to -/
def cp_1 (S : ty_S) (B F E : ai_A) (n : Nat) (G : mo_G) (made ns : Int) (sl : Int → Int) (st : Int) (tr fl : Bool) (q : Option mo_U) (z : Int) (S' : ty_S) : Prop := match q with
  | none => z = 0 ∧ S' = S
  | some u => z = 1 ∧ cp_R S' B F E n G made ns sl st st u ∧ cp_fm S S' B F E ∧ cp_ud S S' B F E ∧ S'.2.2.2.2.2.2.2 = S.2.2.2.2.2.2.2 ∧ (u.2.2.2.2 = true ↔ fl = true ∨ S.1 (13, 0) 7 < S'.1 (13, 0) 7) ∧ (tr = true → cp_tr S S' F E)
theorem cp_fl0 {S' : ty_S} {fl : Bool} (h : S'.1 (13, 0) 7 = S.1 (13, 0) 7) : (fl = true ↔ fl = true ∨ S.1 (13, 0) 7 < S'.1 (13, 0) 7) := by
  rw [h]
  exact ⟨.inl, fun z => z.elim id (fun w => absurd w (by omega))⟩
theorem cp_fl1 {S' : ty_S} {fl : Bool} (h : S'.1 (13, 0) 7 = S.1 (13, 0) 7 + 1) : (true = true ↔ fl = true ∨ S.1 (13, 0) 7 < S'.1 (13, 0) 7) := by
  rw [h]
  exact ⟨fun _ => .inr (by omega), fun _ => rfl⟩
theorem cp_makePairSame (d : Nat) {ps : List (Int × Int)} {bd : Int → Int} {ch : Int → List Int} {wk dn : List Int} {fl : Bool} (hR : cp_R S B F E n G made ns sl st (st - 1) (ps, bd, ch, wk, fl)) (hw : mo_wf G) {x y : Int} (hx : mo_isval G made bd x) (hy : mo_isval G made bd y) (hb : mo_bw G made bd) (hcw : mo_cw made ns bd ch (dn ++ wk)) (hl : ps.length ≤ 1000) (tr : Bool) {tb : Int} (htb : tb = if tr = true then 1 else 0) :
    ty_C L xs (d + 3) 86 [.inr (.inr (some (38, 0))), .inl (ty_J x), .inl (ty_J y), .inl (ty_J tb)] S (ty_oI (cp_1 S B F E n G made ns sl st tr fl (mo_u1 G tr x y ps bd ch wk fl))) := by
  have hR0 := hR
  obtain ⟨hS, hV, hG, r4, r5, r6, r7, r8, r9, r10, r11, r12⟩ := hR
  have r8 : cv_rv (S.2.2.1 B) (S.2.2.1 F) (S.2.2.1 E) (S.2.2.1 (28, 0)) made bd ch := r8
  have r7 : S.1 (38, 0) 7 = wk.length ∧ mo_at (S.2.2.1 (42, 0)) 0 (wk.map sl) := r7
  have hn := hV.2.2.2.2.2.2
  have hxr : -100000 ≤ x ∧ x ≤ 100000 * 624 + 623 := by
    rcases hx with z | z
    · omega
    · have := mo_ok_le hw z.2.1
      omega
  have hyr : -100000 ≤ y ∧ y ≤ 100000 * 624 + 623 := by
    rcases hy with z | z
    · omega
    · have := mo_ok_le hw z.2.1
      omega
  have hwn : mo_cw made ns bd ch (dn ++ wk) := hcw
  have htr : tb = 0 ∨ tb = 1 := by cases tr <;> simp [htb]
  refine ty_enter (ml := 6) (ls := [_, _, _, _, _, _]) rfl rfl (Nat.le_of_ble_eq_true rfl) ?_
  -- both are terms
  by_cases hxy : 0 ≤ x ∧ 0 ≤ y
  · have hox : mo_ok G made x := by
      rcases hx with z | z
      · omega
      · exact z.2.1
    have hoy : mo_ok G made y := by
      rcases hy with z | z
      · omega
      · exact z.2.1
    have hlx : S.2.2.1 (19, 0) (x % 624) = mo_l G x := by rw [hG.1]; rfl
    have hly : S.2.2.1 (19, 0) (y % 624) = mo_l G y := by rw [hG.1]; rfl
    have hax : S.2.2.1 (20, 0) (x % 624) = mo_a G x := by rw [hG.2.1]; rfl
    have hay : S.2.2.1 (20, 0) (y % 624) = mo_a G y := by rw [hG.2.1]; rfl
    have l1 : 0 ≤ mo_l G x ∧ mo_l G x ≤ 65535 := (hw _ hox.2.1).2.1
    have l2 : 0 ≤ mo_l G y ∧ mo_l G y ≤ 65535 := (hw _ hoy.2.1).2.1
    have l3 : 0 ≤ mo_a G x ∧ mo_a G x ≤ 3 := (hw _ hox.2.1).2.2.1
    have l4 : 0 ≤ mo_a G y ∧ mo_a G y ≤ 3 := (hw _ hoy.2.1).2.2.1
    unfold mo_u1
    rw [if_pos hxy]
    refine ty_iload_n (pc := 0) (i := 1) (ks := []) (by decide +kernel) rfl ?_
    -- at 1: .ifCond .lt 56
    refine ty_if_lt (pc := 1) (off := 56) (t := 57) (ks := []) (by decide +kernel) (by omega) (fun hc => ?_) (fun hc => ?_)
    · omega
    · refine ty_iload_n (pc := 4) (i := 2) (ks := []) (by decide +kernel) rfl ?_
      -- at 5: .ifCond .lt 52
      refine ty_if_lt (pc := 5) (off := 52) (t := 57) (ks := []) (by decide +kernel) (by omega) (fun hc => ?_) (fun hc => ?_)
      · omega
      · refine ty_aload_n (pc := 8) (i := 0) (ks := []) (by decide +kernel) rfl ?_
        refine ty_getS (b := (12, 0)) (pc := 9) (idx := 28) (ci := 8) (f := 0) (by decide +kernel) (by first | rfl | assumption) rfl (by first | exact hS.1 _ _ rfl | assumption) (by first | exact hS.2.2 _ _ _ _ rfl | assumption) ?_
        refine ty_iload_n (pc := 12) (i := 1) (ks := []) (by decide +kernel) rfl ?_
        -- at 13: .invokevirtual 68
        refine ty_callv (pc := 13) (idx := 68) (m := 66) (n := 2) (c := 1) (vs := [_]) (r := []) (by decide +kernel) rfl rfl (Nat.le_of_ble_eq_true rfl) (by first | rfl | assumption) (by first | exact hS.1 _ _ rfl | assumption) (ct_letterOf _ hS (by omega) (by rw [hlx]; exact l1)) ?_
        rintro _ S1 ⟨z, rfl, rfl, rfl⟩
        rw [hlx]
        refine ty_KI ?_
        refine ty_aload_n (pc := 16) (i := 0) (ks := []) (by decide +kernel) rfl ?_
        refine ty_getS (b := (12, 0)) (pc := 17) (idx := 28) (ci := 8) (f := 0) (by decide +kernel) (by first | rfl | assumption) rfl (by first | exact hS.1 _ _ rfl | assumption) (by first | exact hS.2.2 _ _ _ _ rfl | assumption) ?_
        refine ty_iload_n (pc := 20) (i := 2) (ks := []) (by decide +kernel) rfl ?_
        -- at 21: .invokevirtual 68
        refine ty_callv (pc := 21) (idx := 68) (m := 66) (n := 2) (c := 1) (vs := [_]) (r := [_]) (by decide +kernel) rfl rfl (Nat.le_of_ble_eq_true rfl) (by first | rfl | assumption) (by first | exact hS.1 _ _ rfl | assumption) (ct_letterOf _ hS (by omega) (by rw [hly]; exact l2)) ?_
        rintro _ S2 ⟨z, rfl, rfl, rfl⟩
        rw [hly]
        refine ty_KI ?_
        refine ty_icmp_ne (pc := 24) (off := 22) (t := 46) (ks := []) (by decide +kernel) (by omega) (by omega) (fun hc => ?_) (fun hc => ?_)
        · rw [if_neg (fun z => hc z.1)]
          refine ty_iconst (pc := 46) (n := 0) (ks := []) (by decide +kernel) ?_
          -- at 47: .ireturn
          refine ty_ret_i (pc := 47) (ks := []) (ty := .boolean) (by decide +kernel) rfl (ty_fit_z (by omega)) ?_
          exact ⟨_, rfl, rfl, rfl⟩
        · have hcl := hc
          refine ty_aload_n (pc := 27) (i := 0) (ks := []) (by decide +kernel) rfl ?_
          refine ty_getS (b := (12, 0)) (pc := 28) (idx := 28) (ci := 8) (f := 0) (by decide +kernel) (by first | rfl | assumption) rfl (by first | exact hS.1 _ _ rfl | assumption) (by first | exact hS.2.2 _ _ _ _ rfl | assumption) ?_
          refine ty_iload_n (pc := 31) (i := 1) (ks := []) (by decide +kernel) rfl ?_
          -- at 32: .invokevirtual 40
          refine ty_callv (pc := 32) (idx := 40) (m := 67) (n := 2) (c := 1) (vs := [_]) (r := []) (by decide +kernel) rfl rfl (Nat.le_of_ble_eq_true rfl) (by first | rfl | assumption) (by first | exact hS.1 _ _ rfl | assumption) (ct_arityOf _ hS (by omega)) ?_
          rintro _ S3 ⟨z, rfl, rfl, rfl⟩
          rw [hax]
          refine ty_KI ?_
          refine ty_aload_n (pc := 35) (i := 0) (ks := []) (by decide +kernel) rfl ?_
          refine ty_getS (b := (12, 0)) (pc := 36) (idx := 28) (ci := 8) (f := 0) (by decide +kernel) (by first | rfl | assumption) rfl (by first | exact hS.1 _ _ rfl | assumption) (by first | exact hS.2.2 _ _ _ _ rfl | assumption) ?_
          refine ty_iload_n (pc := 39) (i := 2) (ks := []) (by decide +kernel) rfl ?_
          -- at 40: .invokevirtual 40
          refine ty_callv (pc := 40) (idx := 40) (m := 67) (n := 2) (c := 1) (vs := [_]) (r := [_]) (by decide +kernel) rfl rfl (Nat.le_of_ble_eq_true rfl) (by first | rfl | assumption) (by first | exact hS.1 _ _ rfl | assumption) (ct_arityOf _ hS (by omega)) ?_
          rintro _ S4 ⟨z, rfl, rfl, rfl⟩
          rw [hay]
          refine ty_KI ?_
          refine ty_icmp_eq (pc := 43) (off := 5) (t := 48) (ks := []) (by decide +kernel) (by omega) (by omega) (fun hc => ?_) (fun hc => ?_)
          · rw [if_pos ⟨hcl, hc⟩]
            refine ty_aload_n (pc := 48) (i := 0) (ks := []) (by decide +kernel) rfl ?_
            refine ty_iload_n (pc := 49) (i := 1) (ks := []) (by decide +kernel) rfl ?_
            refine ty_iload_n (pc := 50) (i := 2) (ks := []) (by decide +kernel) rfl ?_
            -- at 51: .invokevirtual 72
            refine ty_callv (pc := 51) (idx := 72) (m := 71) (n := 3) (c := 8) (vs := [_, _]) (r := []) (by decide +kernel) rfl rfl (Nat.le_of_ble_eq_true rfl) (by first | rfl | assumption) (by first | exact hS.1 _ _ rfl | assumption) (cp_putArguments d hS hG hw hox hoy hc.symm (by omega) r6 hl) ?_
            rintro _ S5 ⟨rfl, l, r, o, rfl, hst⟩
            refine ty_KV ?_
            refine ty_goto (pc := 54) (off := 139) (t := 193) (ks := []) (by decide +kernel) ?_
            refine ty_iconst (pc := 193) (n := 1) (ks := []) (by decide +kernel) ?_
            -- at 194: .ireturn
            refine ty_ret_i (pc := 194) (ks := []) (ty := .boolean) (by decide +kernel) rfl (ty_fit_z (by omega)) ?_
            obtain ⟨q1, q2, q3⟩ := cp_R_stk hR0 hst
            exact ⟨_, rfl, rfl, cp_R_le q1 (by omega), q2, q3, rfl, cp_fl0 (ty_sI_ne (by decide)), fun _ => cp_tr_s hV⟩
          · rw [if_neg (fun z => hc z.2)]
            refine ty_iconst (pc := 46) (n := 0) (ks := []) (by decide +kernel) ?_
            -- at 47: .ireturn
            refine ty_ret_i (pc := 47) (ks := []) (ty := .boolean) (by decide +kernel) rfl (ty_fit_z (by omega)) ?_
            exact ⟨_, rfl, rfl, rfl⟩
  · have to57 : ∀ Q, ty_W L xs (d + 2) 86 57 [some (.inr (.inr (some (38, 0)))), some (.inl (ty_J x)), some (.inl (ty_J y)), some (.inl (ty_J tb)), none, none] [] S Q → ty_W L xs (d + 2) 86 0 [some (.inr (.inr (some (38, 0)))), some (.inl (ty_J x)), some (.inl (ty_J y)), some (.inl (ty_J tb)), none, none] [] S Q := by
      intro Q h
      refine ty_iload_n (pc := 0) (i := 1) (ks := []) (by decide +kernel) rfl ?_
      -- at 1: .ifCond .lt 56
      refine ty_if_lt (pc := 1) (off := 56) (t := 57) (ks := []) (by decide +kernel) (by omega) (fun hc => ?_) (fun hc => ?_)
      · exact h
      · refine ty_iload_n (pc := 4) (i := 2) (ks := []) (by decide +kernel) rfl ?_
        -- at 5: .ifCond .lt 52
        refine ty_if_lt (pc := 5) (off := 52) (t := 57) (ks := []) (by decide +kernel) (by omega) (fun hc => ?_) (fun hc => ?_)
        · exact h
        · omega
    refine to57 _ ?_
    unfold mo_u1
    rw [if_neg hxy]
    by_cases hneg : x < 0 ∧ y < 0
    · -- both are free
      rw [if_pos hneg]
      have fx : 0 ≤ -1 - x ∧ -1 - x < made ∧ bd (-1 - x) = mo_F := by
        rcases hx with z | z
        · exact z.2
        · omega
      have fy : 0 ≤ -1 - y ∧ -1 - y < made ∧ bd (-1 - y) = mo_F := by
        rcases hy with z | z
        · exact z.2
        · omega
      refine ty_iload_n (pc := 57) (i := 1) (ks := []) (by decide +kernel) rfl ?_
      -- at 58: .ifCond .ge 92
      refine ty_if_ge (pc := 58) (off := 92) (t := 150) (ks := []) (by decide +kernel) (by omega) (fun hc => ?_) (fun hc => ?_)
      · omega
      · refine ty_iload_n (pc := 61) (i := 2) (ks := []) (by decide +kernel) rfl ?_
        -- at 62: .ifCond .ge 88
        refine ty_if_ge (pc := 62) (off := 88) (t := 150) (ks := []) (by decide +kernel) (by omega) (fun hc => ?_) (fun hc => ?_)
        · omega
        · refine ty_iload_n (pc := 65) (i := 1) (ks := []) (by decide +kernel) rfl ?_
          refine ty_iconst (pc := 66) (n := (-1)) (ks := []) (by decide +kernel) ?_
          refine ty_inot (pc := 67) (ks := []) (by decide +kernel) ?_
          refine ty_iload_n (pc := 68) (i := 2) (ks := []) (by decide +kernel) rfl ?_
          refine ty_iconst (pc := 69) (n := (-1)) (ks := []) (by decide +kernel) ?_
          refine ty_inot (pc := 70) (ks := []) (by decide +kernel) ?_
          refine ty_max (pc := 71) (ins := .invokestatic 75) (ks := []) (by decide +kernel) (by omega) (by omega) (Nat.le_of_ble_eq_true rfl) (fun z hz => ?_)
          -- at 74: .istore 4
          -- the greater, the lesser
          have key : ∀ (hi lo : Int) (u : mo_U), (if -1 - x < -1 - y then -1 - y else -1 - x) = hi → (if -1 - y < -1 - x then -1 - y else -1 - x) = lo → 0 ≤ lo → lo < hi → hi < made → bd lo = mo_F → bd hi = mo_F → u = (ps, mo_up bd hi (-1 - lo), if tr = true then ch else mo_upc ch lo (ch lo ++ ch hi), wk, true) →
              ty_W L xs (d + 2) 86 94 [some (.inr (.inr (some (38, 0)))), some (.inl (ty_J x)), some (.inl (ty_J y)), some (.inl (ty_J tb)), some (.inl (ty_J hi)), some (.inl (ty_J lo))] [] S (ty_oI (cp_1 S B F E n G made ns sl st tr fl (some u))) := by
            rintro hi lo u h1 h2 h3 h4 h5 h6 h7 rfl
            have hnf : (-1 - lo) ≠ mo_F := mo_ne_F (.inl (by omega))
            obtain ⟨q1, q2, q3⟩ := cp_R_bind hR0 (v := hi) (t := -1 - lo) ⟨by omega, h5, h7⟩ hnf true
            refine ty_aload_n (pc := 94) (i := 0) (ks := []) (by decide +kernel) rfl ?_
            refine ty_getS (b := (13, 0)) (pc := 95) (idx := 32) (ci := 8) (f := 1) (by decide +kernel) (by first | rfl | assumption) rfl (by first | exact hS.1 _ _ rfl | assumption) (by first | exact hS.2.2 _ _ _ _ rfl | assumption) ?_
            refine ty_iload (pc := 98) (i := 4) (ks := []) (by decide +kernel) rfl ?_
            refine ty_iload (pc := 100) (i := 5) (ks := []) (by decide +kernel) rfl ?_
            refine ty_iconst (pc := 102) (n := (-1)) (ks := []) (by decide +kernel) ?_
            refine ty_inot (pc := 103) (ks := []) (by decide +kernel) ?_
            -- at 104: .invokevirtual 83
            refine ty_callv (pc := 104) (idx := 83) (m := 87) (n := 3) (c := 2) (vs := [_, _]) (r := []) (by decide +kernel) rfl rfl (Nat.le_of_ble_eq_true rfl) (by first | rfl | assumption) (by first | exact hS.1 _ _ rfl | assumption) (cv_bind (d + 1) hS hV (bc := S.1 (13, 0) 7) (by omega) rfl (by omega)) ?_
            rintro _ S1 ⟨rfl, e1⟩
            have e1 : S1 = cp_b S B hi (-1 - lo) := e1
            rw [e1]
            refine ty_KV ?_
            have hS1 : ty_st (cp_b S B hi (-1 - lo)) := hS
            refine ty_iload (pc := 107) (i := 4) (ks := []) (by decide +kernel) rfl ?_
            refine ty_iload (pc := 109) (i := 5) (ks := []) (by decide +kernel) rfl ?_
            -- at 111: .if_icmp .eq 36
            refine ty_icmp_eq (pc := 111) (off := 36) (t := 147) (ks := []) (by decide +kernel) (by omega) (by omega) (fun hc => ?_) (fun hc => ?_)
            · omega
            · refine ty_iload_n (pc := 114) (i := 3) (ks := []) (by decide +kernel) rfl ?_
              -- at 115: .ifCond .ne 32
              refine ty_if_ne (pc := 115) (off := 32) (t := 147) (ks := []) (by decide +kernel) (by omega) (fun hc => ?_) (fun hc => ?_)
              · have ht : tr = true := by
                  cases tr
                  · simp [htb] at hc
                  · rfl
                refine ty_goto (pc := 147) (off := 46) (t := 193) (ks := []) (by decide +kernel) ?_
                refine ty_iconst (pc := 193) (n := 1) (ks := []) (by decide +kernel) ?_
                -- at 194: .ireturn
                refine ty_ret_i (pc := 194) (ks := []) (ty := .boolean) (by decide +kernel) rfl (ty_fit_z (by omega)) ?_
                rw [if_pos ht]
                exact ⟨_, rfl, rfl, cp_R_le q1 (by omega), q2, q3, rfl, cp_fl1 ty_sI_at, fun _ => cp_tr_b hV⟩
              · have ht : ¬ tr = true := by
                  intro z
                  simp [htb, z] at hc
                have q0 := q1
                obtain ⟨s1, s2, s3, s4, s5, s6, s7, s8, s9, s10, s11, s12⟩ := q1
                obtain ⟨⟨b1, b2, b3⟩, ⟨k1, k2, k3⟩, ⟨p1, p2, p3⟩, ⟨n1, n2, n3⟩, ⟨m1, m2, m3⟩, -, -⟩ := s2
                obtain ⟨a1, a2, a3⟩ := cp_b_A hV (v := hi) (t := -1 - lo)
                have n26 := (cv_ne hV (s := 26) (i := 0) (by decide)).1
                have aF : (cp_b S B hi (-1 - lo)).2.2.1 F = S.2.2.1 F := a3 F (fun z => m1 z.symm) n26.2.1
                have aE : (cp_b S B hi (-1 - lo)).2.2.1 E = S.2.2.1 E := a3 E (fun z => m2 z.symm) n26.2.2
                have aX : (cp_b S B hi (-1 - lo)).2.2.1 (28, 0) = S.2.2.1 (28, 0) := a3 _ (cv_ne hV (by decide)).2.1 (by decide)
                obtain ⟨vlo1, vlo2⟩ := r8.2 lo h3 (by omega) h6
                obtain ⟨vhi1, vhi2⟩ := r8.2 hi (by omega) h5 h7
                obtain ⟨c1, c2, c3⟩ := hcw.1 lo h3 (by omega) h6
                obtain ⟨g1, g2, g3⟩ := hcw.1 hi (by omega) h5 h7
                have bl : -1 ≤ S.2.2.1 E lo ∧ S.2.2.1 E lo < ns := by
                  rw [vlo2]
                  by_cases z : ch lo = []
                  · rw [z]; exact ⟨by decide, by have : mo_last [] = -1 := rfl; omega⟩
                  · have := c1 _ (mo_last_mem z)
                    omega
                have bf : -1 ≤ S.2.2.1 F hi ∧ S.2.2.1 F hi < 500 := by
                  cases hh : ch hi with
                  | nil =>
                    rw [hh] at vhi1
                    have : S.2.2.1 F hi = -1 := vhi1
                    omega
                  | cons e es =>
                    rw [hh] at vhi1
                    have h8 : S.2.2.1 F hi = e := vhi1.1
                    have h9 := g1 e (by rw [hh]; exact List.mem_cons_self)
                    omega
                refine ty_aload_n (pc := 118) (i := 0) (ks := []) (by decide +kernel) rfl ?_
                refine ty_getS (b := (13, 0)) (pc := 119) (idx := 32) (ci := 8) (f := 1) (by decide +kernel) (by first | rfl | assumption) rfl (by first | exact hS.1 _ _ rfl | assumption) (by first | exact hS.2.2 _ _ _ _ rfl | assumption) ?_
                refine ty_iload (pc := 122) (i := 5) (ks := []) (by decide +kernel) rfl ?_
                refine ty_aload_n (pc := 124) (i := 0) (ks := []) (by decide +kernel) rfl ?_
                refine ty_getS (b := (13, 0)) (pc := 125) (idx := 32) (ci := 8) (f := 1) (by decide +kernel) (by first | rfl | assumption) rfl (by first | exact hS.1 _ _ rfl | assumption) (by first | exact hS.2.2 _ _ _ _ rfl | assumption) ?_
                first | refine ty_getS (pc := 128) (idx := 86) (ci := 2) (f := 2) (by decide +kernel) (by first | rfl | assumption) rfl (by first | exact hS.1 _ _ rfl | assumption) (by assumption) ?_ | (refine ty_getR (pc := 128) (idx := 86) (ci := 2) (f := 2) (by decide +kernel) (by first | rfl | assumption) rfl (by first | exact hS.1 _ _ rfl | assumption) (fun v hv => ?_); (subst hv))
                refine ty_iload (pc := 131) (i := 4) (ks := []) (by decide +kernel) rfl ?_
                -- at 133: .iaload
                refine ty_iaload (pc := 133) (ks := []) (by decide +kernel) k2 (by rfl) p2 n2 (by omega) (fun v hv => ?_)
                rw [aF] at hv
                subst hv
                refine ty_aload_n (pc := 134) (i := 0) (ks := []) (by decide +kernel) rfl ?_
                refine ty_getS (b := (13, 0)) (pc := 135) (idx := 32) (ci := 8) (f := 1) (by decide +kernel) (by first | rfl | assumption) rfl (by first | exact hS.1 _ _ rfl | assumption) (by first | exact hS.2.2 _ _ _ _ rfl | assumption) ?_
                first | refine ty_getS (pc := 138) (idx := 89) (ci := 2) (f := 3) (by decide +kernel) (by first | rfl | assumption) rfl (by first | exact hS.1 _ _ rfl | assumption) (by assumption) ?_ | (refine ty_getR (pc := 138) (idx := 89) (ci := 2) (f := 3) (by decide +kernel) (by first | rfl | assumption) rfl (by first | exact hS.1 _ _ rfl | assumption) (fun v hv => ?_); (subst hv))
                refine ty_iload (pc := 141) (i := 4) (ks := []) (by decide +kernel) rfl ?_
                -- at 143: .iaload
                refine ty_iaload (pc := 143) (ks := []) (by decide +kernel) k3 (by rfl) p3 n3 (by omega) (fun v hv => ?_)
                rw [aE] at hv
                subst hv
                have ig : (cp_b S B hi (-1 - lo)).1 (13, 0) 13 = S.1 (13, 0) 13 := ty_sI_ne (by decide)
                refine ty_callv (pc := 144) (idx := 92) (m := 80) (n := 4) (c := 2) (vs := [_, _, _]) (r := []) (by decide +kernel) rfl rfl (Nat.le_of_ble_eq_true rfl) (by first | rfl | assumption) (by first | exact hS.1 _ _ rfl | assumption) (cv_linkBehind (d + 1) (by exact hS) (by exact hV) (gc := S.1 (13, 0) 13) (by omega) bf (by exact ig) (by omega) (by rw [aE]; omega)) ?_
                rintro _ S2 ⟨rfl, e2⟩
                refine ty_KV ?_
                refine ty_goto (pc := 147) (off := 46) (t := 193) (ks := []) (by decide +kernel) ?_
                refine ty_iconst (pc := 193) (n := 1) (ks := []) (by decide +kernel) ?_
                -- at 194: .ireturn
                refine ty_ret_i (pc := 194) (ks := []) (ty := .boolean) (by decide +kernel) rfl (ty_fit_z (by omega)) ?_
                rw [if_neg ht]
                by_cases hz : ch hi = []
                · have hf1 : S.2.2.1 F hi = -1 := by
                    rw [hz] at vhi1
                    exact vhi1
                  rw [if_pos hf1] at e2
                  subst e2
                  have ech : mo_upc ch lo (ch lo ++ ch hi) = ch := by
                    funext j
                    simp only [mo_upc]
                    by_cases z : j = lo
                    · rw [if_pos z, hz, List.append_nil, z]
                    · rw [if_neg z]
                  rw [ech]
                  exact ⟨_, rfl, rfl, cp_R_le q0 (by omega), q2, q3, rfl, cp_fl1 ty_sI_at, fun z => absurd z ht⟩
                · have hf1 : S.2.2.1 F hi ≠ -1 := fun z => hz ((mo_lnk_nil vhi1).mp z)
                  rw [if_neg hf1] at e2
                  have hrv := cv_rv_link r8 hcw hnf ⟨h3, h4, h5, h6, h7⟩ hz
                  obtain ⟨w1, w2, w3⟩ := cp_R_link q0 (v := lo) (first := S.2.2.1 F hi) (last := S.2.2.1 E hi) (ch' := mo_upc ch lo (ch lo ++ ch hi)) ⟨h3, by omega⟩ (by rw [aE]; exact bl) (by rw [ig]; omega) (fun z => by
                    rw [aE, vlo2] at z
                    rw [aF]
                    by_cases y9 : ch lo = []
                    · rw [y9] at vlo1; exact vlo1
                    · have := c1 _ (mo_last_mem y9)
                      omega) (fun z => by
                    rw [aE] at z ⊢
                    rw [aX, vlo2]
                    refine mo_lnk_last vlo1 (fun y9 => z ?_)
                    rw [vlo2, y9]
                    rfl) (by
                    rw [a1, aF, aE, aX]
                    exact hrv)
                  rw [ig] at w1 w2 w3
                  rw [e2]
                  exact ⟨_, rfl, rfl, cp_R_le w1 (by omega), q2.trans w2, q3.trans w3, by rw [cv_lk_2.2]; rfl, cp_fl1 (by rw [cv_lk_I, ty_sI_ne (by decide)]; exact ty_sI_at), fun z => absurd z ht⟩
          by_cases he : x = y
          · rw [if_pos he]
            refine ty_istore (pc := 74) (i := 4) (ks := []) (ls' := [_, _, _, _, _, _]) (by decide +kernel) rfl ?_
            refine ty_iload_n (pc := 76) (i := 1) (ks := []) (by decide +kernel) rfl ?_
            refine ty_iconst (pc := 77) (n := (-1)) (ks := []) (by decide +kernel) ?_
            refine ty_inot (pc := 78) (ks := []) (by decide +kernel) ?_
            refine ty_iload_n (pc := 79) (i := 2) (ks := []) (by decide +kernel) rfl ?_
            refine ty_iconst (pc := 80) (n := (-1)) (ks := []) (by decide +kernel) ?_
            refine ty_inot (pc := 81) (ks := []) (by decide +kernel) ?_
            -- at 82: .invokestatic 80
            refine ty_min (pc := 82) (ins := .invokestatic 80) (ks := []) (by decide +kernel) (by omega) (by omega) (Nat.le_of_ble_eq_true rfl) (fun z2 hz2 => ?_)
            have hzz : z = z2 := by
              rw [← hz, ← hz2, he]
            refine ty_istore (pc := 85) (i := 5) (ks := []) (ls' := [_, _, _, _, _, _]) (by decide +kernel) rfl ?_
            refine ty_iload (pc := 87) (i := 4) (ks := []) (by decide +kernel) rfl ?_
            refine ty_iload (pc := 89) (i := 5) (ks := []) (by decide +kernel) rfl ?_
            -- at 91: .if_icmp .eq 16
            have hzr : -1 ≤ z ∧ z ≤ 200000 := by
              rw [← hz]
              split <;> omega
            refine ty_icmp_eq (pc := 91) (off := 16) (t := 107) (ks := []) (by decide +kernel) (by omega) (by omega) (fun hc => ?_) (fun hc => ?_)
            · refine ty_iload (pc := 107) (i := 4) (ks := []) (by decide +kernel) rfl ?_
              refine ty_iload (pc := 109) (i := 5) (ks := []) (by decide +kernel) rfl ?_
              -- at 111: .if_icmp .eq 36
              refine ty_icmp_eq (pc := 111) (off := 36) (t := 147) (ks := []) (by decide +kernel) (by omega) (by omega) (fun hc => ?_) (fun hc => ?_)
              · refine ty_goto (pc := 147) (off := 46) (t := 193) (ks := []) (by decide +kernel) ?_
                refine ty_iconst (pc := 193) (n := 1) (ks := []) (by decide +kernel) ?_
                -- at 194: .ireturn
                refine ty_ret_i (pc := 194) (ks := []) (ty := .boolean) (by decide +kernel) rfl (ty_fit_z (by omega)) ?_
                exact ⟨_, rfl, rfl, cp_R_le hR0 (by omega), cp_fm.refl, cp_ud.refl, rfl, cp_fl0 rfl, fun _ => cp_tr.refl⟩
              · omega
            · omega
          · rw [if_neg he]
            refine ty_istore (pc := 74) (i := 4) (ks := []) (ls' := [_, _, _, _, _, _]) (by decide +kernel) rfl ?_
            refine ty_iload_n (pc := 76) (i := 1) (ks := []) (by decide +kernel) rfl ?_
            refine ty_iconst (pc := 77) (n := (-1)) (ks := []) (by decide +kernel) ?_
            refine ty_inot (pc := 78) (ks := []) (by decide +kernel) ?_
            refine ty_iload_n (pc := 79) (i := 2) (ks := []) (by decide +kernel) rfl ?_
            refine ty_iconst (pc := 80) (n := (-1)) (ks := []) (by decide +kernel) ?_
            refine ty_inot (pc := 81) (ks := []) (by decide +kernel) ?_
            -- at 82: .invokestatic 80
            refine ty_min (pc := 82) (ins := .invokestatic 80) (ks := []) (by decide +kernel) (by omega) (by omega) (Nat.le_of_ble_eq_true rfl) (fun z2 hz2 => ?_)
            have hzr : -1 ≤ z ∧ z ≤ 200000 := by
              rw [← hz]
              split <;> omega
            have hzr2 : -1 ≤ z2 ∧ z2 ≤ 200000 := by
              rw [← hz2]
              split <;> omega
            refine ty_istore (pc := 85) (i := 5) (ks := []) (ls' := [_, _, _, _, _, _]) (by decide +kernel) rfl ?_
            refine ty_iload (pc := 87) (i := 4) (ks := []) (by decide +kernel) rfl ?_
            refine ty_iload (pc := 89) (i := 5) (ks := []) (by decide +kernel) rfl ?_
            -- at 91: .if_icmp .eq 16
            refine ty_icmp_eq (pc := 91) (off := 16) (t := 107) (ks := []) (by decide +kernel) (by omega) (by omega) (fun hc => ?_) (fun hc => ?_)
            · exfalso
              rw [← hz, ← hz2] at hc
              split at hc <;> split at hc <;> omega
            · by_cases hlt : x < y
              · rw [if_pos hlt]
                have g1 : z = -1 - x := by rw [← hz, if_neg (by omega)]
                have g2 : z2 = -1 - y := by rw [← hz2, if_pos (by omega)]
                refine key z z2 _ hz hz2 (by omega) (by omega) (by omega) (by rw [g2]; exact fy.2.2) (by rw [g1]; exact fx.2.2) ?_
                rw [g1, g2, show -1 - (-1 - y) = y by omega]
              · rw [if_neg hlt]
                have g1 : z = -1 - y := by rw [← hz, if_pos (by omega)]
                have g2 : z2 = -1 - x := by rw [← hz2, if_neg (by omega)]
                refine key z z2 _ hz hz2 (by omega) (by omega) (by omega) (by rw [g2]; exact fx.2.2) (by rw [g1]; exact fy.2.2) ?_
                rw [g1, g2, show -1 - (-1 - x) = x by omega]
    · -- a free variable and a term
      rw [if_neg hneg]
      have key : ∀ (v t : Int) (u : mo_U), 0 ≤ v → v < made → bd v = mo_F → 0 ≤ t → t ≤ 100000 * 624 + 623 → u = (ps, mo_up bd v t, ch, if tr = true then wk else wk ++ ch v, true) →
          ty_W L xs (d + 2) 86 180 [some (.inr (.inr (some (38, 0)))), some (.inl (ty_J x)), some (.inl (ty_J y)), some (.inl (ty_J tb)), some (.inl (ty_J v)), none] [.inl (ty_J t), .inl (ty_J v), .inr (.inr (some (13, 0)))] S (ty_oI (cp_1 S B F E n G made ns sl st tr fl (some u))) := by
        rintro v t u h1 h2 h3 h4 h5 rfl
        have hnf : t ≠ mo_F := mo_ne_F (.inr h4)
        obtain ⟨q1, q2, q3⟩ := cp_R_bind hR0 (v := v) (t := t) ⟨h1, h2, h3⟩ hnf true
        refine ty_callv (pc := 180) (idx := 83) (m := 87) (n := 3) (c := 2) (vs := [_, _]) (r := []) (by decide +kernel) rfl rfl (Nat.le_of_ble_eq_true rfl) (by first | rfl | assumption) (by first | exact hS.1 _ _ rfl | assumption) (cv_bind (d + 1) hS hV (bc := S.1 (13, 0) 7) (by omega) rfl (by omega)) ?_
        rintro _ S1 ⟨rfl, e1⟩
        have e1 : S1 = cp_b S B v t := e1
        rw [e1]
        refine ty_KV ?_
        have hS1 : ty_st (cp_b S B v t) := hS
        refine ty_iload_n (pc := 183) (i := 3) (ks := []) (by decide +kernel) rfl ?_
        -- at 184: .ifCond .ne 9
        refine ty_if_ne (pc := 184) (off := 9) (t := 193) (ks := []) (by decide +kernel) (by omega) (fun hc => ?_) (fun hc => ?_)
        · have ht : tr = true := by
            cases tr
            · simp [htb] at hc
            · rfl
          refine ty_iconst (pc := 193) (n := 1) (ks := []) (by decide +kernel) ?_
          -- at 194: .ireturn
          refine ty_ret_i (pc := 194) (ks := []) (ty := .boolean) (by decide +kernel) rfl (ty_fit_z (by omega)) ?_
          rw [if_pos ht]
          exact ⟨_, rfl, rfl, cp_R_le q1 (by omega), q2, q3, rfl, cp_fl1 ty_sI_at, fun _ => cp_tr_b hV⟩
        · have ht : ¬ tr = true := by
            intro z
            simp [htb, z] at hc
          obtain ⟨vv1, vv2⟩ := r8.2 v h1 h2 h3
          obtain ⟨g1, g2, g3⟩ := hcw.1 v h1 h2 h3
          obtain ⟨a1, a2, a3⟩ := cp_b_A hV (v := v) (t := t)
          have n26 := (cv_ne hV (s := 26) (i := 0) (by decide)).1
          have m1 := hV.2.2.2.2.1
          have aF : (cp_b S B v t).2.2.1 F = S.2.2.1 F := a3 F (fun z => m1.1 z.symm) n26.2.1
          have aX : (cp_b S B v t).2.2.1 (28, 0) = S.2.2.1 (28, 0) := a3 _ (cv_ne hV (by decide)).2.1 (by decide)
          have iw : (cp_b S B v t).1 (38, 0) 7 = wk.length := by
            rw [show (cp_b S B v t).1 (38, 0) 7 = S.1 (38, 0) 7 from ty_sI_ne (by decide)]
            exact r7.1
          have hcnt : wk.length + (ch v).length ≤ 500 := by
            have hnd : (wk ++ ch v).Nodup := by
              have h9 := (mo_cw_wake hcw hnf ⟨h1, h2, h3⟩).2.2.1
              rw [List.append_assoc] at h9
              exact (List.nodup_append.mp h9).2.1
            have := mo_count 500 (wk ++ ch v) hnd (fun e he => by
              rcases List.mem_append.mp he with z | z
              · have := hcw.2.2.2 e (List.mem_append_right _ z)
                omega
              · have := g1 e z
                omega)
            rw [List.length_append] at this
            exact this
          refine ty_aload_n (pc := 187) (i := 0) (ks := []) (by decide +kernel) rfl ?_
          refine ty_iload (pc := 188) (i := 4) (ks := []) (by decide +kernel) rfl ?_
          -- at 190: .invokevirtual 96
          refine ty_callv (pc := 190) (idx := 96) (m := 88) (n := 2) (c := 8) (vs := [_]) (r := []) (by decide +kernel) rfl rfl (Nat.le_of_ble_eq_true rfl) (by first | rfl | assumption) (by first | exact hS.1 _ _ rfl | assumption) (cp_wake (d + 1) (by exact hS) (by exact hV) (es := ch v) (by omega) (by exact iw) (by rw [aX, aF]; exact vv1) (fun e he => by have := g1 e he; omega) (by omega)) ?_
          rintro _ S2 ⟨rfl, w, rfl, w1, w2⟩
          refine ty_KV ?_
          refine ty_iconst (pc := 193) (n := 1) (ks := []) (by decide +kernel) ?_
          -- at 194: .ireturn
          refine ty_ret_i (pc := 194) (ks := []) (ty := .boolean) (by decide +kernel) rfl (ty_fit_z (by omega)) ?_
          rw [if_neg ht]
          obtain ⟨t1, t2, t3⟩ := cp_R_wake q1 (w := w) (es := ch v) g1 w1 w2
          exact ⟨_, rfl, rfl, cp_R_le t1 (by omega), q2.trans t2, q3.trans t3, rfl, cp_fl1 (by rw [ty_sI_ne (by decide)]; exact (ty_sI_at : (cp_b S B v t).1 (13, 0) 7 = _)), fun z => absurd z ht⟩
      have to150 : ∀ Q, ty_W L xs (d + 2) 86 150 [some (.inr (.inr (some (38, 0)))), some (.inl (ty_J x)), some (.inl (ty_J y)), some (.inl (ty_J tb)), none, none] [] S Q → ty_W L xs (d + 2) 86 57 [some (.inr (.inr (some (38, 0)))), some (.inl (ty_J x)), some (.inl (ty_J y)), some (.inl (ty_J tb)), none, none] [] S Q := by
        intro Q h
        refine ty_iload_n (pc := 57) (i := 1) (ks := []) (by decide +kernel) rfl ?_
        -- at 58: .ifCond .ge 92
        refine ty_if_ge (pc := 58) (off := 92) (t := 150) (ks := []) (by decide +kernel) (by omega) (fun hc => ?_) (fun hc => ?_)
        · exact h
        · refine ty_iload_n (pc := 61) (i := 2) (ks := []) (by decide +kernel) rfl ?_
          -- at 62: .ifCond .ge 88
          refine ty_if_ge (pc := 62) (off := 88) (t := 150) (ks := []) (by decide +kernel) (by omega) (fun hc => ?_) (fun hc => ?_)
          · exact h
          · omega
      refine to150 _ ?_
      by_cases hx0 : x < 0
      · rw [if_pos hx0]
        have fx : 0 ≤ -1 - x ∧ -1 - x < made ∧ bd (-1 - x) = mo_F := by
          rcases hx with z | z
          · exact z.2
          · omega
        refine ty_iload_n (pc := 150) (i := 1) (ks := []) (by decide +kernel) rfl ?_
        -- at 151: .ifCond .ge 9
        refine ty_if_ge (pc := 151) (off := 9) (t := 160) (ks := []) (by decide +kernel) (by omega) (fun hc => ?_) (fun hc => ?_)
        · omega
        · refine ty_iload_n (pc := 154) (i := 1) (ks := []) (by decide +kernel) rfl ?_
          refine ty_iconst (pc := 155) (n := (-1)) (ks := []) (by decide +kernel) ?_
          refine ty_inot (pc := 156) (ks := []) (by decide +kernel) ?_
          refine ty_goto (pc := 157) (off := 6) (t := 163) (ks := []) (by decide +kernel) ?_
          refine ty_istore (pc := 163) (i := 4) (ks := []) (ls' := [_, _, _, _, _, _]) (by decide +kernel) rfl ?_
          refine ty_aload_n (pc := 165) (i := 0) (ks := []) (by decide +kernel) rfl ?_
          refine ty_getS (b := (13, 0)) (pc := 166) (idx := 32) (ci := 8) (f := 1) (by decide +kernel) (by first | rfl | assumption) rfl (by first | exact hS.1 _ _ rfl | assumption) (by first | exact hS.2.2 _ _ _ _ rfl | assumption) ?_
          refine ty_iload (pc := 169) (i := 4) (ks := []) (by decide +kernel) rfl ?_
          refine ty_iload_n (pc := 171) (i := 1) (ks := []) (by decide +kernel) rfl ?_
          -- at 172: .ifCond .ge 7
          refine ty_if_ge (pc := 172) (off := 7) (t := 179) (ks := []) (by decide +kernel) (by omega) (fun hc => ?_) (fun hc => ?_)
          · omega
          · refine ty_iload_n (pc := 175) (i := 2) (ks := []) (by decide +kernel) rfl ?_
            refine ty_goto (pc := 176) (off := 4) (t := 180) (ks := []) (by decide +kernel) ?_
            -- at 180: .invokevirtual 83
            exact key (-1 - x) y _ fx.1 fx.2.1 fx.2.2 (by omega) hyr.2 rfl
      · rw [if_neg hx0]
        have fy : 0 ≤ -1 - y ∧ -1 - y < made ∧ bd (-1 - y) = mo_F := by
          rcases hy with z | z
          · exact z.2
          · omega
        refine ty_iload_n (pc := 150) (i := 1) (ks := []) (by decide +kernel) rfl ?_
        -- at 151: .ifCond .ge 9
        refine ty_if_ge (pc := 151) (off := 9) (t := 160) (ks := []) (by decide +kernel) (by omega) (fun hc => ?_) (fun hc => ?_)
        · refine ty_iload_n (pc := 160) (i := 2) (ks := []) (by decide +kernel) rfl ?_
          refine ty_iconst (pc := 161) (n := (-1)) (ks := []) (by decide +kernel) ?_
          refine ty_inot (pc := 162) (ks := []) (by decide +kernel) ?_
          refine ty_istore (pc := 163) (i := 4) (ks := []) (ls' := [_, _, _, _, _, _]) (by decide +kernel) rfl ?_
          refine ty_aload_n (pc := 165) (i := 0) (ks := []) (by decide +kernel) rfl ?_
          refine ty_getS (b := (13, 0)) (pc := 166) (idx := 32) (ci := 8) (f := 1) (by decide +kernel) (by first | rfl | assumption) rfl (by first | exact hS.1 _ _ rfl | assumption) (by first | exact hS.2.2 _ _ _ _ rfl | assumption) ?_
          refine ty_iload (pc := 169) (i := 4) (ks := []) (by decide +kernel) rfl ?_
          refine ty_iload_n (pc := 171) (i := 1) (ks := []) (by decide +kernel) rfl ?_
          -- at 172: .ifCond .ge 7
          refine ty_if_ge (pc := 172) (off := 7) (t := 179) (ks := []) (by decide +kernel) (by omega) (fun hc => ?_) (fun hc => ?_)
          · refine ty_iload_n (pc := 179) (i := 1) (ks := []) (by decide +kernel) rfl ?_
            -- at 180: .invokevirtual 83
            exact key (-1 - y) x _ fy.1 fy.2.1 fy.2.2 (by omega) hxr.2 rfl
          · omega
        · omega
end CPM
end
section
/-! MAKING TERMS SAME: the whole of it. -/
/-- all pairs, with the steps that are left -/
def mo_ur (G : mo_G) (tr : Bool) (st : Int) (u : mo_U) : Int × Int × (Int → Int) × (Int → List Int) × List Int × Bool := mo_un G tr (501 - st).toNat st u
theorem mo_un_inv {G : mo_G} (hw : mo_wf G) {made ns : Int} (hmade : made ≤ 100000) {tr : Bool} {dn : List Int} : ∀ (m : Nat) (st : Int) (ps : List (Int × Int)) (bd : Int → Int) (ch : Int → List Int) (wk : List Int) (fl : Bool), 501 - st ≤ m → st ≤ 500 → mo_po G made ps → mo_bw G made bd → mo_cw made ns bd ch (dn ++ wk) →
    ((mo_un G tr m st (ps, bd, ch, wk, fl)).1 = 0 ∨ (mo_un G tr m st (ps, bd, ch, wk, fl)).1 = 1 ∨ (mo_un G tr m st (ps, bd, ch, wk, fl)).1 = 2) ∧ (st ≤ (mo_un G tr m st (ps, bd, ch, wk, fl)).2.1 ∧ (mo_un G tr m st (ps, bd, ch, wk, fl)).2.1 ≤ 500) ∧ mo_bw G made (mo_un G tr m st (ps, bd, ch, wk, fl)).2.2.1 ∧ mo_cw made ns (mo_un G tr m st (ps, bd, ch, wk, fl)).2.2.1 (mo_un G tr m st (ps, bd, ch, wk, fl)).2.2.2.1 (dn ++ (mo_un G tr m st (ps, bd, ch, wk, fl)).2.2.2.2.1) ∧
    (tr = true → (mo_un G tr m st (ps, bd, ch, wk, fl)).2.2.2.1 = ch ∧ (mo_un G tr m st (ps, bd, ch, wk, fl)).2.2.2.2.1 = wk) := by
  intro m
  induction m with
  | zero => intro st ps bd ch wk fl h1 h2; omega
  | succ m ih =>
    intro st ps bd ch wk fl h1 h2 hp hb hc
    cases ps with
    | nil => exact ⟨.inr (.inl rfl), ⟨Int.le_refl _, h2⟩, hb, hc, fun _ => ⟨rfl, rfl⟩⟩
    | cons p ps =>
      unfold mo_un
      by_cases e : 500 ≤ st
      · rw [if_pos e]
        exact ⟨.inr (.inr rfl), ⟨Int.le_refl _, h2⟩, hb, hc, fun _ => ⟨rfl, rfl⟩⟩
      · rw [if_neg e]
        have hpp := hp p List.mem_cons_self
        have v1 := mo_val_isval hw hb (.inl hpp.1)
        have v2 := mo_val_isval hw hb (.inl hpp.2)
        cases hu : mo_u1 G tr (mo_val G bd p.1) (mo_val G bd p.2) ps bd ch wk fl with
        | none => exact ⟨.inl rfl, ⟨show st ≤ st + 1 by omega, show st + 1 ≤ 500 by omega⟩, hb, hc, fun _ => ⟨rfl, rfl⟩⟩
        | some u =>
          obtain ⟨ps', bd', ch', wk', fl'⟩ := u
          obtain ⟨i1, i2, i3, i4, i5⟩ := mo_u1_inv hw hmade hu v1 v2 hb hc (fun q hq => hp q (List.mem_cons_of_mem _ hq))
          obtain ⟨j1, j2, j3, j4, j5⟩ := ih (st + 1) ps' bd' ch' wk' fl' (by omega) (by omega) i1 i2 i3
          refine ⟨j1, ⟨Int.le_trans (show st ≤ st + 1 by omega) j2.1, j2.2⟩, j3, j4, fun ht => ?_⟩
          obtain ⟨k1, k2⟩ := j5 ht
          obtain ⟨k3, k4⟩ := i5 ht
          exact ⟨k1.trans k3, k2.trans k4⟩
section CPL
variable {L : Nat} {xs : Nat → Int32} {S : ty_S} {B F E : ai_A} {n : Nat} {G : mo_G} {made ns st : Int} {sl : Int → Int}
/-- what it comes to -/
def cp_un (S : ty_S) (B F E : ai_A) (n : Nat) (G : mo_G) (made ns : Int) (sl : Int → Int) (tr fl : Bool) (r : Int × Int × (Int → Int) × (Int → List Int) × List Int × Bool) : ai_O → ty_S → Prop := fun o S' => (cp_fm S S' B F E ∧ (tr = true → cp_tr S S' F E)) ∧
  ((r.1 = 1 ∧ o = .inl (some (.inl (ty_J 1))) ∧ cp_R S' B F E n G made ns sl r.2.1 r.2.1 ([], r.2.2) ∧ cp_ud S S' B F E ∧ S'.2.2.2.2.2.2.2 = S.2.2.2.2.2.2.2 ∧ (r.2.2.2.2.2 = true ↔ fl = true ∨ S.1 (13, 0) 7 < S'.1 (13, 0) 7)) ∨
   (r.1 = 0 ∧ o = .inl (some (.inl (ty_J 0))) ∧ (∃ ps, cp_R S' B F E n G made ns sl r.2.1 r.2.1 (ps, r.2.2)) ∧ cp_ud S S' B F E ∧ S'.2.2.2.2.2.2.2 = S.2.2.2.2.2.2.2) ∨
   (r.1 = 2 ∧ o = .inr 1 ∧ S'.2.2.2.2.2.2.2 = (S.2.2.2.2.2.2.2.1 + 1, S.2.2.2.2.2.2.2.2 + 6)))
theorem cp_R_pop {p : Int × Int} {ps : List (Int × Int)} {v : (Int → Int) × (Int → List Int) × List Int × Bool} {k : Int} (hR : cp_R S B F E n G made ns sl st k (p :: ps, v)) (hst : st < 500) :
    cp_R (ty_sI (ty_sI S (37, 0) 0 (st + 1)) (38, 0) 5 (S.1 (38, 0) 5 - 1)) B F E n G made ns sl (st + 1) k (ps, v) ∧ cp_fm S (ty_sI (ty_sI S (37, 0) 0 (st + 1)) (38, 0) 5 (S.1 (38, 0) 5 - 1)) B F E ∧ cp_ud S (ty_sI (ty_sI S (37, 0) 0 (st + 1)) (38, 0) 5 (S.1 (38, 0) 5 - 1)) B F E := by
  obtain ⟨r1, r2, r3, r4, r5, r6, r7, r8, r9, r10, r11, r12⟩ := hR
  generalize hT : ty_sI (ty_sI S (37, 0) 0 (st + 1)) (38, 0) 5 (S.1 (38, 0) 5 - 1) = T
  have e2 : T.2 = S.2 := by rw [← hT]; rfl
  have i1 : ∀ b j, ¬ (b = (38, 0) ∧ j = 5) → ¬ (b = (37, 0) ∧ j = 0) → T.1 b j = S.1 b j := fun b j h h2 => by
    rw [← hT, ty_sI_ne h, ty_sI_ne h2]
  have i2 : T.1 (38, 0) 5 = S.1 (38, 0) 5 - 1 := by rw [← hT]; exact ty_sI_at
  have i3 : T.1 (37, 0) 0 = st + 1 := by rw [← hT, ty_sI_ne (by decide)]; exact ty_sI_at
  refine ⟨⟨?_, ?_, ?_, ?_, ?_, ?_, ?_, ?_, ?_, ?_, ?_, r12⟩, ⟨fun b j h1 h2 h3 => i1 b j (fun z => h2 z.1) (fun z => h1 z.1), by rw [e2], fun b _ _ _ _ _ _ _ _ _ _ => by rw [e2], by rw [e2], by rw [e2], by rw [e2], by rw [e2]⟩, ?_⟩
  · unfold ty_st; rw [e2]; exact r1
  · unfold cv_sh; rw [e2]; exact r2
  · unfold cv_g; rw [e2]; exact r3
  · rw [i1 _ _ (by decide) (by decide)]; exact r4
  · rw [i3]; exact ⟨rfl, by omega, by omega⟩
  · rw [e2, i2]; exact r6.2.2.2
  · rw [e2, i1 _ _ (by decide) (by decide)]; exact r7
  · rw [e2]; exact r8
  · rw [e2]; exact r9
  · rw [e2, i1 _ _ (by decide) (by decide)]; exact r10
  · rw [e2, i1 _ _ (by decide) (by decide)]; exact r11
  · refine ⟨by rw [i1 _ _ (by decide) (by decide)]; omega, by rw [i1 _ _ (by decide) (by decide)]; omega, fun q _ _ => ?_, fun q _ _ => ?_⟩
    · rw [e2, i1 _ _ (by decide) (by decide)]
    · rw [e2, i1 _ _ (by decide) (by decide)]
theorem cp_fm.sI {a : ai_A} {v : Int} (h : cp_fm S (ty_th S) B F E) : True := trivial
theorem cp_fm_th {S1 : ty_S} (h : cp_fm S S1 B F E) : cp_fm S (ty_th S1) B F E := h
theorem cp_loop (d : Nat) (hw : mo_wf G) (hmade : made ≤ 100000) {dn : List Int} (tr : Bool) {tb : Int} (htb : tb = if tr = true then 1 else 0) : ∀ (m : Nat) (S : ty_S) (st i : Int) (ps : List (Int × Int)) (bd : Int → Int) (ch : Int → List Int) (wk : List Int) (fl : Bool), m = (501 - st).toNat → 0 ≤ i → i ≤ st → ps.length ≤ 3 + 2 * st.toNat → cp_R S B F E n G made ns sl st st (ps, bd, ch, wk, fl) → mo_po G made ps → mo_bw G made bd → mo_cw made ns bd ch (dn ++ wk) →
    ty_W L xs (d + 3) 85 2 [some (.inr (.inr (some (38, 0)))), some (.inl (ty_J tb)), some (.inl (ty_J i))] [] S (cp_un S B F E n G made ns sl tr fl (mo_un G tr m st (ps, bd, ch, wk, fl))) := by
  intro m
  induction m with
  | zero =>
    intro S st i ps bd ch wk fl hm _ _ _ hR
    have := hR.2.2.2.2.1
    omega
  | succ m ih =>
    intro S st i ps bd ch wk fl hm h0 h1 hlen hR hp hb hcw
    have hR0 := hR
    obtain ⟨hS, hV, hG, r4, r5, r6, r7, r8, r9, r10, r11, r12⟩ := hR
    have hol := mo_stk_len r6
    have hol : S.1 (38, 0) 5 = ps.length := hol
    refine ty_iload_n (pc := 2) (i := 2) (ks := []) (by decide +kernel) rfl ?_
    refine ty_sipush (pc := 3) (n := 500) (ks := []) (by decide +kernel) (by omega) ?_
    -- at 6: .if_icmp .gt 75
    refine ty_icmp_gt (pc := 6) (off := 75) (t := 81) (ks := []) (by decide +kernel) (by omega) (by omega) (fun hc => ?_) (fun hc => ?_)
    · omega
    · refine ty_aload_n (pc := 9) (i := 0) (ks := []) (by decide +kernel) rfl ?_
      refine ty_getI (pc := 10) (idx := 18) (ci := 8) (f := 5) (by decide +kernel) (by first | rfl | assumption) rfl (by first | exact hS.1 _ _ rfl | assumption) (fun v hv => ?_)
      subst hv
      -- at 13: .ifCond .le 68
      cases ps with
      | nil =>
        have hol : S.1 (38, 0) 5 = 0 := hol
        refine ty_if_le (pc := 13) (off := 68) (t := 81) (ks := []) (by decide +kernel) (by omega) (fun hc => ?_) (fun hc => ?_)
        · refine ty_iconst (pc := 81) (n := 1) (ks := []) (by decide +kernel) ?_
          -- at 82: .ireturn
          refine ty_ret_i (pc := 82) (ks := []) (ty := .boolean) (by decide +kernel) rfl (ty_fit_z (by omega)) ?_
          exact ⟨⟨cp_fm.refl, fun _ => cp_tr.refl⟩, .inl ⟨rfl, rfl, hR0, cp_ud.refl, rfl, cp_fl0 rfl⟩⟩
        · omega
      | cons p ps =>
        simp only [List.length_cons] at hol hlen
        have hpp := hp p List.mem_cons_self
        unfold mo_un
        refine ty_if_le (pc := 13) (off := 68) (t := 81) (ks := []) (by decide +kernel) (by omega) (fun hc => ?_) (fun hc => ?_)
        · omega
        · refine ty_aload_n (pc := 16) (i := 0) (ks := []) (by decide +kernel) rfl ?_
          refine ty_getS (b := (37, 0)) (pc := 17) (idx := 36) (ci := 8) (f := 2) (by decide +kernel) (by first | rfl | assumption) rfl (by first | exact hS.1 _ _ rfl | assumption) (by first | exact hS.2.2 _ _ _ _ rfl | assumption) ?_
          -- at 20: .invokevirtual 54
          refine ty_callv (pc := 20) (idx := 54) (m := 63) (n := 1) (c := 7) (vs := []) (r := []) (by decide +kernel) rfl rfl (Nat.le_of_ble_eq_true rfl) (by first | rfl | assumption) (by first | exact hS.1 _ _ rfl | assumption) (ct_takeOne (d + 2) hS r5.1 (by omega)) ?_
          rintro _ S1 (⟨rfl, hlt, e1⟩ | ⟨x, rfl, hge, rfl, rfl⟩)
          · rw [if_neg (by omega)]
            subst e1
            refine ty_KV ?_
            obtain ⟨q1, q2, q3⟩ := cp_R_pop hR0 hlt
            have hop : (ty_sI S (37, 0) 0 (st + 1)).1 (38, 0) 5 = S.1 (38, 0) 5 := ty_sI_ne (by decide)
            refine ty_aload_n (pc := 23) (i := 0) (ks := []) (by decide +kernel) rfl ?_
            refine ty_dup (pc := 24) (ks := []) (by decide +kernel) rfl ?_
            refine ty_getI (pc := 25) (idx := 18) (ci := 8) (f := 5) (by decide +kernel) (by first | rfl | assumption) rfl (by first | exact hS.1 _ _ rfl | assumption) (fun v hv => ?_)
            subst hv
            refine ty_iconst (pc := 28) (n := 1) (ks := []) (by decide +kernel) ?_
            refine ty_isub (pc := 29) (ks := []) (by decide +kernel) ?_
            -- at 30: .putfield 18
            rw [hop]
            refine ty_putI (pc := 30) (idx := 18) (ci := 8) (f := 5) (by decide +kernel) (by first | rfl | assumption) rfl rfl (by first | exact hS.1 _ _ rfl | assumption) ?_
            -- at 33: .aload_n 0
            have q1' := q1
            obtain ⟨t1, t2, t3, t4, t5, t6, t7, t8, t9, t10, t11, t12⟩ := q1
            generalize hT : ty_sI (ty_sI S (37, 0) 0 (st + 1)) (38, 0) 5 (S.1 (38, 0) 5 - 1) = T at q1' q2 q3 t1 t2 t3 t4 t5 t6 t7 t8 t9 t10 t11
            have hTo : T.1 (38, 0) 5 = ps.length := by
              rw [← hT, ty_sI_at]
              omega
            have hTA : T.2.2.1 = S.2.2.1 := by rw [← hT]; rfl
            have hnc : T.2.2.2.2.2.2.2 = S.2.2.2.2.2.2.2 := by rw [← hT]; rfl
            have q4 : cp_tr S T F E := by
              refine ⟨by rw [hTA], by rw [hTA], by rw [hTA], by rw [hTA], by rw [hTA], by rw [hTA], ?_, ?_⟩
              · rw [← hT, ty_sI_ne (by decide), ty_sI_ne (by decide)]
              · rw [← hT, ty_sI_ne (by decide), ty_sI_ne (by decide)]
            have t8' : ∀ v, 0 ≤ v → v < made → T.2.2.1 B v = bd v := t8.1
            have hbT : mo_bw G made (T.2.2.1 B) := fun v a b => by rw [t8' v a b]; exact hb v a b
            have hvv : ∀ t, mo_ok G made t → mo_val G (T.2.2.1 B) t = mo_val G bd t := by
              intro t ht
              unfold mo_val
              by_cases e : t < 0
              · have := ht.1; omega
              · rw [if_neg e, if_neg e]
                by_cases e2 : 65 ≤ mo_l G t ∧ mo_l G t ≤ 90
                · rw [if_pos e2, if_pos e2]
                  obtain ⟨y1, y2⟩ := mo_ok_var hw ht e2
                  have : ∀ (q : Nat) (v : Int), v.toNat < q → 0 ≤ v → v < made → mo_dv (T.2.2.1 B) v = mo_dv bd v := by
                    intro q
                    induction q with
                    | zero => intro v h; omega
                    | succ q ihq =>
                      intro v h5 h6 h7
                      rw [mo_dv_step hbT h6 h7, mo_dv_step hb h6 h7, t8' v h6 h7]
                      by_cases e5 : bd v = mo_F
                      · rw [if_pos e5, if_pos e5]
                      · rw [if_neg e5, if_neg e5]
                        by_cases e6 : 0 ≤ bd v
                        · rw [if_pos e6, if_pos e6]
                        · rw [if_neg e6, if_neg e6]
                          rcases hb v h6 h7 with z | z | z
                          · exact absurd z e5
                          · exact absurd z.1 e6
                          · exact ihq _ (by omega) z.2.1 (by omega)
                  exact this _ _ (Nat.lt_succ_self _) y1 y2
                · rw [if_neg e2, if_neg e2]
            have hS1 := t1
            have hLl : T.2.2.1 (40, 0) (ps.length : Int) = p.1 := by
              rw [hTA]
              have := r6.2.1
              rw [hol, show ((ps.length + 1 : Nat) : Int) - 1 = ps.length by omega] at this
              exact this
            have hRr : T.2.2.1 (41, 0) (ps.length : Int) = p.2 := by
              rw [hTA]
              have := r6.2.2.1
              rw [hol, show ((ps.length + 1 : Nat) : Int) - 1 = ps.length by omega] at this
              exact this
            have v1 := mo_val_isval hw hb (.inl hpp.1)
            have v2 := mo_val_isval hw hb (.inl hpp.2)
            have hS := t1
            refine ty_aload_n (pc := 33) (i := 0) (ks := []) (by decide +kernel) rfl ?_
            refine ty_aload_n (pc := 34) (i := 0) (ks := []) (by decide +kernel) rfl ?_
            refine ty_getS (b := (13, 0)) (pc := 35) (idx := 32) (ci := 8) (f := 1) (by decide +kernel) (by first | rfl | assumption) rfl (by first | exact hS.1 _ _ rfl | assumption) (by first | exact hS.2.2 _ _ _ _ rfl | assumption) ?_
            refine ty_aload_n (pc := 38) (i := 0) (ks := []) (by decide +kernel) rfl ?_
            refine ty_getS (b := (40, 0)) (pc := 39) (idx := 11) (ci := 8) (f := 3) (by decide +kernel) (by first | rfl | assumption) rfl (by first | exact hS.1 _ _ rfl | assumption) (by first | exact hS.2.2 _ _ _ _ rfl | assumption) ?_
            refine ty_aload_n (pc := 42) (i := 0) (ks := []) (by decide +kernel) rfl ?_
            refine ty_getI (pc := 43) (idx := 18) (ci := 8) (f := 5) (by decide +kernel) (by first | rfl | assumption) rfl (by first | exact hS.1 _ _ rfl | assumption) (fun v hv => ?_)
            subst hv
            -- at 46: .iaload
            rw [hTo]
            refine ty_iaload (pc := 46) (ks := []) (by decide +kernel) (by rfl) (by rfl) (hS.1 _ _ rfl) (hS.2.1 _ _ _ rfl) (by omega) (fun v hv => ?_)
            rw [hLl] at hv
            subst hv
            refine ty_callv (pc := 47) (idx := 59) (m := 75) (n := 2) (c := 2) (vs := [_]) (r := [_]) (by decide +kernel) rfl rfl (Nat.le_of_ble_eq_true rfl) (by first | rfl | assumption) (by first | exact hS.1 _ _ rfl | assumption) (cv_valueOf (d + 1) hS t2 t3 hw t4.1 ⟨t4.2.1, t4.2.2⟩ hbT (.inl hpp.1)) ?_
            rintro _ S3 ⟨z, rfl, rfl, rfl⟩
            rw [hvv _ hpp.1]
            refine ty_KI ?_
            refine ty_aload_n (pc := 50) (i := 0) (ks := []) (by decide +kernel) rfl ?_
            refine ty_getS (b := (13, 0)) (pc := 51) (idx := 32) (ci := 8) (f := 1) (by decide +kernel) (by first | rfl | assumption) rfl (by first | exact hS.1 _ _ rfl | assumption) (by first | exact hS.2.2 _ _ _ _ rfl | assumption) ?_
            refine ty_aload_n (pc := 54) (i := 0) (ks := []) (by decide +kernel) rfl ?_
            refine ty_getS (b := (41, 0)) (pc := 55) (idx := 15) (ci := 8) (f := 4) (by decide +kernel) (by first | rfl | assumption) rfl (by first | exact hS.1 _ _ rfl | assumption) (by first | exact hS.2.2 _ _ _ _ rfl | assumption) ?_
            refine ty_aload_n (pc := 58) (i := 0) (ks := []) (by decide +kernel) rfl ?_
            refine ty_getI (pc := 59) (idx := 18) (ci := 8) (f := 5) (by decide +kernel) (by first | rfl | assumption) rfl (by first | exact hS.1 _ _ rfl | assumption) (fun v hv => ?_)
            subst hv
            -- at 62: .iaload
            rw [hTo]
            refine ty_iaload (pc := 62) (ks := []) (by decide +kernel) (by rfl) (by rfl) (hS.1 _ _ rfl) (hS.2.1 _ _ _ rfl) (by omega) (fun v hv => ?_)
            rw [hRr] at hv
            subst hv
            refine ty_callv (pc := 63) (idx := 59) (m := 75) (n := 2) (c := 2) (vs := [_]) (r := [_, _]) (by decide +kernel) rfl rfl (Nat.le_of_ble_eq_true rfl) (by first | rfl | assumption) (by first | exact hS.1 _ _ rfl | assumption) (cv_valueOf (d + 1) hS t2 t3 hw t4.1 ⟨t4.2.1, t4.2.2⟩ hbT (.inl hpp.2)) ?_
            rintro _ S4 ⟨z, rfl, rfl, rfl⟩
            rw [hvv _ hpp.2]
            refine ty_KI ?_
            refine ty_iload_n (pc := 66) (i := 1) (ks := []) (by decide +kernel) rfl ?_
            -- at 67: .invokevirtual 64
            have hR9 : cp_R S4 B F E n G made ns sl (st + 1) (st + 1 - 1) (ps, bd, ch, wk, fl) := by
              rw [show st + 1 - 1 = st by omega]
              exact q1'
            refine ty_callv (pc := 67) (idx := 64) (m := 86) (n := 4) (c := 8) (vs := [_, _, _]) (r := []) (by decide +kernel) rfl rfl (Nat.le_of_ble_eq_true rfl) (by first | rfl | assumption) (by first | exact hS.1 _ _ rfl | assumption) (cp_makePairSame (d + 0) hR9 hw v1 v2 hb hcw (by omega) tr htb) ?_
            rintro _ S5 ⟨z, rfl, hq⟩
            refine ty_KI ?_
            cases hu : mo_u1 G tr (mo_val G bd p.1) (mo_val G bd p.2) ps bd ch wk fl with
            | none =>
              rw [hu] at hq
              obtain ⟨rfl, rfl⟩ := hq
              refine ty_if_ne (pc := 70) (off := 5) (t := 75) (ks := []) (by decide +kernel) (by omega) (fun hc => ?_) (fun hc => ?_)
              · exact absurd rfl hc
              · refine ty_iconst (pc := 73) (n := 0) (ks := []) (by decide +kernel) ?_
                -- at 74: .ireturn
                refine ty_ret_i (pc := 74) (ks := []) (ty := .boolean) (by decide +kernel) rfl (ty_fit_z (by omega)) ?_
                exact ⟨⟨q2, fun _ => q4⟩, .inr (.inl ⟨rfl, rfl, ⟨ps, cp_R_le q1' (by show st ≤ st + 1; omega)⟩, q3, hnc⟩)⟩
            | some u =>
              rw [hu] at hq
              obtain ⟨ps', bd', ch', wk', fl'⟩ := u
              obtain ⟨rfl, w1, w2, w3, w4, w5, w6⟩ := hq
              obtain ⟨i1, i2, i3, i4, i5⟩ := mo_u1_inv hw hmade hu v1 v2 hb hcw (fun q hq => hp q (List.mem_cons_of_mem _ hq))
              refine ty_if_ne (pc := 70) (off := 5) (t := 75) (ks := []) (by decide +kernel) (by omega) (fun hc => ?_) (fun hc => ?_)
              · refine ty_iinc (pc := 75) (i := 2) (n := 1) (ks := []) (ls' := [_, _, _]) (by decide +kernel) rfl rfl ?_
                refine ty_goto (pc := 78) (off := (-76)) (t := 2) (ks := []) (by decide +kernel) ?_
                -- at 2: .iload_n 2
                have i4 : ps'.length ≤ ps.length + 3 := i4
                refine (ih S5 (st + 1) (i + 1) ps' bd' ch' wk' fl' (by omega) (by omega) (by omega) (by omega) w1 i1 i2 i3).mono ?_
                rintro o S' ⟨⟨a1, a9⟩, a2⟩
                refine ⟨⟨(q2.trans w2).trans a1, fun ht => (q4.trans (w6 ht)).trans (a9 ht)⟩, ?_⟩
                rcases a2 with ⟨b1, b2, b3, b4, b5, b6⟩ | ⟨b1, b2, b3, b4, b5⟩ | ⟨b1, b2, b3⟩
                · refine .inl ⟨b1, b2, b3, (q3.trans w3).trans b4, b5.trans (w4.trans hnc), ?_⟩
                  refine b6.trans ?_
                  have w5 : fl' = true ↔ fl = true ∨ S4.1 (13, 0) 7 < S5.1 (13, 0) 7 := w5
                  rw [w5]
                  have y1 : S4.1 (13, 0) 7 = S.1 (13, 0) 7 := by
                    rw [← hT, ty_sI_ne (by decide), ty_sI_ne (by decide)]
                  have y2 := w3.1
                  have y3 := b4.1
                  rw [← y1]
                  constructor
                  · rintro ((z | z) | z)
                    · exact .inl z
                    · exact .inr (by omega)
                    · exact .inr (by omega)
                  · rintro (z | z)
                    · exact .inl (.inl z)
                    · by_cases y4 : S4.1 (13, 0) 7 < S5.1 (13, 0) 7
                      · exact .inl (.inr y4)
                      · exact .inr (by omega)
                · exact .inr (.inl ⟨b1, b2, b3, (q3.trans w3).trans b4, b5.trans (w4.trans hnc)⟩)
                · exact .inr (.inr ⟨b1, b2, by rw [b3, w4, hnc]⟩)
              · exact absurd hc (by decide)
          · rw [if_pos hge]
            refine ty_KX (by decide +kernel) ?_
            exact ⟨⟨cp_fm.refl, fun _ => cp_tr.refl⟩, .inr (.inr ⟨rfl, rfl, rfl⟩)⟩
theorem cp_makeSame (d : Nat) (hw : mo_wf G) (hmade : made ≤ 100000) {dn : List Int} (tr : Bool) {tb : Int} (htb : tb = if tr = true then 1 else 0) {ps : List (Int × Int)} {bd : Int → Int} {ch : Int → List Int} {wk : List Int} {fl : Bool} (hlen : ps.length ≤ 3) (hR : cp_R S B F E n G made ns sl st st (ps, bd, ch, wk, fl)) (hp : mo_po G made ps) (hb : mo_bw G made bd) (hc : mo_cw made ns bd ch (dn ++ wk)) :
    ty_C L xs (d + 4) 85 [.inr (.inr (some (38, 0))), .inl (ty_J tb)] S (cp_un S B F E n G made ns sl tr fl (mo_ur G tr st (ps, bd, ch, wk, fl))) := by
  refine ty_enter (ml := 3) (ls := [_, _, _]) rfl rfl (Nat.le_of_ble_eq_true rfl) ?_
  refine ty_iconst (pc := 0) (n := 0) (ks := []) (by decide +kernel) ?_
  refine ty_istore_n (pc := 1) (i := 2) (ks := []) (ls' := [_, _, _]) (by decide +kernel) rfl ?_
  -- at 2: .iload_n 2
  exact cp_loop d hw hmade tr htb _ S st 0 ps bd ch wk fl rfl (by omega) hR.2.2.2.2.1.2.1 (by omega) hR hp hb hc
end CPL
end
section
/-! Pairs told to stay different. -/
def mo_uw (f : Int → Bool) (v : Int) (x : Bool) : Int → Bool := fun j => if j = v then x else f j
/-- those waiting, from i on, m of them: 1 all hold, 0 one fails, 2 too many steps; the steps; who still waits -/
def mo_hold (G : mo_G) (bd : Int → Int) (ch : Int → List Int) (wk : List Int) (al ar : Int → Int) : Nat → Int → Int → (Int → Bool) → Int × Int × (Int → Bool)
  | 0, st, _, aw => (1, st, aw)
  | m + 1, st, i, aw => if aw i = true then
      (if (mo_ur G true st ([(al i, ar i)], bd, ch, wk, false)).1 = 2 then (2, (mo_ur G true st ([(al i, ar i)], bd, ch, wk, false)).2.1, aw)
       else if (mo_ur G true st ([(al i, ar i)], bd, ch, wk, false)).1 = 1 then (if (mo_ur G true st ([(al i, ar i)], bd, ch, wk, false)).2.2.2.2.2 = true then mo_hold G bd ch wk al ar m (mo_ur G true st ([(al i, ar i)], bd, ch, wk, false)).2.1 (i + 1) aw else (0, (mo_ur G true st ([(al i, ar i)], bd, ch, wk, false)).2.1, aw))
       else mo_hold G bd ch wk al ar m (mo_ur G true st ([(al i, ar i)], bd, ch, wk, false)).2.1 (i + 1) (mo_uw aw i false))
    else mo_hold G bd ch wk al ar m st (i + 1) aw
/-- the settled ones wait again -/
def ca_sw (f on : Int → Int) (kept : Int) : Nat → Int → Int
  | 0 => f
  | m + 1 => fun j => if j = on (kept + m) then 1 else ca_sw f on kept m j
theorem ca_sw_eq {f on on' : Int → Int} {kept : Int} : ∀ (m : Nat), (∀ i, kept ≤ i → i < kept + m → on' i = on i) → ca_sw f on' kept m = ca_sw f on kept m
  | 0, _ => rfl
  | m + 1, h => by
    funext j
    show (if j = on' (kept + m) then 1 else ca_sw f on' kept m j) = if j = on (kept + m) then 1 else ca_sw f on kept m j
    rw [h (kept + m) (by omega) (by omega), ca_sw_eq m (fun i a b => h i a (by omega))]
theorem ca_sw_at {f f' on : Int → Int} {kept : Int} {j : Int} (h : f' j = f j) : ∀ (m : Nat), ca_sw f' on kept m j = ca_sw f on kept m j
  | 0 => h
  | m + 1 => by
    show (if j = on (kept + m) then 1 else ca_sw f' on kept m j) = if j = on (kept + m) then 1 else ca_sw f on kept m j
    rw [ca_sw_at h m]
theorem ca_sw_1 {f on : Int → Int} {kept : Int} {j : Int} (h : f j = 1) : ∀ (m : Nat), ca_sw f on kept m j = 1
  | 0 => h
  | m + 1 => by
    show (if j = on (kept + m) then 1 else ca_sw f on kept m j) = 1
    rw [ca_sw_1 h m]
    simp
theorem ca_sw_settle {f on : Int → Int} {kept sc v : Int} (hk : kept ≤ sc) (hv : f v = 1) : ca_sw (mo_up f v 0) (mo_up on sc v) kept (sc + 1 - kept).toNat = ca_sw f on kept (sc - kept).toNat := by
  have e : (sc + 1 - kept).toNat = (sc - kept).toNat + 1 := by omega
  rw [e]
  funext j
  show (if j = mo_up on sc v (kept + ((sc - kept).toNat : Nat)) then 1 else ca_sw (mo_up f v 0) (mo_up on sc v) kept (sc - kept).toNat j) = _
  have e1 : mo_up on sc v (kept + ((sc - kept).toNat : Nat)) = v := by
    simp only [mo_up]
    rw [if_pos (by omega)]
  rw [e1, ca_sw_eq (on := on) _ (fun i a b => by
    simp only [mo_up]
    rw [if_neg (by omega)])]
  by_cases ej : j = v
  · rw [if_pos ej, ej, ca_sw_1 hv]
  · rw [if_neg ej]
    exact ca_sw_at (by simp [mo_up, ej]) _
section CAA
variable {L : Nat} {xs : Nat → Int32} {S : ty_S}
theorem ca_clear (d : Nat) (hS : ty_st S) : ty_C L xs (d + 1) 40 [.inr (.inr (some (39, 0)))] S (ty_oV fun S' => S' = ty_sI (ty_sI S (39, 0) 5 0) (39, 0) 7 0) := by
  refine ty_enter (ml := 1) (ls := [_]) rfl rfl (Nat.le_of_ble_eq_true rfl) ?_
  refine ty_aload_n (pc := 0) (i := 0) (ks := []) (by decide +kernel) rfl ?_
  refine ty_iconst (pc := 1) (n := 0) (ks := []) (by decide +kernel) ?_
  refine ty_putI (pc := 2) (idx := 22) (ci := 9) (f := 5) (by decide +kernel) (by first | rfl | assumption) rfl rfl (by first | exact hS.1 _ _ rfl | assumption) ?_
  refine ty_aload_n (pc := 5) (i := 0) (ks := []) (by decide +kernel) rfl ?_
  refine ty_iconst (pc := 6) (n := 0) (ks := []) (by decide +kernel) ?_
  refine ty_putI (pc := 7) (idx := 29) (ci := 9) (f := 7) (by decide +kernel) (by first | rfl | assumption) rfl rfl (by first | exact hS.1 _ _ rfl | assumption) ?_
  refine ty_ret_v (pc := 10) (ks := []) (by decide +kernel) rfl ?_
  exact ⟨rfl, rfl⟩
theorem ca_putNewest (d : Nat) (hS : ty_st S) {x y an : Int} (ha : S.1 (39, 0) 5 = an) (hr : 0 ≤ an ∧ an < 500) : ty_C L xs (d + 1) 74 [.inr (.inr (some (39, 0))), .inl (ty_J x), .inl (ty_J y)] S (ty_oV fun S' => S' = ty_sI (ty_sA (ty_sA (ty_sA S (43, 0) an x) (44, 0) an y) (45, 0) an 1) (39, 0) 5 (an + 1)) := by
  subst ha
  refine ty_enter (ml := 3) (ls := [_, _, _]) rfl rfl (Nat.le_of_ble_eq_true rfl) ?_
  refine ty_aload_n (pc := 0) (i := 0) (ks := []) (by decide +kernel) rfl ?_
  refine ty_getI (pc := 1) (idx := 22) (ci := 9) (f := 5) (by decide +kernel) (by first | rfl | assumption) rfl (by first | exact hS.1 _ _ rfl | assumption) (fun v hv => ?_)
  subst hv
  refine ty_sipush (pc := 4) (n := 500) (ks := []) (by decide +kernel) (by omega) ?_
  -- at 7: .if_icmp .ge 43
  refine ty_icmp_ge (pc := 7) (off := 43) (t := 50) (ks := []) (by decide +kernel) (by omega) (by omega) (fun hc => ?_) (fun hc => ?_)
  · omega
  · refine ty_aload_n (pc := 10) (i := 0) (ks := []) (by decide +kernel) rfl ?_
    refine ty_getS (b := (43, 0)) (pc := 11) (idx := 9) (ci := 9) (f := 2) (by decide +kernel) (by first | rfl | assumption) rfl (by first | exact hS.1 _ _ rfl | assumption) (by first | exact hS.2.2 _ _ _ _ rfl | assumption) ?_
    refine ty_aload_n (pc := 14) (i := 0) (ks := []) (by decide +kernel) rfl ?_
    refine ty_getI (pc := 15) (idx := 22) (ci := 9) (f := 5) (by decide +kernel) (by first | rfl | assumption) rfl (by first | exact hS.1 _ _ rfl | assumption) (fun v hv => ?_)
    subst hv
    refine ty_iload_n (pc := 18) (i := 1) (ks := []) (by decide +kernel) rfl ?_
    refine ty_iastore (pc := 19) (ks := []) (by decide +kernel) (by first | rfl | assumption) (by rfl) (by first | exact hS.1 _ _ rfl | assumption) (by first | exact hS.2.1 _ _ _ rfl | assumption) (by omega) ?_
    refine ty_aload_n (pc := 20) (i := 0) (ks := []) (by decide +kernel) rfl ?_
    refine ty_getS (b := (44, 0)) (pc := 21) (idx := 15) (ci := 9) (f := 3) (by decide +kernel) (by first | rfl | assumption) rfl (by first | exact hS.1 _ _ rfl | assumption) (by first | exact hS.2.2 _ _ _ _ rfl | assumption) ?_
    refine ty_aload_n (pc := 24) (i := 0) (ks := []) (by decide +kernel) rfl ?_
    refine ty_getI (pc := 25) (idx := 22) (ci := 9) (f := 5) (by decide +kernel) (by first | rfl | assumption) rfl (by first | exact hS.1 _ _ rfl | assumption) (fun v hv => ?_)
    first | simp (decide := true) only [ty_sI, ty_sR, ty_sA, ty_sQ, ty_mA, ty_mQ, ↓reduceIte, false_and, and_false, true_and, and_true, and_self, hne] at hv | simp (decide := true) only [ty_sI, ty_sR, ty_sA, ty_sQ, ty_mA, ty_mQ, ↓reduceIte, false_and, and_false, true_and, and_true, and_self] at hv | skip
    subst hv
    refine ty_iload_n (pc := 28) (i := 2) (ks := []) (by decide +kernel) rfl ?_
    refine ty_iastore (pc := 29) (ks := []) (by decide +kernel) (by first | rfl | assumption) (by rfl) (by first | exact hS.1 _ _ rfl | assumption) (by first | exact hS.2.1 _ _ _ rfl | assumption) (by omega) ?_
    refine ty_aload_n (pc := 30) (i := 0) (ks := []) (by decide +kernel) rfl ?_
    refine ty_getS (b := (45, 0)) (pc := 31) (idx := 18) (ci := 9) (f := 4) (by decide +kernel) (by first | rfl | assumption) rfl (by first | exact hS.1 _ _ rfl | assumption) (by first | exact hS.2.2 _ _ _ _ rfl | assumption) ?_
    refine ty_aload_n (pc := 34) (i := 0) (ks := []) (by decide +kernel) rfl ?_
    refine ty_getI (pc := 35) (idx := 22) (ci := 9) (f := 5) (by decide +kernel) (by first | rfl | assumption) rfl (by first | exact hS.1 _ _ rfl | assumption) (fun v hv => ?_)
    first | simp (decide := true) only [ty_sI, ty_sR, ty_sA, ty_sQ, ty_mA, ty_mQ, ↓reduceIte, false_and, and_false, true_and, and_true, and_self, hne] at hv | simp (decide := true) only [ty_sI, ty_sR, ty_sA, ty_sQ, ty_mA, ty_mQ, ↓reduceIte, false_and, and_false, true_and, and_true, and_self] at hv | skip
    subst hv
    refine ty_iconst (pc := 38) (n := 1) (ks := []) (by decide +kernel) ?_
    refine ty_bastore (pc := 39) (ks := []) (by decide +kernel) (by first | rfl | assumption) (by rfl) (by first | exact hS.1 _ _ rfl | assumption) (by first | exact hS.2.1 _ _ _ rfl | assumption) (by omega) (by omega) ?_
    refine ty_aload_n (pc := 40) (i := 0) (ks := []) (by decide +kernel) rfl ?_
    refine ty_dup (pc := 41) (ks := []) (by decide +kernel) rfl ?_
    refine ty_getI (pc := 42) (idx := 22) (ci := 9) (f := 5) (by decide +kernel) (by first | rfl | assumption) rfl (by first | exact hS.1 _ _ rfl | assumption) (fun v hv => ?_)
    first | simp (decide := true) only [ty_sI, ty_sR, ty_sA, ty_sQ, ty_mA, ty_mQ, ↓reduceIte, false_and, and_false, true_and, and_true, and_self, hne] at hv | simp (decide := true) only [ty_sI, ty_sR, ty_sA, ty_sQ, ty_mA, ty_mQ, ↓reduceIte, false_and, and_false, true_and, and_true, and_self] at hv | skip
    subst hv
    refine ty_iconst (pc := 45) (n := 1) (ks := []) (by decide +kernel) ?_
    refine ty_iadd (pc := 46) (ks := []) (by decide +kernel) ?_
    refine ty_putI (pc := 47) (idx := 22) (ci := 9) (f := 5) (by decide +kernel) (by first | rfl | assumption) rfl rfl (by first | exact hS.1 _ _ rfl | assumption) ?_
    -- at 50: .return_
    refine ty_ret_v (pc := 50) (ks := []) (by decide +kernel) rfl ?_
    exact ⟨rfl, rfl⟩
theorem ca_settle (d : Nat) (hS : ty_st S) {i sc : Int} (hi : 0 ≤ i ∧ i < 500) (ha : S.1 (39, 0) 7 = sc) (hr : 0 ≤ sc ∧ sc < 500) : ty_C L xs (d + 1) 90 [.inr (.inr (some (39, 0))), .inl (ty_J i)] S (ty_oV fun S' => S' = ty_sI (ty_sA (ty_sA S (45, 0) i 0) (46, 0) sc i) (39, 0) 7 (sc + 1)) := by
  subst ha
  refine ty_enter (ml := 2) (ls := [_, _]) rfl rfl (Nat.le_of_ble_eq_true rfl) ?_
  refine ty_aload_n (pc := 0) (i := 0) (ks := []) (by decide +kernel) rfl ?_
  refine ty_getI (pc := 1) (idx := 29) (ci := 9) (f := 7) (by decide +kernel) (by first | rfl | assumption) rfl (by first | exact hS.1 _ _ rfl | assumption) (fun v hv => ?_)
  subst hv
  refine ty_sipush (pc := 4) (n := 500) (ks := []) (by decide +kernel) (by omega) ?_
  -- at 7: .if_icmp .ge 30
  refine ty_icmp_ge (pc := 7) (off := 30) (t := 37) (ks := []) (by decide +kernel) (by omega) (by omega) (fun hc => ?_) (fun hc => ?_)
  · omega
  · refine ty_aload_n (pc := 10) (i := 0) (ks := []) (by decide +kernel) rfl ?_
    refine ty_getS (b := (45, 0)) (pc := 11) (idx := 18) (ci := 9) (f := 4) (by decide +kernel) (by first | rfl | assumption) rfl (by first | exact hS.1 _ _ rfl | assumption) (by first | exact hS.2.2 _ _ _ _ rfl | assumption) ?_
    refine ty_iload_n (pc := 14) (i := 1) (ks := []) (by decide +kernel) rfl ?_
    refine ty_iconst (pc := 15) (n := 0) (ks := []) (by decide +kernel) ?_
    refine ty_bastore (pc := 16) (ks := []) (by decide +kernel) (by first | rfl | assumption) (by rfl) (by first | exact hS.1 _ _ rfl | assumption) (by first | exact hS.2.1 _ _ _ rfl | assumption) (by omega) (by omega) ?_
    refine ty_aload_n (pc := 17) (i := 0) (ks := []) (by decide +kernel) rfl ?_
    refine ty_getS (b := (46, 0)) (pc := 18) (idx := 26) (ci := 9) (f := 6) (by decide +kernel) (by first | rfl | assumption) rfl (by first | exact hS.1 _ _ rfl | assumption) (by first | exact hS.2.2 _ _ _ _ rfl | assumption) ?_
    refine ty_aload_n (pc := 21) (i := 0) (ks := []) (by decide +kernel) rfl ?_
    refine ty_getI (pc := 22) (idx := 29) (ci := 9) (f := 7) (by decide +kernel) (by first | rfl | assumption) rfl (by first | exact hS.1 _ _ rfl | assumption) (fun v hv => ?_)
    first | simp (decide := true) only [ty_sI, ty_sR, ty_sA, ty_sQ, ty_mA, ty_mQ, ↓reduceIte, false_and, and_false, true_and, and_true, and_self, hne] at hv | simp (decide := true) only [ty_sI, ty_sR, ty_sA, ty_sQ, ty_mA, ty_mQ, ↓reduceIte, false_and, and_false, true_and, and_true, and_self] at hv | skip
    subst hv
    refine ty_iload_n (pc := 25) (i := 1) (ks := []) (by decide +kernel) rfl ?_
    refine ty_iastore (pc := 26) (ks := []) (by decide +kernel) (by first | rfl | assumption) (by rfl) (by first | exact hS.1 _ _ rfl | assumption) (by first | exact hS.2.1 _ _ _ rfl | assumption) (by omega) ?_
    refine ty_aload_n (pc := 27) (i := 0) (ks := []) (by decide +kernel) rfl ?_
    refine ty_dup (pc := 28) (ks := []) (by decide +kernel) rfl ?_
    refine ty_getI (pc := 29) (idx := 29) (ci := 9) (f := 7) (by decide +kernel) (by first | rfl | assumption) rfl (by first | exact hS.1 _ _ rfl | assumption) (fun v hv => ?_)
    first | simp (decide := true) only [ty_sI, ty_sR, ty_sA, ty_sQ, ty_mA, ty_mQ, ↓reduceIte, false_and, and_false, true_and, and_true, and_self, hne] at hv | simp (decide := true) only [ty_sI, ty_sR, ty_sA, ty_sQ, ty_mA, ty_mQ, ↓reduceIte, false_and, and_false, true_and, and_true, and_self] at hv | skip
    subst hv
    refine ty_iconst (pc := 32) (n := 1) (ks := []) (by decide +kernel) ?_
    refine ty_iadd (pc := 33) (ks := []) (by decide +kernel) ?_
    refine ty_putI (pc := 34) (idx := 29) (ci := 9) (f := 7) (by decide +kernel) (by first | rfl | assumption) rfl rfl (by first | exact hS.1 _ _ rfl | assumption) ?_
    -- at 37: .return_
    refine ty_ret_v (pc := 37) (ks := []) (by decide +kernel) rfl ?_
    exact ⟨rfl, rfl⟩
theorem ca_goBack (d : Nat) (hS : ty_st S) {km kept sc : Int} (hb : S.1 (39, 0) 7 = sc) (hr : 0 ≤ kept ∧ kept ≤ sc ∧ sc ≤ 500) (ho : ∀ i, kept ≤ i → i < sc → 0 ≤ S.2.2.1 (46, 0) i ∧ S.2.2.1 (46, 0) i < 500) :
    ty_C L xs (d + 1) 84 [.inr (.inr (some (39, 0))), .inl (ty_J km), .inl (ty_J kept)] S (ty_oV fun S' => S' = ty_sI (ty_sI (ty_mA S (45, 0) (ca_sw (S.2.2.1 (45, 0)) (S.2.2.1 (46, 0)) kept (sc - kept).toNat)) (39, 0) 7 kept) (39, 0) 5 km) := by
  have loop : ∀ (r m : Nat), (m + r : Int) = sc - kept → ty_W L xs d 84 2 [some (.inr (.inr (some (39, 0)))), some (.inl (ty_J km)), some (.inl (ty_J kept)), some (.inl (ty_J (kept + m)))] [] (ty_mA S (45, 0) (ca_sw (S.2.2.1 (45, 0)) (S.2.2.1 (46, 0)) kept m)) (ty_oV fun S' => S' = ty_sI (ty_sI (ty_mA S (45, 0) (ca_sw (S.2.2.1 (45, 0)) (S.2.2.1 (46, 0)) kept (sc - kept).toNat)) (39, 0) 7 kept) (39, 0) 5 km) := by
    intro r
    induction r with
    | zero =>
      intro m hm
      refine ty_iload_n (pc := 2) (i := 3) (ks := []) (by decide +kernel) rfl ?_
      refine ty_aload_n (pc := 3) (i := 0) (ks := []) (by decide +kernel) rfl ?_
      refine ty_getI (pc := 4) (idx := 29) (ci := 9) (f := 7) (by decide +kernel) (by first | rfl | assumption) rfl (by first | exact hS.1 _ _ rfl | assumption) (fun v hv => ?_)
      first | simp (decide := true) only [ty_sI, ty_sR, ty_sA, ty_sQ, ty_mA, ty_mQ, ↓reduceIte, false_and, and_false, true_and, and_true, and_self, hne] at hv | simp (decide := true) only [ty_sI, ty_sR, ty_sA, ty_sQ, ty_mA, ty_mQ, ↓reduceIte, false_and, and_false, true_and, and_true, and_self] at hv | skip
      subst hv
      -- at 7: .if_icmp .ge 21
      rw [hb]
      refine ty_icmp_ge (pc := 7) (off := 21) (t := 28) (ks := []) (by decide +kernel) (by omega) (by omega) (fun hc => ?_) (fun hc => ?_)
      · refine ty_aload_n (pc := 28) (i := 0) (ks := []) (by decide +kernel) rfl ?_
        refine ty_iload_n (pc := 29) (i := 2) (ks := []) (by decide +kernel) rfl ?_
        refine ty_putI (pc := 30) (idx := 29) (ci := 9) (f := 7) (by decide +kernel) (by first | rfl | assumption) rfl rfl (by first | exact hS.1 _ _ rfl | assumption) ?_
        refine ty_aload_n (pc := 33) (i := 0) (ks := []) (by decide +kernel) rfl ?_
        refine ty_iload_n (pc := 34) (i := 1) (ks := []) (by decide +kernel) rfl ?_
        refine ty_putI (pc := 35) (idx := 22) (ci := 9) (f := 5) (by decide +kernel) (by first | rfl | assumption) rfl rfl (by first | exact hS.1 _ _ rfl | assumption) ?_
        -- at 38: .return_
        refine ty_ret_v (pc := 38) (ks := []) (by decide +kernel) rfl ?_
        have e : (sc - kept).toNat = m := by omega
        rw [e]
        exact ⟨rfl, rfl⟩
      · omega
    | succ r ih =>
      intro m hm
      refine ty_iload_n (pc := 2) (i := 3) (ks := []) (by decide +kernel) rfl ?_
      refine ty_aload_n (pc := 3) (i := 0) (ks := []) (by decide +kernel) rfl ?_
      refine ty_getI (pc := 4) (idx := 29) (ci := 9) (f := 7) (by decide +kernel) (by first | rfl | assumption) rfl (by first | exact hS.1 _ _ rfl | assumption) (fun v hv => ?_)
      first | simp (decide := true) only [ty_sI, ty_sR, ty_sA, ty_sQ, ty_mA, ty_mQ, ↓reduceIte, false_and, and_false, true_and, and_true, and_self, hne] at hv | simp (decide := true) only [ty_sI, ty_sR, ty_sA, ty_sQ, ty_mA, ty_mQ, ↓reduceIte, false_and, and_false, true_and, and_true, and_self] at hv | skip
      subst hv
      -- at 7: .if_icmp .ge 21
      rw [hb]
      have h9 := ho (kept + m) (by omega) (by omega)
      refine ty_icmp_ge (pc := 7) (off := 21) (t := 28) (ks := []) (by decide +kernel) (by omega) (by omega) (fun hc => ?_) (fun hc => ?_)
      · omega
      · refine ty_aload_n (pc := 10) (i := 0) (ks := []) (by decide +kernel) rfl ?_
        refine ty_getS (b := (45, 0)) (pc := 11) (idx := 18) (ci := 9) (f := 4) (by decide +kernel) (by first | rfl | assumption) rfl (by first | exact hS.1 _ _ rfl | assumption) (by first | exact hS.2.2 _ _ _ _ rfl | assumption) ?_
        refine ty_aload_n (pc := 14) (i := 0) (ks := []) (by decide +kernel) rfl ?_
        refine ty_getS (b := (46, 0)) (pc := 15) (idx := 26) (ci := 9) (f := 6) (by decide +kernel) (by first | rfl | assumption) rfl (by first | exact hS.1 _ _ rfl | assumption) (by first | exact hS.2.2 _ _ _ _ rfl | assumption) ?_
        refine ty_iload_n (pc := 18) (i := 3) (ks := []) (by decide +kernel) rfl ?_
        refine ty_iaload (pc := 19) (ks := []) (by decide +kernel) (by first | rfl | assumption) (by rfl) (by first | exact hS.1 _ _ rfl | assumption) (by first | exact hS.2.1 _ _ _ rfl | assumption) (by omega) (fun v hv => ?_)
        first | simp (decide := true) only [ty_sI, ty_sR, ty_sA, ty_sQ, ty_mA, ty_mQ, ↓reduceIte, false_and, and_false, true_and, and_true, and_self, hne] at hv | simp (decide := true) only [ty_sI, ty_sR, ty_sA, ty_sQ, ty_mA, ty_mQ, ↓reduceIte, false_and, and_false, true_and, and_true, and_self] at hv | skip
        subst hv
        refine ty_iconst (pc := 20) (n := 1) (ks := []) (by decide +kernel) ?_
        refine ty_bastore (pc := 21) (ks := []) (by decide +kernel) (by first | rfl | assumption) (by rfl) (by first | exact hS.1 _ _ rfl | assumption) (by first | exact hS.2.1 _ _ _ rfl | assumption) (by omega) (by omega) ?_
        refine ty_iinc (pc := 22) (i := 3) (n := 1) (ks := []) (ls' := [_, _, _, _]) (by decide +kernel) rfl rfl ?_
        refine ty_goto (pc := 25) (off := (-23)) (t := 2) (ks := []) (by decide +kernel) ?_
        -- at 2: .iload_n 3
        rw [ty_sA_mA]
        have := ih (m + 1) (by omega)
        rw [show kept + ((m + 1 : Nat) : Int) = kept + m + 1 by omega] at this
        exact this
  refine ty_enter (ml := 4) (ls := [_, _, _, _]) rfl rfl (Nat.le_of_ble_eq_true rfl) ?_
  refine ty_iload_n (pc := 0) (i := 2) (ks := []) (by decide +kernel) rfl ?_
  refine ty_istore_n (pc := 1) (i := 3) (ks := []) (ls' := [_, _, _, _]) (by decide +kernel) rfl ?_
  -- at 2: .iload_n 3
  have := loop (sc - kept).toNat 0 (by omega)
  rw [show kept + ((0 : Nat) : Int) = kept by omega] at this
  rw [show ca_sw (S.2.2.1 (45, 0)) (S.2.2.1 (46, 0)) kept 0 = S.2.2.1 (45, 0) from rfl, ty_mA_self] at this
  exact this
end CAA
end
section
/-! The pairs that wait are tested. -/
theorem cv_fr_up {f ones : Int → Int} {kept v j : Int} : ∀ (m : Nat), cv_fr (fun i => if i = v then mo_F else f i) ones kept m j = if j = v then mo_F else cv_fr f ones kept m j
  | 0 => rfl
  | m + 1 => by
    show (if j = ones (kept + m) then mo_F else cv_fr (fun i => if i = v then mo_F else f i) ones kept m j) = if j = v then mo_F else if j = ones (kept + m) then mo_F else cv_fr f ones kept m j
    rw [cv_fr_up m]
    by_cases e1 : j = v
    · rw [if_pos e1, if_pos e1]; simp
    · rw [if_neg e1, if_neg e1]
theorem cv_fr_split {f ones : Int → Int} {kept : Int} {m1 : Nat} : ∀ (m2 : Nat), cv_fr f ones kept (m1 + m2) = cv_fr (cv_fr f ones (kept + m1) m2) ones kept m1
  | 0 => rfl
  | m2 + 1 => by
    funext j
    show (if j = ones (kept + ((m1 + m2 : Nat) : Int)) then mo_F else cv_fr f ones kept (m1 + m2) j) = cv_fr (fun i => if i = ones (kept + m1 + m2) then mo_F else cv_fr f ones (kept + m1) m2 i) ones kept m1 j
    rw [cv_fr_up, cv_fr_split m2, show kept + ((m1 + m2 : Nat) : Int) = kept + m1 + m2 by omega]
theorem mo_ur_steps {G : mo_G} (hw : mo_wf G) {made ns : Int} (hmade : made ≤ 100000) {tr : Bool} {dn : List Int} {st : Int} {p : Int × Int} {ps : List (Int × Int)} {bd : Int → Int} {ch : Int → List Int} {wk : List Int} {fl : Bool} (h0 : 0 ≤ st ∧ st ≤ 500) (hp : mo_po G made (p :: ps)) (hb : mo_bw G made bd) (hc : mo_cw made ns bd ch (dn ++ wk)) (h2 : (mo_ur G tr st (p :: ps, bd, ch, wk, fl)).1 ≠ 2) : st + 1 ≤ (mo_ur G tr st (p :: ps, bd, ch, wk, fl)).2.1 := by
  unfold mo_ur at h2 ⊢
  obtain ⟨m, hm⟩ : ∃ m : Nat, (501 - st).toNat = m + 1 := ⟨(500 - st).toNat, by omega⟩
  rw [hm] at h2 ⊢
  unfold mo_un at h2 ⊢
  by_cases e : 500 ≤ st
  · rw [if_pos e] at h2
    exact absurd rfl h2
  · rw [if_neg e]
    have hpp := hp p List.mem_cons_self
    have v1 := mo_val_isval hw hb (.inl hpp.1)
    have v2 := mo_val_isval hw hb (.inl hpp.2)
    cases hu : mo_u1 G tr (mo_val G bd p.1) (mo_val G bd p.2) ps bd ch wk fl with
    | none => exact Int.le_refl _
    | some u =>
      obtain ⟨ps', bd', ch', wk', fl'⟩ := u
      obtain ⟨i1, i2, i3, i4, i5⟩ := mo_u1_inv hw hmade hu v1 v2 hb hc (fun q hq => hp q (List.mem_cons_of_mem _ hq))
      exact (mo_un_inv hw hmade (tr := tr) m (st + 1) ps' bd' ch' wk' fl' (by omega) (by omega) i1 i2 i3).2.1.1
section CAH
variable {L : Nat} {xs : Nat → Int32} {S : ty_S} {B F E : ai_A} {n : Nat} {G : mo_G} {made ns st : Int} {sl : Int → Int}
/-- after a try all that was bound is free again -/
def ca_fr (S1 : ty_S) (B : ai_A) (bc : Int) : ty_S := ty_sI (ty_mA S1 B (cv_fr (S1.2.2.1 B) (S1.2.2.1 (26, 0)) bc (S1.1 (13, 0) 7 - bc).toNat)) (13, 0) 7 bc
theorem cp_R_test {ps0 ps1 : List (Int × Int)} {bd bd1 : Int → Int} {ch ch1 : Int → List Int} {wk wk1 : List Int} {fl fl1 : Bool} {S1 : ty_S} {st1 : Int} (hR : cp_R S B F E n G made ns sl st st (ps0, bd, ch, wk, fl)) (h1 : cp_R S1 B F E n G made ns sl st1 st1 (ps1, bd1, ch1, wk1, fl1)) (hf : cp_fm S S1 B F E) (ht : cp_tr S S1 F E) (hu : cp_ud S S1 B F E) (hst : st ≤ st1) :
    cp_R (ca_fr S1 B (S.1 (13, 0) 7)) B F E n G made ns sl st1 st1 (ps1, bd, ch, wk, fl) ∧ cp_fm S (ca_fr S1 B (S.1 (13, 0) 7)) B F E ∧ cp_ud S (ca_fr S1 B (S.1 (13, 0) 7)) B F E ∧ cp_tr S (ca_fr S1 B (S.1 (13, 0) 7)) F E := by
  obtain ⟨r1, r2, r3, r4, r5, r6, r7, r8, r9, r10, r11, r12⟩ := hR
  obtain ⟨q1, q2, q3, q4, q5, q6, q7, q8, q9, q10, q11, q12⟩ := h1
  obtain ⟨t1, t2, t3, t4, t5, t6, t7, t8⟩ := ht
  obtain ⟨f1, f2, f3, f4, f5, f6, f7⟩ := hf
  obtain ⟨u1, u2, u3, u4⟩ := hu
  generalize hT : ca_fr S1 B (S.1 (13, 0) 7) = T
  have e2 : T.2.1 = S1.2.1 := by rw [← hT]; rfl
  have e3 : T.2.2.2 = S1.2.2.2 := by rw [← hT]; rfl
  have i1 : ∀ b j, ¬ (b = (13, 0) ∧ j = 7) → T.1 b j = S1.1 b j := fun b j h => by rw [← hT]; exact if_neg h
  have i2 : T.1 (13, 0) 7 = S.1 (13, 0) 7 := by rw [← hT]; exact ty_sI_at
  have aB : T.2.2.1 B = S.2.2.1 B := by
    rw [← hT]
    show (ty_mA S1 B _).2.2.1 B = _
    rw [ty_mA_at, u3 _ r10.1.1 (Int.le_refl _), show (S.1 (13, 0) 7 - S.1 (13, 0) 7).toNat = 0 by omega]
    rfl
  have a6 : ∀ b, ¬ b = B → T.2.2.1 b = S1.2.2.1 b := fun b h => by rw [← hT]; exact if_neg h
  have oth : ∀ s : Nat, (s ≠ 23 ∧ s ≠ 24 ∧ s ≠ 25 ∧ s ≠ 48) → T.2.2.1 (s, 0) = S1.2.2.1 (s, 0) := fun s h => a6 _ (cv_ne r2 h).2.1
  have m := r2.2.2.2.2.1
  have aF : T.2.2.1 F = S.2.2.1 F := (a6 F (fun z => m.1 z.symm)).trans t1
  have aE : T.2.2.1 E = S.2.2.1 E := (a6 E (fun z => m.2.1 z.symm)).trans t2
  have aX : T.2.2.1 (28, 0) = S.2.2.1 (28, 0) := (oth 28 (by decide)).trans t3
  have aW : T.2.2.1 (42, 0) = S.2.2.1 (42, 0) := (oth 42 (by decide)).trans t6
  have iW : T.1 (38, 0) 7 = S.1 (38, 0) 7 := (i1 _ _ (by decide)).trans t8
  refine ⟨⟨?_, ?_, ?_, ?_, ?_, ?_, ?_, ?_, ?_, ?_, ?_, r12⟩, ⟨fun b j h1 h2 h3 => (i1 b j (fun z => h3 ⟨z.1, .inl z.2⟩)).trans (f1 b j h1 h2 h3), e2.trans f2, fun b a1 a2 a3 a4 a5 a7 a8 a9 a10 a11 => (a6 b a1).trans (f3 b a1 a2 a3 a4 a5 a7 a8 a9 a10 a11), by rw [e3]; exact f4, by rw [e3]; exact f5, by rw [e3]; exact f6, by rw [e3]; exact f7⟩, ⟨?_, ?_, fun k k0 k1 => ?_, fun k k0 k1 => ?_⟩, ⟨aF, aE, aX, (oth 29 (by decide)).trans t4, (oth 30 (by decide)).trans t5, aW, (i1 _ _ (by decide)).trans t7, iW⟩⟩
  · unfold ty_st; rw [e2, e3]; exact q1
  · unfold cv_sh; rw [e2, e3]; exact q2
  · unfold cv_g
    rw [oth 19 (by decide), oth 20 (by decide), oth 21 (by decide), oth 22 (by decide)]
    exact q3
  · rw [i1 _ _ (by decide)]; exact q4
  · rw [i1 _ _ (by decide)]; exact q5
  · rw [oth 40 (by decide), oth 41 (by decide), i1 _ _ (by decide)]; exact q6
  · rw [iW, aW]; exact r7
  · rw [aB, aF, aE, aX]; exact r8
  · rw [oth 27 (by decide)]; exact q9
  · rw [i2, oth 26 (by decide)]
    exact ⟨⟨r10.1.1, by omega⟩, fun i h0 h1 => q10.2 i h0 (by omega)⟩
  · rw [oth 29 (by decide), oth 30 (by decide), i1 _ _ (by decide)]; exact q11
  · rw [i2]; omega
  · rw [i1 _ _ (by decide)]; exact u2
  · rw [aB, oth 26 (by decide), i2]
    have h5 := u3 k k0 k1
    have h6 : (S1.1 (13, 0) 7 - k).toNat = (S.1 (13, 0) 7 - k).toNat + (S1.1 (13, 0) 7 - S.1 (13, 0) 7).toNat := by omega
    rw [h6, cv_fr_split] at h5
    have h7 : k + ((S.1 (13, 0) 7 - k).toNat : Nat) = S.1 (13, 0) 7 := by omega
    rw [h7, u3 _ r10.1.1 (Int.le_refl _), show (S.1 (13, 0) 7 - S.1 (13, 0) 7).toNat = 0 by omega] at h5
    exact h5
  · have h5 := u4 k k0 k1
    rw [a6 F (fun z => m.1 z.symm), a6 E (fun z => m.2.1 z.symm), oth 28 (by decide), oth 29 (by decide), oth 30 (by decide), i1 _ _ (by decide)]
    exact h5
/-- the rows of the pairs that stay different -/
def ca_R (S : ty_S) (an : Int) (al ar : Int → Int) (aw : Int → Bool) (k : Int) : Prop := (S.1 (39, 0) 5 = an ∧ 0 ≤ an ∧ an ≤ 500) ∧ (∀ i, 0 ≤ i → i < an → S.2.2.1 (43, 0) i = al i ∧ S.2.2.1 (44, 0) i = ar i ∧ S.2.2.1 (45, 0) i = if aw i = true then 1 else 0) ∧
  ((0 ≤ S.1 (39, 0) 7 ∧ S.1 (39, 0) 7 ≤ k) ∧ ∀ i, 0 ≤ i → i < S.1 (39, 0) 7 → 0 ≤ S.2.2.1 (46, 0) i ∧ S.2.2.1 (46, 0) i < 500)
/-- what can be taken back of them is the same -/
def ca_ud (S S' : ty_S) : Prop := S.1 (39, 0) 7 ≤ S'.1 (39, 0) 7 ∧ ∀ k, 0 ≤ k → k ≤ S.1 (39, 0) 7 → ca_sw (S'.2.2.1 (45, 0)) (S'.2.2.1 (46, 0)) k (S'.1 (39, 0) 7 - k).toNat = ca_sw (S.2.2.1 (45, 0)) (S.2.2.1 (46, 0)) k (S.1 (39, 0) 7 - k).toNat
theorem ca_ud.refl : ca_ud S S := ⟨Int.le_refl _, fun _ _ _ => rfl⟩
theorem ca_ud.trans {S1 S2 : ty_S} (h : ca_ud S S1) (g : ca_ud S1 S2) : ca_ud S S2 := ⟨Int.le_trans h.1 g.1, fun k a b => (g.2 k a (Int.le_trans b h.1)).trans (h.2 k a b)⟩
/-- while terms are made same these rows stand still -/
theorem ca_keep {S1 : ty_S} (hV : cv_sh S B F E n) (hf : cp_fm S S1 B F E) : (∀ s : Nat, (s = 43 ∨ s = 44 ∨ s = 45 ∨ s = 46) → S1.2.2.1 (s, 0) = S.2.2.1 (s, 0)) ∧ ∀ j, S1.1 (39, 0) j = S.1 (39, 0) j := by
  refine ⟨fun s hs => ?_, fun j => hf.1 _ _ (by decide) (by decide) (fun z => absurd z.1 (by decide))⟩
  have hne := (cv_ne hV (s := s) (i := 0) (by omega)).2
  refine hf.2.2.1 _ hne.1 hne.2.1 hne.2.2 ?_ ?_ ?_ ?_ ?_ ?_ ?_ <;> (intro z; have := congrArg Prod.fst z; simp only at this; omega)
theorem ca_R_keep {S1 : ty_S} (hV : cv_sh S B F E n) (hf : cp_fm S S1 B F E) {an k k1 : Int} {al ar : Int → Int} {aw : Int → Bool} (h : ca_R S an al ar aw k) (hk : k ≤ k1) : ca_R S1 an al ar aw k1 ∧ ca_ud S S1 := by
  obtain ⟨a1, a2⟩ := ca_keep hV hf
  obtain ⟨h1, h2, h3⟩ := h
  unfold ca_R ca_ud
  rw [a1 43 (by decide), a1 44 (by decide), a1 45 (by decide), a1 46 (by decide), a2, a2]
  exact ⟨⟨h1, h2, ⟨h3.1.1, by omega⟩, h3.2⟩, Int.le_refl _, fun _ _ _ => rfl⟩
/-- the whole of what hold leaves alone -/
def ca_fm (S S' : ty_S) (B F E : ai_A) : Prop := (∀ b j, b ≠ (37, 0) → b ≠ (38, 0) → b ≠ (39, 0) → ¬ (b = (13, 0) ∧ (j = 7 ∨ j = 13)) → S'.1 b j = S.1 b j) ∧ S'.2.1 = S.2.1 ∧
  (∀ b, b ≠ B → b ≠ F → b ≠ E → b ≠ (26, 0) → b ≠ (28, 0) → b ≠ (29, 0) → b ≠ (30, 0) → b ≠ (40, 0) → b ≠ (41, 0) → b ≠ (42, 0) → b ≠ (45, 0) → b ≠ (46, 0) → S'.2.2.1 b = S.2.2.1 b) ∧ S'.2.2.2.1 = S.2.2.2.1 ∧ S'.2.2.2.2.1 = S.2.2.2.2.1 ∧ S'.2.2.2.2.2.1 = S.2.2.2.2.2.1 ∧ S'.2.2.2.2.2.2.1 = S.2.2.2.2.2.2.1
theorem ca_fm.refl : ca_fm S S B F E := ⟨fun _ _ _ _ _ _ => rfl, rfl, fun _ _ _ _ _ _ _ _ _ _ _ _ _ => rfl, rfl, rfl, rfl, rfl⟩
theorem ca_fm.trans {S1 S2 : ty_S} (h : ca_fm S S1 B F E) (g : ca_fm S1 S2 B F E) : ca_fm S S2 B F E :=
  ⟨fun b j a c x e => (g.1 b j a c x e).trans (h.1 b j a c x e), g.2.1.trans h.2.1, fun b a1 a2 a3 a4 a5 a6 a7 a8 a9 a10 a11 a12 => (g.2.2.1 b a1 a2 a3 a4 a5 a6 a7 a8 a9 a10 a11 a12).trans (h.2.2.1 b a1 a2 a3 a4 a5 a6 a7 a8 a9 a10 a11 a12), g.2.2.2.1.trans h.2.2.2.1, g.2.2.2.2.1.trans h.2.2.2.2.1, g.2.2.2.2.2.1.trans h.2.2.2.2.2.1, g.2.2.2.2.2.2.trans h.2.2.2.2.2.2⟩
theorem cp_fm.ca {S1 : ty_S} (h : cp_fm S S1 B F E) : ca_fm S S1 B F E := ⟨fun b j a c _ e => h.1 b j a c e, h.2.1, fun b a1 a2 a3 a4 a5 a6 a7 a8 a9 a10 _ _ => h.2.2.1 b a1 a2 a3 a4 a5 a6 a7 a8 a9 a10, h.2.2.2⟩
end CAH
end
section
/-! hold. -/
section CAL
variable {L : Nat} {xs : Nat → Int32} {S : ty_S} {B F E : ai_A} {n : Nat} {G : mo_G} {made ns : Int} {sl : Int → Int}
def ca_s (S : ty_S) (i : Int) : ty_S := ty_sI (ty_sA (ty_sA S (45, 0) i 0) (46, 0) (S.1 (39, 0) 7) i) (39, 0) 7 (S.1 (39, 0) 7 + 1)
/-- rows that don't belong to variables and pairs may change -/
theorem cp_R_other {st k : Int} {u : mo_U} {T : ty_S} (hR : cp_R S B F E n G made ns sl st k u) (e2 : T.2.1 = S.2.1) (e3 : T.2.2.2 = S.2.2.2) (i1 : ∀ b j, b = (13, 0) ∨ b = (37, 0) ∨ b = (38, 0) → T.1 b j = S.1 b j)
    (a6 : ∀ b, (b = B ∨ b = F ∨ b = E ∨ b = (19, 0) ∨ b = (20, 0) ∨ b = (21, 0) ∨ b = (22, 0) ∨ b = (26, 0) ∨ b = (27, 0) ∨ b = (28, 0) ∨ b = (29, 0) ∨ b = (30, 0) ∨ b = (40, 0) ∨ b = (41, 0) ∨ b = (42, 0)) → T.2.2.1 b = S.2.2.1 b) : cp_R T B F E n G made ns sl st k u ∧ cp_ud S T B F E := by
  obtain ⟨r1, r2, r3, r4, r5, r6, r7, r8, r9, r10, r11, r12⟩ := hR
  refine ⟨⟨?_, ?_, ?_, ?_, ?_, ?_, ?_, ?_, ?_, ?_, ?_, r12⟩, ?_⟩
  · unfold ty_st; rw [e2, e3]; exact r1
  · unfold cv_sh; rw [e2, e3]; exact r2
  · unfold cv_g
    rw [a6 _ (by simp), a6 _ (by simp), a6 _ (by simp), a6 _ (by simp)]
    exact r3
  · rw [i1 _ _ (by simp)]; exact r4
  · rw [i1 _ _ (by simp)]; exact r5
  · rw [a6 _ (by simp), a6 _ (by simp), i1 _ _ (by simp)]; exact r6
  · rw [a6 _ (by simp), i1 _ _ (by simp)]; exact r7
  · rw [a6 _ (by simp), a6 _ (by simp), a6 _ (by simp), a6 _ (by simp)]; exact r8
  · rw [a6 _ (by simp)]; exact r9
  · rw [a6 _ (by simp), i1 _ _ (by simp)]; exact r10
  · rw [a6 _ (by simp), a6 _ (by simp), i1 _ _ (by simp)]; exact r11
  · refine ⟨by rw [i1 _ _ (by simp)]; omega, by rw [i1 _ _ (by simp)]; omega, fun q _ _ => ?_, fun q _ _ => ?_⟩
    · rw [a6 _ (by simp), a6 _ (by simp), i1 _ _ (by simp)]
    · rw [a6 F (by simp), a6 E (by simp), a6 _ (by simp), a6 _ (by simp), a6 _ (by simp), i1 _ _ (by simp)]
theorem ca_settled {st k : Int} {u : mo_U} (hR : cp_R S B F E n G made ns sl st k u) {an : Int} {al ar : Int → Int} {aw : Int → Bool} {q : Int} (hA : ca_R S an al ar aw q) {i : Int} (hi : 0 ≤ i ∧ i < an) (hw : aw i = true) :
    cp_R (ca_s S i) B F E n G made ns sl st k u ∧ ca_R (ca_s S i) an al ar (mo_uw aw i false) (q + 1) ∧ cp_ud S (ca_s S i) B F E ∧ ca_ud S (ca_s S i) ∧ ca_fm S (ca_s S i) B F E ∧ (ca_s S i).2.2.2.2.2.2.2 = S.2.2.2.2.2.2.2 := by
  have hV := hR.2.1
  have a1 : (ca_s S i).2.2.1 (45, 0) = mo_up (S.2.2.1 (45, 0)) i 0 := by
    show (ty_sA (ty_sA S (45, 0) i 0) (46, 0) _ i).2.2.1 (45, 0) = _
    rw [ty_sA_ne (by decide), ty_sA_at]
    rfl
  have a2 : (ca_s S i).2.2.1 (46, 0) = mo_up (S.2.2.1 (46, 0)) (S.1 (39, 0) 7) i := by
    show (ty_sA (ty_sA S (45, 0) i 0) (46, 0) _ i).2.2.1 (46, 0) = _
    rw [ty_sA_at, ty_sA_ne (by decide)]
    rfl
  have a3 : ∀ b, ¬ b = (45, 0) → ¬ b = (46, 0) → (ca_s S i).2.2.1 b = S.2.2.1 b := fun b h1 h2 => by
    show (ty_sA (ty_sA S (45, 0) i 0) (46, 0) _ i).2.2.1 b = _
    rw [ty_sA_ne h2, ty_sA_ne h1]
  have i1 : ∀ b j, ¬ (b = (39, 0) ∧ j = 7) → (ca_s S i).1 b j = S.1 b j := fun b j h => if_neg h
  have i2 : (ca_s S i).1 (39, 0) 7 = S.1 (39, 0) 7 + 1 := ty_sI_at
  have nW := (cv_ne hV (s := 45) (i := 0) (by decide)).1
  have nX := (cv_ne hV (s := 46) (i := 0) (by decide)).1
  obtain ⟨c1, c2⟩ := cp_R_other (T := ca_s S i) hR rfl rfl (fun b j h => i1 b j (by rintro ⟨z, -⟩; rcases h with h | h | h <;> exact absurd (h.symm.trans z) (by decide))) (fun b h => a3 b (fun z => by
      rcases h with h | h | h | h | h | h | h | h | h | h | h | h | h | h | h
      · exact nW.1 (h.symm.trans z)
      · exact nW.2.1 (h.symm.trans z)
      · exact nW.2.2 (h.symm.trans z)
      all_goals exact absurd (h.symm.trans z) (by decide)) (fun z => by
      rcases h with h | h | h | h | h | h | h | h | h | h | h | h | h | h | h
      · exact nX.1 (h.symm.trans z)
      · exact nX.2.1 (h.symm.trans z)
      · exact nX.2.2 (h.symm.trans z)
      all_goals exact absurd (h.symm.trans z) (by decide)))
  obtain ⟨h1, h2, h3⟩ := hA
  have hwi : S.2.2.1 (45, 0) i = 1 := by
    rw [(h2 i hi.1 hi.2).2.2, if_pos hw]
  refine ⟨c1, ⟨?_, fun j j0 j1 => ?_, ?_, fun j j0 j1 => ?_⟩, c2, ⟨by rw [i2]; omega, fun k k0 k1 => ?_⟩, ⟨fun b j b1 b2 b3 b4 => i1 b j (fun z => b3 z.1), rfl, fun b _ _ _ _ _ _ _ _ _ _ b11 b12 => a3 b b11 b12, rfl, rfl, rfl, rfl⟩, rfl⟩
  · rw [i1 _ _ (by decide)]; exact h1
  · rw [a1, a3 _ (by decide) (by decide), a3 _ (by decide) (by decide)]
    refine ⟨(h2 j j0 j1).1, (h2 j j0 j1).2.1, ?_⟩
    by_cases e : j = i
    · have z1 : mo_uw aw i false j = false := by simp [mo_uw, e]
      have z2 : mo_up (S.2.2.1 (45, 0)) i 0 j = 0 := by simp [mo_up, e]
      rw [z1, z2]
      rfl
    · have z1 : mo_uw aw i false j = aw j := by simp [mo_uw, e]
      have z2 : mo_up (S.2.2.1 (45, 0)) i 0 j = S.2.2.1 (45, 0) j := by simp [mo_up, e]
      rw [z1, z2]
      exact (h2 j j0 j1).2.2
  · rw [i2]
    have := h3.1
    omega
  · rw [a2]
    rw [i2] at j1
    simp only [mo_up]
    by_cases e : j = S.1 (39, 0) 7
    · rw [if_pos e]; omega
    · rw [if_neg e]; exact h3.2 j j0 (by omega)
  · rw [a1, a2, i2]
    exact ca_sw_settle k1 hwi
def ca_h (S : ty_S) (B F E : ai_A) (n : Nat) (G : mo_G) (made ns : Int) (sl : Int → Int) (v : (Int → Int) × (Int → List Int) × List Int × Bool) (an : Int) (al ar : Int → Int) (r : Int × Int × (Int → Bool)) : ai_O → ty_S → Prop := fun o S' => ca_fm S S' B F E ∧
  (((r.1 = 0 ∨ r.1 = 1) ∧ o = .inl (some (.inl (ty_J r.1))) ∧ (∃ ps, cp_R S' B F E n G made ns sl r.2.1 r.2.1 (ps, v)) ∧ ca_R S' an al ar r.2.2 r.2.1 ∧ cp_ud S S' B F E ∧ ca_ud S S' ∧ S'.2.2.2.2.2.2.2 = S.2.2.2.2.2.2.2) ∨
   (r.1 = 2 ∧ o = .inr 1 ∧ S'.2.2.2.2.2.2.2 = (S.2.2.2.2.2.2.2.1 + 1, S.2.2.2.2.2.2.2.2 + 6)))
theorem ca_loop (d : Nat) (hw : mo_wf G) (hmade : made ≤ 100000) {dn : List Int} {bd : Int → Int} {ch : Int → List Int} {wk : List Int} {fl : Bool} (hb : mo_bw G made bd) (hcw : mo_cw made ns bd ch (dn ++ wk)) {an fr : Int} {al ar : Int → Int} (hok : ∀ i, 0 ≤ i → i < an → mo_ok G made (al i) ∧ mo_ok G made (ar i)) :
    ∀ (m : Nat) (S : ty_S) (st i : Int) (aw : Int → Bool) (x4 x5 : Option ai_V) (ps : List (Int × Int)), m = (an - i).toNat → 0 ≤ i → i ≤ an → cp_R S B F E n G made ns sl st st (ps, bd, ch, wk, fl) → ca_R S an al ar aw st →
    ty_W L xs (d + 4) 89 4 [some (.inr (.inr (some (39, 0)))), some (.inl (ty_J fr)), some (.inl (ty_J 1)), some (.inl (ty_J i)), x4, x5] [] S (ca_h S B F E n G made ns sl (bd, ch, wk, fl) an al ar (mo_hold G bd ch wk al ar m st i aw)) := by
  intro m
  induction m with
  | zero =>
    intro S st i aw x4 x5 ps hm h0 h1 hR hA
    have hS := hR.1
    have hA0 := hA.1
    refine ty_iload_n (pc := 4) (i := 3) (ks := []) (by decide +kernel) rfl ?_
    refine ty_aload_n (pc := 5) (i := 0) (ks := []) (by decide +kernel) rfl ?_
    refine ty_getI (pc := 6) (idx := 22) (ci := 9) (f := 5) (by decide +kernel) (by first | rfl | assumption) rfl (by first | exact hS.1 _ _ rfl | assumption) (fun v hv => ?_)
    subst hv
    -- at 9: .if_icmp .ge 110
    rw [hA0.1]
    refine ty_icmp_ge (pc := 9) (off := 110) (t := 119) (ks := []) (by decide +kernel) (by omega) (by omega) (fun hc => ?_) (fun hc => ?_)
    · refine ty_iload_n (pc := 119) (i := 2) (ks := []) (by decide +kernel) rfl ?_
      -- at 120: .ireturn
      refine ty_ret_i (pc := 120) (ks := []) (ty := .boolean) (by decide +kernel) rfl (ty_fit_z (by omega)) ?_
      exact ⟨ca_fm.refl, .inl ⟨.inr rfl, rfl, ⟨ps, hR⟩, hA, cp_ud.refl, ca_ud.refl, rfl⟩⟩
    · omega
  | succ m ih =>
    intro S st i aw x4 x5 ps hm h0 h1 hR hA
    have hS := hR.1
    have hV := hR.2.1
    have hA0 := hA.1
    have hAi := hA.2.1 i h0 (by omega)
    have hR5 := hR.2.2.2.2.1
    have hR10 := hR.2.2.2.2.2.2.2.2.2.1
    refine ty_iload_n (pc := 4) (i := 3) (ks := []) (by decide +kernel) rfl ?_
    refine ty_aload_n (pc := 5) (i := 0) (ks := []) (by decide +kernel) rfl ?_
    refine ty_getI (pc := 6) (idx := 22) (ci := 9) (f := 5) (by decide +kernel) (by first | rfl | assumption) rfl (by first | exact hS.1 _ _ rfl | assumption) (fun v hv => ?_)
    subst hv
    -- at 9: .if_icmp .ge 110
    rw [hA0.1]
    refine ty_icmp_ge (pc := 9) (off := 110) (t := 119) (ks := []) (by decide +kernel) (by omega) (by omega) (fun hc => ?_) (fun hc => ?_)
    · omega
    · refine ty_iload_n (pc := 12) (i := 2) (ks := []) (by decide +kernel) rfl ?_
      -- at 13: .ifCond .eq 106
      refine ty_if_eq (pc := 13) (off := 106) (t := 119) (ks := []) (by decide +kernel) (by omega) (fun hc => ?_) (fun hc => ?_)
      · omega
      · refine ty_aload_n (pc := 16) (i := 0) (ks := []) (by decide +kernel) rfl ?_
        refine ty_getS (b := (45, 0)) (pc := 17) (idx := 18) (ci := 9) (f := 4) (by decide +kernel) (by first | rfl | assumption) rfl (by first | exact hS.1 _ _ rfl | assumption) (by first | exact hS.2.2 _ _ _ _ rfl | assumption) ?_
        refine ty_iload_n (pc := 20) (i := 3) (ks := []) (by decide +kernel) rfl ?_
        refine ty_baload (pc := 21) (ks := []) (by decide +kernel) (by first | rfl | assumption) (by rfl) (by first | exact hS.1 _ _ rfl | assumption) (by first | exact hS.2.1 _ _ _ rfl | assumption) (by omega) (fun v hv => ?_)
        subst hv
        -- at 22: .ifCond .eq 91
        rw [hAi.2.2]
        by_cases hwt : aw i = true
        · rw [if_pos hwt]
          unfold mo_hold
          rw [if_pos hwt]
          refine ty_if_eq (pc := 22) (off := 91) (t := 113) (ks := []) (by decide +kernel) (by omega) (fun hc => ?_) (fun hc => ?_)
          · omega
          · obtain ⟨bc, hbc⟩ : ∃ bc, S.1 (13, 0) 7 = bc := ⟨_, rfl⟩
            have e0 : ty_sI S (38, 0) 5 0 = cp_s S (S.2.2.1 (40, 0)) (S.2.2.1 (41, 0)) 0 := by
              unfold cp_s
              rw [ty_mA_self, ty_mA_self]
            refine ty_aload_n (pc := 25) (i := 0) (ks := []) (by decide +kernel) rfl ?_
            refine ty_getS (b := (13, 0)) (pc := 26) (idx := 32) (ci := 9) (f := 0) (by decide +kernel) (by first | rfl | assumption) rfl (by first | exact hS.1 _ _ rfl | assumption) (by first | exact hS.2.2 _ _ _ _ rfl | assumption) ?_
            refine ty_getI (pc := 29) (idx := 40) (ci := 2) (f := 7) (by decide +kernel) (by first | rfl | assumption) rfl (by first | exact hS.1 _ _ rfl | assumption) (fun v hv => ?_)
            subst hv
            refine ty_istore (pc := 32) (i := 4) (ks := []) (ls' := [_, _, _, _, _, _]) (by decide +kernel) rfl ?_
            refine ty_aload_n (pc := 34) (i := 0) (ks := []) (by decide +kernel) rfl ?_
            refine ty_getS (b := (38, 0)) (pc := 35) (idx := 36) (ci := 9) (f := 1) (by decide +kernel) (by first | rfl | assumption) rfl (by first | exact hS.1 _ _ rfl | assumption) (by first | exact hS.2.2 _ _ _ _ rfl | assumption) ?_
            refine ty_iconst (pc := 38) (n := 0) (ks := []) (by decide +kernel) ?_
            refine ty_putI (pc := 39) (idx := 45) (ci := 8) (f := 5) (by decide +kernel) (by first | rfl | assumption) rfl rfl (by first | exact hS.1 _ _ rfl | assumption) ?_
            refine ty_aload_n (pc := 42) (i := 0) (ks := []) (by decide +kernel) rfl ?_
            refine ty_getS (b := (38, 0)) (pc := 43) (idx := 36) (ci := 9) (f := 1) (by decide +kernel) (by first | rfl | assumption) rfl (by first | exact hS.1 _ _ rfl | assumption) (by first | exact hS.2.2 _ _ _ _ rfl | assumption) ?_
            refine ty_aload_n (pc := 46) (i := 0) (ks := []) (by decide +kernel) rfl ?_
            refine ty_getS (b := (43, 0)) (pc := 47) (idx := 9) (ci := 9) (f := 2) (by decide +kernel) (by first | rfl | assumption) rfl (by first | exact hS.1 _ _ rfl | assumption) (by first | exact hS.2.2 _ _ _ _ rfl | assumption) ?_
            refine ty_iload_n (pc := 50) (i := 3) (ks := []) (by decide +kernel) rfl ?_
            refine ty_iaload (pc := 51) (ks := []) (by decide +kernel) (by first | rfl | assumption) (by rfl) (by first | exact hS.1 _ _ rfl | assumption) (by first | exact hS.2.1 _ _ _ rfl | assumption) (by omega) (fun v hv => ?_)
            first | simp (decide := true) only [ty_sI, ty_sR, ty_sA, ty_sQ, ty_mA, ty_mQ, ↓reduceIte, false_and, and_false, true_and, and_true, and_self, hne] at hv | simp (decide := true) only [ty_sI, ty_sR, ty_sA, ty_sQ, ty_mA, ty_mQ, ↓reduceIte, false_and, and_false, true_and, and_true, and_self] at hv | skip
            subst hv
            refine ty_aload_n (pc := 52) (i := 0) (ks := []) (by decide +kernel) rfl ?_
            refine ty_getS (b := (44, 0)) (pc := 53) (idx := 15) (ci := 9) (f := 3) (by decide +kernel) (by first | rfl | assumption) rfl (by first | exact hS.1 _ _ rfl | assumption) (by first | exact hS.2.2 _ _ _ _ rfl | assumption) ?_
            refine ty_iload_n (pc := 56) (i := 3) (ks := []) (by decide +kernel) rfl ?_
            refine ty_iaload (pc := 57) (ks := []) (by decide +kernel) (by first | rfl | assumption) (by rfl) (by first | exact hS.1 _ _ rfl | assumption) (by first | exact hS.2.1 _ _ _ rfl | assumption) (by omega) (fun v hv => ?_)
            first | simp (decide := true) only [ty_sI, ty_sR, ty_sA, ty_sQ, ty_mA, ty_mQ, ↓reduceIte, false_and, and_false, true_and, and_true, and_self, hne] at hv | simp (decide := true) only [ty_sI, ty_sR, ty_sA, ty_sQ, ty_mA, ty_mQ, ↓reduceIte, false_and, and_false, true_and, and_true, and_self] at hv | skip
            subst hv
            -- at 58: .invokevirtual 50
            rw [e0, hbc]
            have hl1 : (cp_s S (S.2.2.1 (40, 0)) (S.2.2.1 (41, 0)) 0).2.2.1 (43, 0) i = al i := by
              show (ty_mA (ty_mA S (40, 0) (S.2.2.1 (40, 0))) (41, 0) (S.2.2.1 (41, 0))).2.2.1 (43, 0) i = al i
              rw [ty_mA_self, ty_mA_self]
              exact hAi.1
            rw [hAi.1, hAi.2.1]
            refine ty_callv (pc := 58) (idx := 50) (m := 73) (n := 3) (c := 8) (vs := [_, _]) (r := []) (by decide +kernel) rfl rfl (Nat.le_of_ble_eq_true rfl) (by first | rfl | assumption) (by first | exact hS.1 _ _ rfl | assumption) (cp_put _ (o := 0) (by exact hS) (by exact ty_sI_at) (by omega)) ?_
            rintro _ S2 ⟨rfl, e2⟩
            have e2 : S2 = cp_s S (mo_up (S.2.2.1 (40, 0)) 0 (al i)) (mo_up (S.2.2.1 (41, 0)) 0 (ar i)) 1 := by
              rw [e2]
              exact cp_s_put
            refine ty_KV ?_
            have hstk : mo_stk (mo_up (S.2.2.1 (40, 0)) 0 (al i)) (mo_up (S.2.2.1 (41, 0)) 0 (ar i)) 1 [(al i, ar i)] := by
              have : mo_stk (S.2.2.1 (40, 0)) (S.2.2.1 (41, 0)) 0 [] := rfl
              exact mo_stk_put this
            obtain ⟨q1, q2, q3⟩ := cp_R_stk hR hstk
            have q4 := cp_tr_s hV (l := mo_up (S.2.2.1 (40, 0)) 0 (al i)) (r := mo_up (S.2.2.1 (41, 0)) 0 (ar i)) (o := 1)
            have ebc : S2.1 (13, 0) 7 = bc := by
              rw [e2, ← hbc]
              exact ty_sI_ne (by decide)
            have enc : S2.2.2.2.2.2.2.2 = S.2.2.2.2.2.2.2 := by rw [e2]; rfl
            rw [← e2] at q1 q2 q3 q4
            have hS2 := q1.1
            clear e2
            have hS := hS2
            have hpo : mo_po G made [(al i, ar i)] := by
              intro p hp
              have : p = (al i, ar i) := by simpa using hp
              rw [this]
              exact hok i h0 (by omega)
            refine ty_aload_n (pc := 61) (i := 0) (ks := []) (by decide +kernel) rfl ?_
            refine ty_getS (b := (38, 0)) (pc := 62) (idx := 36) (ci := 9) (f := 1) (by decide +kernel) (by first | rfl | assumption) rfl (by first | exact hS.1 _ _ rfl | assumption) (by first | exact hS.2.2 _ _ _ _ rfl | assumption) ?_
            refine ty_iconst (pc := 65) (n := 1) (ks := []) (by decide +kernel) ?_
            -- at 66: .invokevirtual 54
            have q1' : cp_R S2 B F E n G made ns sl st st ([(al i, ar i)], bd, ch, wk, false) := q1
            refine ty_callv (pc := 66) (idx := 54) (m := 85) (n := 2) (c := 8) (vs := [_]) (r := []) (by decide +kernel) rfl rfl (Nat.le_of_ble_eq_true rfl) (by first | rfl | assumption) (by first | exact hS.1 _ _ rfl | assumption) (cp_makeSame d hw hmade true (by simp) (by simp) q1' hpo hb hcw) ?_
            have hinv := mo_un_inv hw hmade (tr := true) (501 - st).toNat st [(al i, ar i)] bd ch wk false (by omega) (by omega) hpo hb hcw
            have hsteps := fun z => mo_ur_steps hw hmade (tr := true) (fl := false) ⟨hR5.2.1, hR5.2.2⟩ hpo hb hcw z
            change (_ ∧ _ ∧ _ ∧ _ ∧ _) at hinv
            have hur : mo_un G true (501 - st).toNat st ([(al i, ar i)], bd, ch, wk, false) = mo_ur G true st ([(al i, ar i)], bd, ch, wk, false) := rfl
            rw [hur] at hinv
            generalize mo_ur G true st ([(al i, ar i)], bd, ch, wk, false) = r at hinv hsteps
            obtain ⟨rc, rs, rbd, rch, rwk, rfl_⟩ := r
            obtain ⟨j1, j2, j3, j4, j5⟩ := hinv
            rintro o S3 ⟨⟨c1, c2⟩, c3⟩
            have c2 := c2 rfl
            rcases c3 with ⟨b1, rfl, b3, b4, b5, b6⟩ | ⟨b1, rfl, ⟨ps3, b3⟩, b4, b5⟩ | ⟨b1, rfl, b3⟩
            · -- they are same
              have b1 : rc = 1 := b1
              subst b1
              simp only at hsteps b3 b6 j2
              have hs1 := hsteps (by decide)
              rw [if_neg (by simp), if_pos rfl]
              refine ty_KI ?_
              obtain ⟨y1, y2, y3, y4⟩ := cp_R_test hR b3 (q2.trans c1) (q4.trans c2) (q3.trans b4) (by omega)
              rw [hbc] at y1 y2 y3 y4
              have hS := b3.1
              have hbr := b3.2.2.2.2.2.2.2.2.2.1
              have hbs := b3.2.2.2.2.1
              have hfree : ty_C L xs (d + 4) 82 [.inr (.inr (some (13, 0))), .inl (ty_J bc)] S3 (ty_oV fun S' => S' = ca_fr S3 B bc) := by
                refine cv_free (d + 3) b3.1 b3.2.1 rfl ?_ (fun q q0 q1 => ?_)
                · have := (q3.trans b4).1
                  rw [hbc] at this
                  omega
                · have := hbr.2 q (by omega) q1
                  have := b3.2.2.2.1
                  omega
              obtain ⟨z1, z2⟩ := ca_R_keep hV y2 hA (k1 := rs) (by omega)
              have tail : ∀ (wl : Int), wl = 0 ∨ wl = 1 → ty_W L xs (d + 4) 89 93 [some (.inr (.inr (some (39, 0)))), some (.inl (ty_J fr)), some (.inl (ty_J 1)), some (.inl (ty_J i)), some (.inl (ty_J bc)), some (.inl (ty_J 1))] [.inl (ty_J wl)] S3 (ca_h S B F E n G made ns sl (bd, ch, wk, fl) an al ar (if wl = 1 then mo_hold G bd ch wk al ar m rs (i + 1) aw else (0, rs, aw))) := by
                intro wl hwl
                refine ty_istore_n (pc := 93) (i := 2) (ks := []) (ls' := [_, _, _, _, _, _]) (by decide +kernel) rfl ?_
                refine ty_aload_n (pc := 94) (i := 0) (ks := []) (by decide +kernel) rfl ?_
                refine ty_getS (b := (13, 0)) (pc := 95) (idx := 32) (ci := 9) (f := 0) (by decide +kernel) (by first | rfl | assumption) rfl (by first | exact hS.1 _ _ rfl | assumption) (by first | exact hS.2.2 _ _ _ _ rfl | assumption) ?_
                refine ty_iload (pc := 98) (i := 4) (ks := []) (by decide +kernel) rfl ?_
                -- at 100: .invokevirtual 58
                refine ty_callv (pc := 100) (idx := 58) (m := 82) (n := 2) (c := 2) (vs := [_]) (r := []) (by decide +kernel) rfl rfl (Nat.le_of_ble_eq_true rfl) (by first | rfl | assumption) (by first | exact hS.1 _ _ rfl | assumption) hfree ?_
                rintro _ S4 ⟨rfl, rfl⟩
                refine ty_KV ?_
                have hS := y1.1
                refine ty_iload (pc := 103) (i := 5) (ks := []) (by decide +kernel) rfl ?_
                -- at 105: .ifCond .ne 8
                refine ty_if_ne (pc := 105) (off := 8) (t := 113) (ks := []) (by decide +kernel) (by omega) (fun hc => ?_) (fun hc => ?_)
                · refine ty_iinc (pc := 113) (i := 3) (n := 1) (ks := []) (ls' := [_, _, _, _, _, _]) (by decide +kernel) rfl rfl ?_
                  refine ty_goto (pc := 116) (off := (-112)) (t := 4) (ks := []) (by decide +kernel) ?_
                  -- at 4: .iload_n 3
                  rcases hwl with rfl | rfl
                  · rw [if_neg (by decide)]
                    have hAz := z1.1
                    refine ty_iload_n (pc := 4) (i := 3) (ks := []) (by decide +kernel) rfl ?_
                    refine ty_aload_n (pc := 5) (i := 0) (ks := []) (by decide +kernel) rfl ?_
                    refine ty_getI (pc := 6) (idx := 22) (ci := 9) (f := 5) (by decide +kernel) (by first | rfl | assumption) rfl (by first | exact hS.1 _ _ rfl | assumption) (fun v hv => ?_)
                    subst hv
                    -- at 9: .if_icmp .ge 110
                    rw [hAz.1]
                    refine ty_icmp_ge (pc := 9) (off := 110) (t := 119) (ks := []) (by decide +kernel) (by omega) (by omega) (fun hc => ?_) (fun hc => ?_)
                    · refine ty_iload_n (pc := 119) (i := 2) (ks := []) (by decide +kernel) rfl ?_
                      -- at 120: .ireturn
                      refine ty_ret_i (pc := 120) (ks := []) (ty := .boolean) (by decide +kernel) rfl (ty_fit_z (by omega)) ?_
                      exact ⟨y2.ca, .inl ⟨.inl rfl, rfl, ⟨_, y1⟩, z1, y3, z2, b5.trans enc⟩⟩
                    · refine ty_iload_n (pc := 12) (i := 2) (ks := []) (by decide +kernel) rfl ?_
                      -- at 13: .ifCond .eq 106
                      refine ty_if_eq (pc := 13) (off := 106) (t := 119) (ks := []) (by decide +kernel) (by omega) (fun hc => ?_) (fun hc => ?_)
                      · refine ty_iload_n (pc := 119) (i := 2) (ks := []) (by decide +kernel) rfl ?_
                        -- at 120: .ireturn
                        refine ty_ret_i (pc := 120) (ks := []) (ty := .boolean) (by decide +kernel) rfl (ty_fit_z (by omega)) ?_
                        exact ⟨y2.ca, .inl ⟨.inl rfl, rfl, ⟨_, y1⟩, z1, y3, z2, b5.trans enc⟩⟩
                      · omega
                  · rw [if_pos rfl]
                    refine (ih _ rs (i + 1) aw _ _ _ (by omega) (by omega) (by omega) y1 z1).mono ?_
                    rintro o S' ⟨g1, g2⟩
                    refine ⟨y2.ca.trans g1, ?_⟩
                    have hnc : (ca_fr S3 B bc).2.2.2.2.2.2.2 = S.2.2.2.2.2.2.2 := b5.trans enc
                    rcases g2 with ⟨k1, k2, k3, k4, k5, k6, k7⟩ | ⟨k1, k2, k3⟩
                    · exact .inl ⟨k1, k2, k3, k4, y3.trans k5, z2.trans k6, k7.trans hnc⟩
                    · exact .inr ⟨k1, k2, by rw [k3, hnc]⟩
                · omega
              refine ty_istore (pc := 69) (i := 5) (ks := []) (ls' := [_, _, _, _, _, _]) (by decide +kernel) rfl ?_
              refine ty_iload (pc := 71) (i := 5) (ks := []) (by decide +kernel) rfl ?_
              -- at 73: .ifCond .eq 15
              refine ty_if_eq (pc := 73) (off := 15) (t := 88) (ks := []) (by decide +kernel) (by omega) (fun hc => ?_) (fun hc => ?_)
              · omega
              · refine ty_aload_n (pc := 76) (i := 0) (ks := []) (by decide +kernel) rfl ?_
                refine ty_getS (b := (13, 0)) (pc := 77) (idx := 32) (ci := 9) (f := 0) (by decide +kernel) (by first | rfl | assumption) rfl (by first | exact hS.1 _ _ rfl | assumption) (by first | exact hS.2.2 _ _ _ _ rfl | assumption) ?_
                refine ty_getI (pc := 80) (idx := 40) (ci := 2) (f := 7) (by decide +kernel) (by first | rfl | assumption) rfl (by first | exact hS.1 _ _ rfl | assumption) (fun v hv => ?_)
                subst hv
                refine ty_iload (pc := 83) (i := 4) (ks := []) (by decide +kernel) rfl ?_
                -- at 85: .if_icmp .le 7
                have b6 : rfl_ = true ↔ false = true ∨ S2.1 (13, 0) 7 < S3.1 (13, 0) 7 := b6
                rw [ebc] at b6
                have hbr1 := hbr.1
                refine ty_icmp_le (pc := 85) (off := 7) (t := 92) (ks := []) (by decide +kernel) (by omega) (by omega) (fun hc => ?_) (fun hc => ?_)
                · have hfl : ¬ rfl_ = true := fun z => by
                    rcases b6.mp z with w | w
                    · cases w
                    · omega
                  rw [if_neg hfl]
                  refine ty_iconst (pc := 92) (n := 0) (ks := []) (by decide +kernel) ?_
                  -- at 93: .istore_n 2
                  have := tail 0 (.inl rfl)
                  rw [if_neg (by decide)] at this
                  exact this
                · have hfl : rfl_ = true := b6.mpr (.inr hc)
                  rw [if_pos hfl]
                  refine ty_iconst (pc := 88) (n := 1) (ks := []) (by decide +kernel) ?_
                  refine ty_goto (pc := 89) (off := 4) (t := 93) (ks := []) (by decide +kernel) ?_
                  -- at 93: .istore_n 2
                  have := tail 1 (.inr rfl)
                  rw [if_pos rfl] at this
                  exact this
            · -- they can't be
              have b1 : rc = 0 := b1
              subst b1
              simp only at hsteps b3 j2
              have hs1 := hsteps (by decide)
              rw [if_neg (by simp), if_neg (by simp)]
              refine ty_KI ?_
              obtain ⟨y1, y2, y3, y4⟩ := cp_R_test hR b3 (q2.trans c1) (q4.trans c2) (q3.trans b4) (by omega)
              rw [hbc] at y1 y2 y3 y4
              have hbr := b3.2.2.2.2.2.2.2.2.2.1
              have hbs := b3.2.2.2.2.1
              have hfree : ty_C L xs (d + 4) 82 [.inr (.inr (some (13, 0))), .inl (ty_J bc)] S3 (ty_oV fun S' => S' = ca_fr S3 B bc) := by
                refine cv_free (d + 3) b3.1 b3.2.1 rfl ?_ (fun q q0 q1 => ?_)
                · have := (q3.trans b4).1
                  rw [hbc] at this
                  omega
                · have := hbr.2 q (by omega) q1
                  have := b3.2.2.2.1
                  omega
              obtain ⟨z1, z2⟩ := ca_R_keep hV y2 hA (k1 := rs - 1) (by omega)
              have hS := b3.1
              refine ty_istore (pc := 69) (i := 5) (ks := []) (ls' := [_, _, _, _, _, _]) (by decide +kernel) rfl ?_
              refine ty_iload (pc := 71) (i := 5) (ks := []) (by decide +kernel) rfl ?_
              -- at 73: .ifCond .eq 15
              refine ty_if_eq (pc := 73) (off := 15) (t := 88) (ks := []) (by decide +kernel) (by omega) (fun hc => ?_) (fun hc => ?_)
              · refine ty_iconst (pc := 88) (n := 1) (ks := []) (by decide +kernel) ?_
                refine ty_goto (pc := 89) (off := 4) (t := 93) (ks := []) (by decide +kernel) ?_
                refine ty_istore_n (pc := 93) (i := 2) (ks := []) (ls' := [_, _, _, _, _, _]) (by decide +kernel) rfl ?_
                refine ty_aload_n (pc := 94) (i := 0) (ks := []) (by decide +kernel) rfl ?_
                refine ty_getS (b := (13, 0)) (pc := 95) (idx := 32) (ci := 9) (f := 0) (by decide +kernel) (by first | rfl | assumption) rfl (by first | exact hS.1 _ _ rfl | assumption) (by first | exact hS.2.2 _ _ _ _ rfl | assumption) ?_
                refine ty_iload (pc := 98) (i := 4) (ks := []) (by decide +kernel) rfl ?_
                -- at 100: .invokevirtual 58
                refine ty_callv (pc := 100) (idx := 58) (m := 82) (n := 2) (c := 2) (vs := [_]) (r := []) (by decide +kernel) rfl rfl (Nat.le_of_ble_eq_true rfl) (by first | rfl | assumption) (by first | exact hS.1 _ _ rfl | assumption) hfree ?_
                rintro _ S4 ⟨rfl, rfl⟩
                refine ty_KV ?_
                have hS := y1.1
                refine ty_iload (pc := 103) (i := 5) (ks := []) (by decide +kernel) rfl ?_
                -- at 105: .ifCond .ne 8
                refine ty_if_ne (pc := 105) (off := 8) (t := 113) (ks := []) (by decide +kernel) (by omega) (fun hc => ?_) (fun hc => ?_)
                · omega
                · refine ty_aload_n (pc := 108) (i := 0) (ks := []) (by decide +kernel) rfl ?_
                  refine ty_iload_n (pc := 109) (i := 3) (ks := []) (by decide +kernel) rfl ?_
                  -- at 110: .invokevirtual 62
                  have hz1 := z1.1
                  have hz3 := z1.2.2.1
                  refine ty_callv (pc := 110) (idx := 62) (m := 90) (n := 2) (c := 9) (vs := [_]) (r := []) (by decide +kernel) rfl rfl (Nat.le_of_ble_eq_true rfl) (by first | rfl | assumption) (by first | exact hS.1 _ _ rfl | assumption) (ca_settle (d + 3) (by exact y1.1) (by omega) rfl (by omega)) ?_
                  rintro _ S5 ⟨rfl, e5⟩
                  have e5 : S5 = ca_s (ca_fr S3 B bc) i := e5
                  rw [e5]
                  refine ty_KV ?_
                  obtain ⟨p1, p2, p3, p4, p5, p6⟩ := ca_settled y1 z1 ⟨h0, by omega⟩ hwt
                  rw [show rs - 1 + 1 = rs by omega] at p2
                  have hS := p1.1
                  refine ty_iinc (pc := 113) (i := 3) (n := 1) (ks := []) (ls' := [_, _, _, _, _, _]) (by decide +kernel) rfl rfl ?_
                  refine ty_goto (pc := 116) (off := (-112)) (t := 4) (ks := []) (by decide +kernel) ?_
                  -- at 4: .iload_n 3
                  refine (ih _ rs (i + 1) (mo_uw aw i false) _ _ _ (by omega) (by omega) (by omega) p1 p2).mono ?_
                  rintro o S' ⟨g1, g2⟩
                  refine ⟨(y2.ca.trans p5).trans g1, ?_⟩
                  have hnc : (ca_s (ca_fr S3 B bc) i).2.2.2.2.2.2.2 = S.2.2.2.2.2.2.2 := p6.trans (b5.trans enc)
                  rcases g2 with ⟨k1, k2, k3, k4, k5, k6, k7⟩ | ⟨k1, k2, k3⟩
                  · exact .inl ⟨k1, k2, k3, k4, (y3.trans p3).trans k5, (z2.trans p4).trans k6, k7.trans hnc⟩
                  · exact .inr ⟨k1, k2, by rw [k3, hnc]⟩
              · omega
            · -- too many steps
              have b1 : rc = 2 := b1
              subst b1
              rw [if_pos rfl]
              refine ty_KX (by decide +kernel) ?_
              exact ⟨(q2.trans c1).ca, .inr ⟨rfl, rfl, by rw [b3, enc]⟩⟩
        · rw [if_neg hwt]
          unfold mo_hold
          rw [if_neg hwt]
          refine ty_if_eq (pc := 22) (off := 91) (t := 113) (ks := []) (by decide +kernel) (by omega) (fun hc => ?_) (fun hc => ?_)
          · refine ty_iinc (pc := 113) (i := 3) (n := 1) (ks := []) (ls' := [_, _, _, _, _, _]) (by decide +kernel) rfl rfl ?_
            refine ty_goto (pc := 116) (off := (-112)) (t := 4) (ks := []) (by decide +kernel) ?_
            -- at 4: .iload_n 3
            exact ih S st (i + 1) aw x4 x5 ps (by omega) (by omega) (by omega) hR hA
          · omega
theorem ca_hold (d : Nat) (hw : mo_wf G) (hmade : made ≤ 100000) {dn : List Int} {bd : Int → Int} {ch : Int → List Int} {wk : List Int} {fl : Bool} (hb : mo_bw G made bd) (hc : mo_cw made ns bd ch (dn ++ wk)) {an fr : Int} {al ar : Int → Int} (hok : ∀ i, 0 ≤ i → i < an → mo_ok G made (al i) ∧ mo_ok G made (ar i)) {st : Int} {aw : Int → Bool} {ps : List (Int × Int)} (h0 : 0 ≤ fr ∧ fr ≤ an) (hR : cp_R S B F E n G made ns sl st st (ps, bd, ch, wk, fl)) (hA : ca_R S an al ar aw st) :
    ty_C L xs (d + 5) 89 [.inr (.inr (some (39, 0))), .inl (ty_J fr)] S (ca_h S B F E n G made ns sl (bd, ch, wk, fl) an al ar (mo_hold G bd ch wk al ar (an - fr).toNat st fr aw)) := by
  refine ty_enter (ml := 6) (ls := [_, _, _, _, _, _]) rfl rfl (Nat.le_of_ble_eq_true rfl) ?_
  refine ty_iconst (pc := 0) (n := 1) (ks := []) (by decide +kernel) ?_
  refine ty_istore_n (pc := 1) (i := 2) (ks := []) (ls' := [_, _, _, _, _, _]) (by decide +kernel) rfl ?_
  refine ty_iload_n (pc := 2) (i := 1) (ks := []) (by decide +kernel) rfl ?_
  refine ty_istore_n (pc := 3) (i := 3) (ks := []) (ls' := [_, _, _, _, _, _]) (by decide +kernel) rfl ?_
  -- at 4: .iload_n 3
  exact ca_loop d hw hmade hb hc hok _ S st fr aw none none ps rfl h0.1 h0.2 hR hA
end CAL
end

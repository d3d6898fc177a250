section
-- ===== PART A: goes FIRST, ahead of the names: the tables' words, and 'selects' of the private methods out of them =====
/-- a private method of a class that the tables say can be made, by its rows of tables_1 -/
def lw_okq (q : MethodName × Nat) : Prop := (q.1.cls ≠ "java/lang/invoke/MethodHandle" ∧ q.1.cls ≠ "java/lang/invoke/VarHandle") ∧ Cond.instantiable q.1.cls q.2 ∈ tables_1 ∧ Cond.privateMethod q.1 ∈ tables_1 ∧ Cond.instanceMethod q.1 ∈ tables_1
theorem lw_p0 : lw_okq (⟨"ServiceGame", "teams", "()I"⟩, 10) := ⟨⟨by decide +kernel, by decide +kernel⟩, List.mem_of_getElem? (i := 21) (by decide +kernel), List.mem_of_getElem? (i := 171) (by decide +kernel), List.mem_of_getElem? (i := 172) (by decide +kernel)⟩
theorem lw_p1 : lw_okq (⟨"java/util/ArrayList", "add", "(Ljava/lang/Object;[Ljava/lang/Object;I)V"⟩, 3) := ⟨⟨by decide +kernel, by decide +kernel⟩, List.mem_of_getElem? (i := 29) (by decide +kernel), List.mem_of_getElem? (i := 249) (by decide +kernel), List.mem_of_getElem? (i := 250) (by decide +kernel)⟩
theorem lw_p2 : lw_okq (⟨"java/util/ArrayList", "grow", "()[Ljava/lang/Object;"⟩, 3) := ⟨⟨by decide +kernel, by decide +kernel⟩, List.mem_of_getElem? (i := 29) (by decide +kernel), List.mem_of_getElem? (i := 253) (by decide +kernel), List.mem_of_getElem? (i := 254) (by decide +kernel)⟩
theorem lw_p3 : lw_okq (⟨"java/util/ArrayList", "grow", "(I)[Ljava/lang/Object;"⟩, 3) := ⟨⟨by decide +kernel, by decide +kernel⟩, List.mem_of_getElem? (i := 29) (by decide +kernel), List.mem_of_getElem? (i := 257) (by decide +kernel), List.mem_of_getElem? (i := 258) (by decide +kernel)⟩
theorem lw_p4 : lw_okq (⟨"ServiceGame$Tape", "append", "(JI)V"⟩, 2) := ⟨⟨by decide +kernel, by decide +kernel⟩, List.mem_of_getElem? (i := 56) (by decide +kernel), List.mem_of_getElem? (i := 306) (by decide +kernel), List.mem_of_getElem? (i := 307) (by decide +kernel)⟩
theorem lw_p5 : lw_okq (⟨"ServiceGame", "find", "(II)LServiceGame$Service;"⟩, 10) := ⟨⟨by decide +kernel, by decide +kernel⟩, List.mem_of_getElem? (i := 21) (by decide +kernel), List.mem_of_getElem? (i := 315) (by decide +kernel), List.mem_of_getElem? (i := 316) (by decide +kernel)⟩
theorem lw_p6 : lw_okq (⟨"ServiceGame", "isTeam", "(I)Z"⟩, 10) := ⟨⟨by decide +kernel, by decide +kernel⟩, List.mem_of_getElem? (i := 21) (by decide +kernel), List.mem_of_getElem? (i := 319) (by decide +kernel), List.mem_of_getElem? (i := 320) (by decide +kernel)⟩
theorem lw_p7 : lw_okq (⟨"ServiceGame$Reader", "read", "(LServiceGame$Tape;)I"⟩, 4) := ⟨⟨by decide +kernel, by decide +kernel⟩, List.mem_of_getElem? (i := 71) (by decide +kernel), List.mem_of_getElem? (i := 337) (by decide +kernel), List.mem_of_getElem? (i := 338) (by decide +kernel)⟩
theorem lw_p8 : lw_okq (⟨"ServiceGame$Reader", "readStep", "(LServiceGame$Tape;)Z"⟩, 4) := ⟨⟨by decide +kernel, by decide +kernel⟩, List.mem_of_getElem? (i := 71) (by decide +kernel), List.mem_of_getElem? (i := 341) (by decide +kernel), List.mem_of_getElem? (i := 342) (by decide +kernel)⟩
theorem lw_p9 : lw_okq (⟨"ServiceGame$Tape", "at", "(I)I"⟩, 2) := ⟨⟨by decide +kernel, by decide +kernel⟩, List.mem_of_getElem? (i := 56) (by decide +kernel), List.mem_of_getElem? (i := 345) (by decide +kernel), List.mem_of_getElem? (i := 346) (by decide +kernel)⟩
theorem lw_p10 : lw_okq (⟨"ServiceGame$Reader", "readNumber", "(LServiceGame$Tape;I)Z"⟩, 4) := ⟨⟨by decide +kernel, by decide +kernel⟩, List.mem_of_getElem? (i := 71) (by decide +kernel), List.mem_of_getElem? (i := 349) (by decide +kernel), List.mem_of_getElem? (i := 350) (by decide +kernel)⟩
theorem lw_p11 : lw_okq (⟨"ServiceGame$Reader", "readCell", "(LServiceGame$Tape;)Z"⟩, 4) := ⟨⟨by decide +kernel, by decide +kernel⟩, List.mem_of_getElem? (i := 71) (by decide +kernel), List.mem_of_getElem? (i := 356) (by decide +kernel), List.mem_of_getElem? (i := 357) (by decide +kernel)⟩
theorem lw_p12 : lw_okq (⟨"ServiceGame$Reader", "lostStep", "()I"⟩, 4) := ⟨⟨by decide +kernel, by decide +kernel⟩, List.mem_of_getElem? (i := 71) (by decide +kernel), List.mem_of_getElem? (i := 360) (by decide +kernel), List.mem_of_getElem? (i := 361) (by decide +kernel)⟩
theorem lw_p13 : lw_okq (⟨"ServiceGame$Reader", "program", "()LServiceGame$Program;"⟩, 4) := ⟨⟨by decide +kernel, by decide +kernel⟩, List.mem_of_getElem? (i := 71) (by decide +kernel), List.mem_of_getElem? (i := 364) (by decide +kernel), List.mem_of_getElem? (i := 365) (by decide +kernel)⟩
theorem lw_p14 : lw_okq (⟨"ServiceGame$Mail", "keep", "(LServiceGame$Service;II)V"⟩, 4) := ⟨⟨by decide +kernel, by decide +kernel⟩, List.mem_of_getElem? (i := 116) (by decide +kernel), List.mem_of_getElem? (i := 416) (by decide +kernel), List.mem_of_getElem? (i := 417) (by decide +kernel)⟩
theorem lw_p15 : lw_okq (⟨"ServiceGame$Machine", "deliver", "(LServiceGame$Service;III)I"⟩, 6) := ⟨⟨by decide +kernel, by decide +kernel⟩, List.mem_of_getElem? (i := 90) (by decide +kernel), List.mem_of_getElem? (i := 420) (by decide +kernel), List.mem_of_getElem? (i := 421) (by decide +kernel)⟩
def lw_privs_1 : List (MethodName × Nat) := [(⟨"ServiceGame", "teams", "()I"⟩, 10), (⟨"java/util/ArrayList", "add", "(Ljava/lang/Object;[Ljava/lang/Object;I)V"⟩, 3), (⟨"java/util/ArrayList", "grow", "()[Ljava/lang/Object;"⟩, 3), (⟨"java/util/ArrayList", "grow", "(I)[Ljava/lang/Object;"⟩, 3), (⟨"ServiceGame$Tape", "append", "(JI)V"⟩, 2), (⟨"ServiceGame", "find", "(II)LServiceGame$Service;"⟩, 10), (⟨"ServiceGame", "isTeam", "(I)Z"⟩, 10), (⟨"ServiceGame$Reader", "read", "(LServiceGame$Tape;)I"⟩, 4), (⟨"ServiceGame$Reader", "readStep", "(LServiceGame$Tape;)Z"⟩, 4), (⟨"ServiceGame$Tape", "at", "(I)I"⟩, 2), (⟨"ServiceGame$Reader", "readNumber", "(LServiceGame$Tape;I)Z"⟩, 4), (⟨"ServiceGame$Reader", "readCell", "(LServiceGame$Tape;)Z"⟩, 4), (⟨"ServiceGame$Reader", "lostStep", "()I"⟩, 4), (⟨"ServiceGame$Reader", "program", "()LServiceGame$Program;"⟩, 4), (⟨"ServiceGame$Mail", "keep", "(LServiceGame$Service;II)V"⟩, 4), (⟨"ServiceGame$Machine", "deliver", "(LServiceGame$Service;III)I"⟩, 6)]
theorem lw_r1 : ∀ q ∈ lw_privs_1, lw_okq q := List.forall_mem_cons.mpr ⟨lw_p0, List.forall_mem_cons.mpr ⟨lw_p1, List.forall_mem_cons.mpr ⟨lw_p2, List.forall_mem_cons.mpr ⟨lw_p3, List.forall_mem_cons.mpr ⟨lw_p4, List.forall_mem_cons.mpr ⟨lw_p5, List.forall_mem_cons.mpr ⟨lw_p6, List.forall_mem_cons.mpr ⟨lw_p7, List.forall_mem_cons.mpr ⟨lw_p8, List.forall_mem_cons.mpr ⟨lw_p9, List.forall_mem_cons.mpr ⟨lw_p10, List.forall_mem_cons.mpr ⟨lw_p11, List.forall_mem_cons.mpr ⟨lw_p12, List.forall_mem_cons.mpr ⟨lw_p13, List.forall_mem_cons.mpr ⟨lw_p14, List.forall_mem_cons.mpr ⟨lw_p15, fun _ h => absurd h List.not_mem_nil⟩⟩⟩⟩⟩⟩⟩⟩⟩⟩⟩⟩⟩⟩⟩⟩
theorem lw_p16 : lw_okq (⟨"ServiceGame$Machine", "run", "(LServiceGame$Program;[II)I"⟩, 6) := ⟨⟨by decide +kernel, by decide +kernel⟩, List.mem_of_getElem? (i := 90) (by decide +kernel), List.mem_of_getElem? (i := 425) (by decide +kernel), List.mem_of_getElem? (i := 426) (by decide +kernel)⟩
theorem lw_p17 : lw_okq (⟨"ServiceGame$Machine", "pileSuits", "(I)Z"⟩, 6) := ⟨⟨by decide +kernel, by decide +kernel⟩, List.mem_of_getElem? (i := 90) (by decide +kernel), List.mem_of_getElem? (i := 430) (by decide +kernel), List.mem_of_getElem? (i := 431) (by decide +kernel)⟩
theorem lw_p18 : lw_okq (⟨"ServiceGame$Machine", "pull", "()I"⟩, 6) := ⟨⟨by decide +kernel, by decide +kernel⟩, List.mem_of_getElem? (i := 90) (by decide +kernel), List.mem_of_getElem? (i := 434) (by decide +kernel), List.mem_of_getElem? (i := 435) (by decide +kernel)⟩
theorem lw_p19 : lw_okq (⟨"ServiceGame$Machine", "act", "(II[I)V"⟩, 6) := ⟨⟨by decide +kernel, by decide +kernel⟩, List.mem_of_getElem? (i := 90) (by decide +kernel), List.mem_of_getElem? (i := 438) (by decide +kernel), List.mem_of_getElem? (i := 439) (by decide +kernel)⟩
theorem lw_p20 : lw_okq (⟨"ServiceGame$Machine", "push", "(I)V"⟩, 6) := ⟨⟨by decide +kernel, by decide +kernel⟩, List.mem_of_getElem? (i := 90) (by decide +kernel), List.mem_of_getElem? (i := 442) (by decide +kernel), List.mem_of_getElem? (i := 443) (by decide +kernel)⟩
theorem lw_p21 : lw_okq (⟨"ServiceGame$Machine", "joinTwo", "(I)V"⟩, 6) := ⟨⟨by decide +kernel, by decide +kernel⟩, List.mem_of_getElem? (i := 90) (by decide +kernel), List.mem_of_getElem? (i := 446) (by decide +kernel), List.mem_of_getElem? (i := 447) (by decide +kernel)⟩
theorem lw_p22 : lw_okq (⟨"ServiceGame$Service", "takePatch", "()V"⟩, 14) := ⟨⟨by decide +kernel, by decide +kernel⟩, List.mem_of_getElem? (i := 179) (by decide +kernel), List.mem_of_getElem? (i := 461) (by decide +kernel), List.mem_of_getElem? (i := 462) (by decide +kernel)⟩
theorem lw_p23 : lw_okq (⟨"ServiceGame", "writeChecks", "(LServiceGame$Service;)Z"⟩, 10) := ⟨⟨by decide +kernel, by decide +kernel⟩, List.mem_of_getElem? (i := 21) (by decide +kernel), List.mem_of_getElem? (i := 465) (by decide +kernel), List.mem_of_getElem? (i := 466) (by decide +kernel)⟩
theorem lw_p24 : lw_okq (⟨"ServiceGame", "mix", "(ILServiceGame$Service;)I"⟩, 10) := ⟨⟨by decide +kernel, by decide +kernel⟩, List.mem_of_getElem? (i := 21) (by decide +kernel), List.mem_of_getElem? (i := 469) (by decide +kernel), List.mem_of_getElem? (i := 470) (by decide +kernel)⟩
theorem lw_p25 : lw_okq (⟨"ServiceGame", "dueAnswer", "(ILServiceGame$Service;IZ)I"⟩, 10) := ⟨⟨by decide +kernel, by decide +kernel⟩, List.mem_of_getElem? (i := 21) (by decide +kernel), List.mem_of_getElem? (i := 481) (by decide +kernel), List.mem_of_getElem? (i := 482) (by decide +kernel)⟩
theorem lw_p26 : lw_okq (⟨"ServiceGame$Service", "keepCheck", "(IIIIZ)V"⟩, 14) := ⟨⟨by decide +kernel, by decide +kernel⟩, List.mem_of_getElem? (i := 179) (by decide +kernel), List.mem_of_getElem? (i := 485) (by decide +kernel), List.mem_of_getElem? (i := 486) (by decide +kernel)⟩
theorem lw_p27 : lw_okq (⟨"ServiceGame$Mail", "countLikeChecks", "(Ljava/util/ArrayList;)V"⟩, 4) := ⟨⟨by decide +kernel, by decide +kernel⟩, List.mem_of_getElem? (i := 116) (by decide +kernel), List.mem_of_getElem? (i := 489) (by decide +kernel), List.mem_of_getElem? (i := 490) (by decide +kernel)⟩
theorem lw_p28 : lw_okq (⟨"ServiceGame$Service", "isLikeCheck", "(II)Z"⟩, 14) := ⟨⟨by decide +kernel, by decide +kernel⟩, List.mem_of_getElem? (i := 179) (by decide +kernel), List.mem_of_getElem? (i := 496) (by decide +kernel), List.mem_of_getElem? (i := 497) (by decide +kernel)⟩
theorem lw_p29 : lw_okq (⟨"ServiceGame", "wasRound", "(I)Z"⟩, 10) := ⟨⟨by decide +kernel, by decide +kernel⟩, List.mem_of_getElem? (i := 21) (by decide +kernel), List.mem_of_getElem? (i := 504) (by decide +kernel), List.mem_of_getElem? (i := 505) (by decide +kernel)⟩
theorem lw_p30 : lw_okq (⟨"ServiceGame", "roundThatCounts", "(ILServiceGame$Service;I)I"⟩, 10) := ⟨⟨by decide +kernel, by decide +kernel⟩, List.mem_of_getElem? (i := 21) (by decide +kernel), List.mem_of_getElem? (i := 520) (by decide +kernel), List.mem_of_getElem? (i := 521) (by decide +kernel)⟩
theorem lw_p31 : lw_okq (⟨"ServiceGame$Service", "isTaken", "(III)Z"⟩, 14) := ⟨⟨by decide +kernel, by decide +kernel⟩, List.mem_of_getElem? (i := 179) (by decide +kernel), List.mem_of_getElem? (i := 525) (by decide +kernel), List.mem_of_getElem? (i := 526) (by decide +kernel)⟩
def lw_privs_2 : List (MethodName × Nat) := [(⟨"ServiceGame$Machine", "run", "(LServiceGame$Program;[II)I"⟩, 6), (⟨"ServiceGame$Machine", "pileSuits", "(I)Z"⟩, 6), (⟨"ServiceGame$Machine", "pull", "()I"⟩, 6), (⟨"ServiceGame$Machine", "act", "(II[I)V"⟩, 6), (⟨"ServiceGame$Machine", "push", "(I)V"⟩, 6), (⟨"ServiceGame$Machine", "joinTwo", "(I)V"⟩, 6), (⟨"ServiceGame$Service", "takePatch", "()V"⟩, 14), (⟨"ServiceGame", "writeChecks", "(LServiceGame$Service;)Z"⟩, 10), (⟨"ServiceGame", "mix", "(ILServiceGame$Service;)I"⟩, 10), (⟨"ServiceGame", "dueAnswer", "(ILServiceGame$Service;IZ)I"⟩, 10), (⟨"ServiceGame$Service", "keepCheck", "(IIIIZ)V"⟩, 14), (⟨"ServiceGame$Mail", "countLikeChecks", "(Ljava/util/ArrayList;)V"⟩, 4), (⟨"ServiceGame$Service", "isLikeCheck", "(II)Z"⟩, 14), (⟨"ServiceGame", "wasRound", "(I)Z"⟩, 10), (⟨"ServiceGame", "roundThatCounts", "(ILServiceGame$Service;I)I"⟩, 10), (⟨"ServiceGame$Service", "isTaken", "(III)Z"⟩, 14)]
theorem lw_r2 : ∀ q ∈ lw_privs_2, lw_okq q := List.forall_mem_cons.mpr ⟨lw_p16, List.forall_mem_cons.mpr ⟨lw_p17, List.forall_mem_cons.mpr ⟨lw_p18, List.forall_mem_cons.mpr ⟨lw_p19, List.forall_mem_cons.mpr ⟨lw_p20, List.forall_mem_cons.mpr ⟨lw_p21, List.forall_mem_cons.mpr ⟨lw_p22, List.forall_mem_cons.mpr ⟨lw_p23, List.forall_mem_cons.mpr ⟨lw_p24, List.forall_mem_cons.mpr ⟨lw_p25, List.forall_mem_cons.mpr ⟨lw_p26, List.forall_mem_cons.mpr ⟨lw_p27, List.forall_mem_cons.mpr ⟨lw_p28, List.forall_mem_cons.mpr ⟨lw_p29, List.forall_mem_cons.mpr ⟨lw_p30, List.forall_mem_cons.mpr ⟨lw_p31, fun _ h => absurd h List.not_mem_nil⟩⟩⟩⟩⟩⟩⟩⟩⟩⟩⟩⟩⟩⟩⟩⟩
theorem lw_p32 : lw_okq (⟨"ServiceGame$Service", "take", "(III)V"⟩, 14) := ⟨⟨by decide +kernel, by decide +kernel⟩, List.mem_of_getElem? (i := 179) (by decide +kernel), List.mem_of_getElem? (i := 529) (by decide +kernel), List.mem_of_getElem? (i := 530) (by decide +kernel)⟩
theorem lw_p33 : lw_okq (⟨"ServiceGame", "pointsAhead", "(II)I"⟩, 10) := ⟨⟨by decide +kernel, by decide +kernel⟩, List.mem_of_getElem? (i := 21) (by decide +kernel), List.mem_of_getElem? (i := 557) (by decide +kernel), List.mem_of_getElem? (i := 558) (by decide +kernel)⟩
theorem lw_p34 : lw_okq (⟨"ServiceGame", "upPoints", "(II)I"⟩, 10) := ⟨⟨by decide +kernel, by decide +kernel⟩, List.mem_of_getElem? (i := 21) (by decide +kernel), List.mem_of_getElem? (i := 561) (by decide +kernel), List.mem_of_getElem? (i := 562) (by decide +kernel)⟩
theorem lw_p35 : lw_okq (⟨"ServiceGame", "stolenPoints", "(II)I"⟩, 10) := ⟨⟨by decide +kernel, by decide +kernel⟩, List.mem_of_getElem? (i := 21) (by decide +kernel), List.mem_of_getElem? (i := 566) (by decide +kernel), List.mem_of_getElem? (i := 567) (by decide +kernel)⟩
theorem lw_p36 : lw_okq (⟨"ServiceGame$Service", "takers", "(II)I"⟩, 14) := ⟨⟨by decide +kernel, by decide +kernel⟩, List.mem_of_getElem? (i := 179) (by decide +kernel), List.mem_of_getElem? (i := 570) (by decide +kernel), List.mem_of_getElem? (i := 571) (by decide +kernel)⟩
theorem lw_p37 : lw_okq (⟨"ServiceGame", "takenOff", "(II)I"⟩, 10) := ⟨⟨by decide +kernel, by decide +kernel⟩, List.mem_of_getElem? (i := 21) (by decide +kernel), List.mem_of_getElem? (i := 578) (by decide +kernel), List.mem_of_getElem? (i := 579) (by decide +kernel)⟩
theorem lw_p38 : lw_okq (⟨"ServiceGame", "handInsBy", "(I)I"⟩, 10) := ⟨⟨by decide +kernel, by decide +kernel⟩, List.mem_of_getElem? (i := 21) (by decide +kernel), List.mem_of_getElem? (i := 582) (by decide +kernel), List.mem_of_getElem? (i := 583) (by decide +kernel)⟩
theorem lw_p39 : lw_okq (⟨"ServiceGame", "placeOnBoard", "(II)I"⟩, 10) := ⟨⟨by decide +kernel, by decide +kernel⟩, List.mem_of_getElem? (i := 21) (by decide +kernel), List.mem_of_getElem? (i := 590) (by decide +kernel), List.mem_of_getElem? (i := 591) (by decide +kernel)⟩
theorem lw_p40 : lw_okq (⟨"ServiceGame", "gainFromFlag", "(LServiceGame$Service;I)I"⟩, 10) := ⟨⟨by decide +kernel, by decide +kernel⟩, List.mem_of_getElem? (i := 21) (by decide +kernel), List.mem_of_getElem? (i := 605) (by decide +kernel), List.mem_of_getElem? (i := 606) (by decide +kernel)⟩
theorem lw_p41 : lw_okq (⟨"ServiceGameModel", "isPlace", "(II)Z"⟩, 43) := ⟨⟨by decide +kernel, by decide +kernel⟩, List.mem_of_getElem? (i := 617) (by decide +kernel), List.mem_of_getElem? (i := 771) (by decide +kernel), List.mem_of_getElem? (i := 772) (by decide +kernel)⟩
theorem lw_p42 : lw_okq (⟨"ServiceGameModel", "isTeam", "(I)Z"⟩, 43) := ⟨⟨by decide +kernel, by decide +kernel⟩, List.mem_of_getElem? (i := 617) (by decide +kernel), List.mem_of_getElem? (i := 775) (by decide +kernel), List.mem_of_getElem? (i := 776) (by decide +kernel)⟩
theorem lw_p43 : lw_okq (⟨"ServiceGameModel", "fault", "()I"⟩, 43) := ⟨⟨by decide +kernel, by decide +kernel⟩, List.mem_of_getElem? (i := 617) (by decide +kernel), List.mem_of_getElem? (i := 780) (by decide +kernel), List.mem_of_getElem? (i := 781) (by decide +kernel)⟩
theorem lw_p44 : lw_okq (⟨"ServiceGameModel", "readsStep", "()Z"⟩, 43) := ⟨⟨by decide +kernel, by decide +kernel⟩, List.mem_of_getElem? (i := 617) (by decide +kernel), List.mem_of_getElem? (i := 784) (by decide +kernel), List.mem_of_getElem? (i := 785) (by decide +kernel)⟩
theorem lw_p45 : lw_okq (⟨"ServiceGameModel", "sign", "()I"⟩, 43) := ⟨⟨by decide +kernel, by decide +kernel⟩, List.mem_of_getElem? (i := 617) (by decide +kernel), List.mem_of_getElem? (i := 788) (by decide +kernel), List.mem_of_getElem? (i := 789) (by decide +kernel)⟩
theorem lw_p46 : lw_okq (⟨"ServiceGameModel", "isDigit", "()Z"⟩, 43) := ⟨⟨by decide +kernel, by decide +kernel⟩, List.mem_of_getElem? (i := 617) (by decide +kernel), List.mem_of_getElem? (i := 792) (by decide +kernel), List.mem_of_getElem? (i := 793) (by decide +kernel)⟩
theorem lw_p47 : lw_okq (⟨"ServiceGameModel", "digits", "(I)I"⟩, 43) := ⟨⟨by decide +kernel, by decide +kernel⟩, List.mem_of_getElem? (i := 617) (by decide +kernel), List.mem_of_getElem? (i := 796) (by decide +kernel), List.mem_of_getElem? (i := 797) (by decide +kernel)⟩
def lw_privs_3 : List (MethodName × Nat) := [(⟨"ServiceGame$Service", "take", "(III)V"⟩, 14), (⟨"ServiceGame", "pointsAhead", "(II)I"⟩, 10), (⟨"ServiceGame", "upPoints", "(II)I"⟩, 10), (⟨"ServiceGame", "stolenPoints", "(II)I"⟩, 10), (⟨"ServiceGame$Service", "takers", "(II)I"⟩, 14), (⟨"ServiceGame", "takenOff", "(II)I"⟩, 10), (⟨"ServiceGame", "handInsBy", "(I)I"⟩, 10), (⟨"ServiceGame", "placeOnBoard", "(II)I"⟩, 10), (⟨"ServiceGame", "gainFromFlag", "(LServiceGame$Service;I)I"⟩, 10), (⟨"ServiceGameModel", "isPlace", "(II)Z"⟩, 43), (⟨"ServiceGameModel", "isTeam", "(I)Z"⟩, 43), (⟨"ServiceGameModel", "fault", "()I"⟩, 43), (⟨"ServiceGameModel", "readsStep", "()Z"⟩, 43), (⟨"ServiceGameModel", "sign", "()I"⟩, 43), (⟨"ServiceGameModel", "isDigit", "()Z"⟩, 43), (⟨"ServiceGameModel", "digits", "(I)I"⟩, 43)]
theorem lw_r3 : ∀ q ∈ lw_privs_3, lw_okq q := List.forall_mem_cons.mpr ⟨lw_p32, List.forall_mem_cons.mpr ⟨lw_p33, List.forall_mem_cons.mpr ⟨lw_p34, List.forall_mem_cons.mpr ⟨lw_p35, List.forall_mem_cons.mpr ⟨lw_p36, List.forall_mem_cons.mpr ⟨lw_p37, List.forall_mem_cons.mpr ⟨lw_p38, List.forall_mem_cons.mpr ⟨lw_p39, List.forall_mem_cons.mpr ⟨lw_p40, List.forall_mem_cons.mpr ⟨lw_p41, List.forall_mem_cons.mpr ⟨lw_p42, List.forall_mem_cons.mpr ⟨lw_p43, List.forall_mem_cons.mpr ⟨lw_p44, List.forall_mem_cons.mpr ⟨lw_p45, List.forall_mem_cons.mpr ⟨lw_p46, List.forall_mem_cons.mpr ⟨lw_p47, fun _ h => absurd h List.not_mem_nil⟩⟩⟩⟩⟩⟩⟩⟩⟩⟩⟩⟩⟩⟩⟩⟩
theorem lw_p48 : lw_okq (⟨"ServiceGameModel", "runs", "(III)I"⟩, 43) := ⟨⟨by decide +kernel, by decide +kernel⟩, List.mem_of_getElem? (i := 617) (by decide +kernel), List.mem_of_getElem? (i := 830) (by decide +kernel), List.mem_of_getElem? (i := 831) (by decide +kernel)⟩
theorem lw_p49 : lw_okq (⟨"ServiceGameModel", "does", "(IIIII)V"⟩, 43) := ⟨⟨by decide +kernel, by decide +kernel⟩, List.mem_of_getElem? (i := 617) (by decide +kernel), List.mem_of_getElem? (i := 841) (by decide +kernel), List.mem_of_getElem? (i := 842) (by decide +kernel)⟩
theorem lw_p50 : lw_okq (⟨"ServiceGameModel", "pushes", "(I)V"⟩, 43) := ⟨⟨by decide +kernel, by decide +kernel⟩, List.mem_of_getElem? (i := 617) (by decide +kernel), List.mem_of_getElem? (i := 845) (by decide +kernel), List.mem_of_getElem? (i := 846) (by decide +kernel)⟩
theorem lw_p51 : lw_okq (⟨"ServiceGameModel", "checks", "(II)Z"⟩, 43) := ⟨⟨by decide +kernel, by decide +kernel⟩, List.mem_of_getElem? (i := 617) (by decide +kernel), List.mem_of_getElem? (i := 857) (by decide +kernel), List.mem_of_getElem? (i := 858) (by decide +kernel)⟩
theorem lw_p52 : lw_okq (⟨"ServiceGameModel", "mix", "(II)I"⟩, 43) := ⟨⟨by decide +kernel, by decide +kernel⟩, List.mem_of_getElem? (i := 617) (by decide +kernel), List.mem_of_getElem? (i := 861) (by decide +kernel), List.mem_of_getElem? (i := 862) (by decide +kernel)⟩
theorem lw_p53 : lw_okq (⟨"ServiceGameModel", "flagOf", "(II)I"⟩, 43) := ⟨⟨by decide +kernel, by decide +kernel⟩, List.mem_of_getElem? (i := 617) (by decide +kernel), List.mem_of_getElem? (i := 865) (by decide +kernel), List.mem_of_getElem? (i := 866) (by decide +kernel)⟩
theorem lw_p54 : lw_okq (⟨"ServiceGameModel", "handed", "(III)I"⟩, 43) := ⟨⟨by decide +kernel, by decide +kernel⟩, List.mem_of_getElem? (i := 617) (by decide +kernel), List.mem_of_getElem? (i := 885) (by decide +kernel), List.mem_of_getElem? (i := 886) (by decide +kernel)⟩
theorem lw_p55 : lw_okq (⟨"ServiceGameModel", "findPoints", "(I)V"⟩, 43) := ⟨⟨by decide +kernel, by decide +kernel⟩, List.mem_of_getElem? (i := 617) (by decide +kernel), List.mem_of_getElem? (i := 894) (by decide +kernel), List.mem_of_getElem? (i := 895) (by decide +kernel)⟩
theorem lw_p56 : lw_okq (⟨"ServiceGameModel", "stolen", "(III)V"⟩, 43) := ⟨⟨by decide +kernel, by decide +kernel⟩, List.mem_of_getElem? (i := 617) (by decide +kernel), List.mem_of_getElem? (i := 898) (by decide +kernel), List.mem_of_getElem? (i := 899) (by decide +kernel)⟩
theorem lw_p57 : lw_okq (⟨"ServiceGameModel", "isHanded", "(IIII)Z"⟩, 43) := ⟨⟨by decide +kernel, by decide +kernel⟩, List.mem_of_getElem? (i := 617) (by decide +kernel), List.mem_of_getElem? (i := 902) (by decide +kernel), List.mem_of_getElem? (i := 903) (by decide +kernel)⟩
theorem lw_p58 : lw_okq (⟨"ServiceGameModel", "sum", "(I)I"⟩, 43) := ⟨⟨by decide +kernel, by decide +kernel⟩, List.mem_of_getElem? (i := 617) (by decide +kernel), List.mem_of_getElem? (i := 906) (by decide +kernel), List.mem_of_getElem? (i := 907) (by decide +kernel)⟩
theorem lw_p59 : lw_okq (⟨"ServiceGameModel", "sumOf", "(I)I"⟩, 43) := ⟨⟨by decide +kernel, by decide +kernel⟩, List.mem_of_getElem? (i := 617) (by decide +kernel), List.mem_of_getElem? (i := 919) (by decide +kernel), List.mem_of_getElem? (i := 920) (by decide +kernel)⟩
theorem lw_p60 : lw_okq (⟨"ServiceGameModel", "helps", "(IIIZ)V"⟩, 43) := ⟨⟨by decide +kernel, by decide +kernel⟩, List.mem_of_getElem? (i := 617) (by decide +kernel), List.mem_of_getElem? (i := 923) (by decide +kernel), List.mem_of_getElem? (i := 924) (by decide +kernel)⟩
def lw_privs_4 : List (MethodName × Nat) := [(⟨"ServiceGameModel", "runs", "(III)I"⟩, 43), (⟨"ServiceGameModel", "does", "(IIIII)V"⟩, 43), (⟨"ServiceGameModel", "pushes", "(I)V"⟩, 43), (⟨"ServiceGameModel", "checks", "(II)Z"⟩, 43), (⟨"ServiceGameModel", "mix", "(II)I"⟩, 43), (⟨"ServiceGameModel", "flagOf", "(II)I"⟩, 43), (⟨"ServiceGameModel", "handed", "(III)I"⟩, 43), (⟨"ServiceGameModel", "findPoints", "(I)V"⟩, 43), (⟨"ServiceGameModel", "stolen", "(III)V"⟩, 43), (⟨"ServiceGameModel", "isHanded", "(IIII)Z"⟩, 43), (⟨"ServiceGameModel", "sum", "(I)I"⟩, 43), (⟨"ServiceGameModel", "sumOf", "(I)I"⟩, 43), (⟨"ServiceGameModel", "helps", "(IIIZ)V"⟩, 43)]
theorem lw_r4 : ∀ q ∈ lw_privs_4, lw_okq q := List.forall_mem_cons.mpr ⟨lw_p48, List.forall_mem_cons.mpr ⟨lw_p49, List.forall_mem_cons.mpr ⟨lw_p50, List.forall_mem_cons.mpr ⟨lw_p51, List.forall_mem_cons.mpr ⟨lw_p52, List.forall_mem_cons.mpr ⟨lw_p53, List.forall_mem_cons.mpr ⟨lw_p54, List.forall_mem_cons.mpr ⟨lw_p55, List.forall_mem_cons.mpr ⟨lw_p56, List.forall_mem_cons.mpr ⟨lw_p57, List.forall_mem_cons.mpr ⟨lw_p58, List.forall_mem_cons.mpr ⟨lw_p59, List.forall_mem_cons.mpr ⟨lw_p60, fun _ h => absurd h List.not_mem_nil⟩⟩⟩⟩⟩⟩⟩⟩⟩⟩⟩⟩⟩
def lw_privs : List (MethodName × Nat) := lw_privs_1 ++ (lw_privs_2 ++ (lw_privs_3 ++ (lw_privs_4)))
def lw_tbl : List Cond := k2_sels lw_privs ++ tables_1
theorem lw_privs_ok : ∀ q ∈ lw_privs, lw_okq q := by
  show ∀ q ∈ lw_privs_1 ++ (lw_privs_2 ++ (lw_privs_3 ++ (lw_privs_4))), lw_okq q
  exact List.forall_mem_append.mpr ⟨lw_r1, List.forall_mem_append.mpr ⟨lw_r2, List.forall_mem_append.mpr ⟨lw_r3, lw_r4⟩⟩⟩
end
section
/-! ===== BEGIN words of one list among another's, by their places ===== -/
theorem goodIn_r {big : List Cond} (ws : List Cond) (ps : List Nat) (hp : ws = ps.filterMap (fun i => big[i]?)) (h : ws.all goodWord = true) : GoodIn big ws := by
  intro w hw
  have h1 := List.all_eq_true.mp h w hw
  rw [hp] at hw
  obtain ⟨i, -, hi⟩ := List.mem_filterMap.mp hw
  have hm : w ∈ big := by first | exact List.mem_of_getElem? hi | exact List.getElem?_mem hi
  exact ⟨hm, good_of_word h1⟩
theorem goodIn_app {big a b : List Cond} (ha : GoodIn big a) (hb : GoodIn big b) : GoodIn big (a ++ b) := fun w h => (List.mem_append.mp h).elim (ha w) (hb w)
theorem goodIn_ca {big a b : List Cond} {c : Cond} (ha : GoodIn big (c :: a)) (hb : GoodIn big b) : GoodIn big (c :: (a ++ b)) := fun w h => (List.mem_cons.mp h).elim (fun e => ha w (List.mem_cons.mpr (Or.inl e))) (fun h => (List.mem_append.mp h).elim (fun h => ha w (List.mem_cons.mpr (Or.inr h))) (hb w))
theorem goodIn_sub {big ws : List Cond} (hm : ∀ w ∈ ws, w ∈ big) (h : ws.all goodWord = true) : GoodIn big ws := fun w hw => ⟨hm w hw, good_of_word (List.all_eq_true.mp h w hw)⟩
/-! ===== END ===== -/

/-! ===== BEGIN printed: names, fields, word lists, decode rows ===== -/
def RX0 : String := "ServiceGame$HandIn"
def TX0 : u_T := fun k => match k with
  | 0 => ("ServiceGame$HandIn", "by", "I", true)
  | 1 => ("ServiceGame$HandIn", "service", "LServiceGame$Service;", true)
  | _ => ("ServiceGame$HandIn", "put", "I", true)
def tyX0 : Nat → FieldType := fun k => match k with
  | 0 => .int
  | 1 => .object "ServiceGame$Service"
  | _ => .int
abbrev wsX00 : List Cond := u_ws RX0 TX0 3
theorem nmX0 : ∀ a, a < 3 → ∀ b, b < 3 → a ≠ b → (TX0 a).2.1 ≠ (TX0 b).2.1 := by decide +kernel
theorem tyX0_ok : ∀ k, k < 3 → parseFieldDescriptor (TX0 k).2.2.1 = some (tyX0 k) := by decide +kernel
abbrev cX0_init : ByteArray := prog_2_method_1_code
def yX0_init : MethodName := ⟨RX0, "<init>", "(ILServiceGame$Service;I)V"⟩
def RX1 : String := "ServiceGame$Machine"
def TX1 : u_T := fun k => match k with
  | 0 => ("ServiceGame$Machine", "pile", "[I", true)
  | 1 => ("ServiceGame$Machine", "cellsAhead", "[I", true)
  | 2 => ("ServiceGame$Machine", "height", "I", false)
  | 3 => ("ServiceGame$Machine", "first", "I", false)
  | 4 => ("ServiceGame$Machine", "second", "I", false)
  | _ => ("ServiceGame$Machine", "fuelUsed", "I", false)
def tyX1 : Nat → FieldType := fun k => match k with
  | 0 => .array .int
  | 1 => .array .int
  | 2 => .int
  | 3 => .int
  | 4 => .int
  | _ => .int
abbrev wsX10 : List Cond := u_ws RX1 TX1 6
theorem nmX1 : ∀ a, a < 6 → ∀ b, b < 6 → a ≠ b → (TX1 a).2.1 ≠ (TX1 b).2.1 := by decide +kernel
theorem tyX1_ok : ∀ k, k < 6 → parseFieldDescriptor (TX1 k).2.2.1 = some (tyX1 k) := by decide +kernel
abbrev cX1_init : ByteArray := prog_3_method_1_code
def yX1_init : MethodName := ⟨RX1, "<init>", "()V"⟩
abbrev cX1_deliver : ByteArray := prog_3_method_2_code
def yX1_deliver : MethodName := ⟨RX1, "deliver", "(LServiceGame$Service;III)I"⟩
abbrev cX1_run : ByteArray := prog_3_method_3_code
def yX1_run : MethodName := ⟨RX1, "run", "(LServiceGame$Program;[II)I"⟩
abbrev cX1_pileSuits : ByteArray := prog_3_method_4_code
def yX1_pileSuits : MethodName := ⟨RX1, "pileSuits", "(I)Z"⟩
abbrev cX1_act : ByteArray := prog_3_method_5_code
def yX1_act : MethodName := ⟨RX1, "act", "(II[I)V"⟩
abbrev cX1_joinTwo : ByteArray := prog_3_method_6_code
def yX1_joinTwo : MethodName := ⟨RX1, "joinTwo", "(I)V"⟩
abbrev cX1_joined : ByteArray := prog_3_method_7_code
def yX1_joined : MethodName := ⟨RX1, "joined", "(III)I"⟩
abbrev cX1_push : ByteArray := prog_3_method_8_code
def yX1_push : MethodName := ⟨RX1, "push", "(I)V"⟩
abbrev cX1_pull : ByteArray := prog_3_method_9_code
def yX1_pull : MethodName := ⟨RX1, "pull", "()I"⟩
def RX2 : String := "ServiceGame$Mail"
def TX2 : u_T := fun k => match k with
  | 0 => ("ServiceGame$Mail", "places", "[I", true)
  | 1 => ("ServiceGame$Mail", "firsts", "[I", true)
  | 2 => ("ServiceGame$Mail", "seconds", "[I", true)
  | _ => ("ServiceGame$Mail", "size", "I", false)
def tyX2 : Nat → FieldType := fun k => match k with
  | 0 => .array .int
  | 1 => .array .int
  | 2 => .array .int
  | _ => .int
abbrev wsX20 : List Cond := u_ws RX2 TX2 4
theorem nmX2 : ∀ a, a < 4 → ∀ b, b < 4 → a ≠ b → (TX2 a).2.1 ≠ (TX2 b).2.1 := by decide +kernel
theorem tyX2_ok : ∀ k, k < 4 → parseFieldDescriptor (TX2 k).2.2.1 = some (tyX2 k) := by decide +kernel
abbrev cX2_init : ByteArray := prog_4_method_1_code
def yX2_init : MethodName := ⟨RX2, "<init>", "()V"⟩
abbrev cX2_keep : ByteArray := prog_4_method_2_code
def yX2_keep : MethodName := ⟨RX2, "keep", "(LServiceGame$Service;II)V"⟩
abbrev cX2_countLikeChecks : ByteArray := prog_4_method_3_code
def yX2_countLikeChecks : MethodName := ⟨RX2, "countLikeChecks", "(Ljava/util/ArrayList;)V"⟩
def RX3 : String := "ServiceGame$Program"
def TX3 : u_T := fun k => match k with
  | 0 => ("ServiceGame$Program", "size", "I", true)
  | 1 => ("ServiceGame$Program", "signs", "[I", true)
  | _ => ("ServiceGame$Program", "numbers", "[I", true)
def tyX3 : Nat → FieldType := fun k => match k with
  | 0 => .int
  | 1 => .array .int
  | _ => .array .int
abbrev wsX30 : List Cond := u_ws RX3 TX3 3
theorem nmX3 : ∀ a, a < 3 → ∀ b, b < 3 → a ≠ b → (TX3 a).2.1 ≠ (TX3 b).2.1 := by decide +kernel
theorem tyX3_ok : ∀ k, k < 3 → parseFieldDescriptor (TX3 k).2.2.1 = some (tyX3 k) := by decide +kernel
abbrev cX3_init : ByteArray := prog_5_method_1_code
def yX3_init : MethodName := ⟨RX3, "<init>", "([I[II)V"⟩
def RX4 : String := "ServiceGame$Reader"
def TX4 : u_T := fun k => match k with
  | 0 => ("ServiceGame$Reader", "signs", "[I", true)
  | 1 => ("ServiceGame$Reader", "numbers", "[I", true)
  | 2 => ("ServiceGame$Reader", "size", "I", false)
  | _ => ("ServiceGame$Reader", "place", "I", false)
def tyX4 : Nat → FieldType := fun k => match k with
  | 0 => .array .int
  | 1 => .array .int
  | 2 => .int
  | _ => .int
abbrev wsX40 : List Cond := u_ws RX4 TX4 4
theorem nmX4 : ∀ a, a < 4 → ∀ b, b < 4 → a ≠ b → (TX4 a).2.1 ≠ (TX4 b).2.1 := by decide +kernel
theorem tyX4_ok : ∀ k, k < 4 → parseFieldDescriptor (TX4 k).2.2.1 = some (tyX4 k) := by decide +kernel
abbrev cX4_init : ByteArray := prog_6_method_1_code
def yX4_init : MethodName := ⟨RX4, "<init>", "()V"⟩
abbrev cX4_read : ByteArray := prog_6_method_2_code
def yX4_read : MethodName := ⟨RX4, "read", "(LServiceGame$Tape;)I"⟩
abbrev cX4_readStep : ByteArray := prog_6_method_3_code
def yX4_readStep : MethodName := ⟨RX4, "readStep", "(LServiceGame$Tape;)Z"⟩
abbrev cX4_readNumber : ByteArray := prog_6_method_4_code
def yX4_readNumber : MethodName := ⟨RX4, "readNumber", "(LServiceGame$Tape;I)Z"⟩
abbrev cX4_readCell : ByteArray := prog_6_method_5_code
def yX4_readCell : MethodName := ⟨RX4, "readCell", "(LServiceGame$Tape;)Z"⟩
abbrev cX4_isDigit : ByteArray := prog_6_method_6_code
def yX4_isDigit : MethodName := ⟨RX4, "isDigit", "(I)Z"⟩
abbrev cX4_lostStep : ByteArray := prog_6_method_7_code
def yX4_lostStep : MethodName := ⟨RX4, "lostStep", "()I"⟩
abbrev cX4_program : ByteArray := prog_6_method_8_code
def yX4_program : MethodName := ⟨RX4, "program", "()LServiceGame$Program;"⟩
def RX5 : String := "ServiceGame$Service"
def TX5 : u_T := fun k => match k with
  | 0 => ("ServiceGame$Service", "team", "I", true)
  | 1 => ("ServiceGame$Service", "number", "I", true)
  | 2 => ("ServiceGame$Service", "cells", "[I", true)
  | 3 => ("ServiceGame$Service", "upAhead", "[I", true)
  | 4 => ("ServiceGame$Service", "takenAfter", "[I", true)
  | 5 => ("ServiceGame$Service", "checkKinds", "[I", true)
  | 6 => ("ServiceGame$Service", "checkNumbers", "[I", true)
  | 7 => ("ServiceGame$Service", "checkAnswers", "[I", true)
  | 8 => ("ServiceGame$Service", "checkRights", "[I", true)
  | 9 => ("ServiceGame$Service", "program", "LServiceGame$Program;", false)
  | 10 => ("ServiceGame$Service", "patch", "LServiceGame$Program;", false)
  | 11 => ("ServiceGame$Service", "broken", "I", false)
  | 12 => ("ServiceGame$Service", "ranDry", "I", false)
  | _ => ("ServiceGame$Service", "likeChecks", "I", false)
def tyX5 : Nat → FieldType := fun k => match k with
  | 0 => .int
  | 1 => .int
  | 2 => .array .int
  | 3 => .array .int
  | 4 => .array .int
  | 5 => .array .int
  | 6 => .array .int
  | 7 => .array .int
  | 8 => .array .int
  | 9 => .object "ServiceGame$Program"
  | 10 => .object "ServiceGame$Program"
  | 11 => .int
  | 12 => .int
  | _ => .int
abbrev wsX50 : List Cond := u_ws RX5 TX5 14
theorem nmX5 : ∀ a, a < 14 → ∀ b, b < 14 → a ≠ b → (TX5 a).2.1 ≠ (TX5 b).2.1 := by decide +kernel
theorem tyX5_ok : ∀ k, k < 14 → parseFieldDescriptor (TX5 k).2.2.1 = some (tyX5 k) := by decide +kernel
abbrev cX5_init : ByteArray := prog_7_method_1_code
def yX5_init : MethodName := ⟨RX5, "<init>", "(II)V"⟩
abbrev cX5_takePatch : ByteArray := prog_7_method_2_code
def yX5_takePatch : MethodName := ⟨RX5, "takePatch", "()V"⟩
abbrev cX5_keepCheck : ByteArray := prog_7_method_3_code
def yX5_keepCheck : MethodName := ⟨RX5, "keepCheck", "(IIIIZ)V"⟩
abbrev cX5_isLikeCheck : ByteArray := prog_7_method_4_code
def yX5_isLikeCheck : MethodName := ⟨RX5, "isLikeCheck", "(II)Z"⟩
abbrev cX5_take : ByteArray := prog_7_method_5_code
def yX5_take : MethodName := ⟨RX5, "take", "(III)V"⟩
abbrev cX5_isTaken : ByteArray := prog_7_method_6_code
def yX5_isTaken : MethodName := ⟨RX5, "isTaken", "(III)Z"⟩
abbrev cX5_takers : ByteArray := prog_7_method_7_code
def yX5_takers : MethodName := ⟨RX5, "takers", "(II)I"⟩
def RX6 : String := "ServiceGame$Tape"
def TX6 : u_T := fun k => match k with
  | 0 => ("ServiceGame$Tape", "bytes", "[I", true)
  | _ => ("ServiceGame$Tape", "size", "I", false)
def tyX6 : Nat → FieldType := fun k => match k with
  | 0 => .array .int
  | _ => .int
abbrev wsX60 : List Cond := u_ws RX6 TX6 2
theorem nmX6 : ∀ a, a < 2 → ∀ b, b < 2 → a ≠ b → (TX6 a).2.1 ≠ (TX6 b).2.1 := by decide +kernel
theorem tyX6_ok : ∀ k, k < 2 → parseFieldDescriptor (TX6 k).2.2.1 = some (tyX6 k) := by decide +kernel
abbrev cX6_init : ByteArray := prog_8_method_1_code
def yX6_init : MethodName := ⟨RX6, "<init>", "()V"⟩
abbrev cX6_append : ByteArray := prog_8_method_2_code
def yX6_append : MethodName := ⟨RX6, "append", "(JI)V"⟩
abbrev cX6_at : ByteArray := prog_8_method_3_code
def yX6_at : MethodName := ⟨RX6, "at", "(I)I"⟩
def RX7 : String := "ServiceGame"
def TX7 : u_T := fun k => match k with
  | 0 => ("ServiceGame", "settings", "[I", true)
  | 1 => ("ServiceGame", "services", "Ljava/util/ArrayList;", true)
  | 2 => ("ServiceGame", "log", "Ljava/util/ArrayList;", true)
  | 3 => ("ServiceGame", "tape", "LServiceGame$Tape;", true)
  | 4 => ("ServiceGame", "reader", "LServiceGame$Reader;", true)
  | 5 => ("ServiceGame", "machine", "LServiceGame$Machine;", true)
  | 6 => ("ServiceGame", "mail", "LServiceGame$Mail;", true)
  | 7 => ("ServiceGame", "boardPoints", "[I", true)
  | 8 => ("ServiceGame", "rounds", "I", false)
  | _ => ("ServiceGame", "lettersInAll", "I", false)
def tyX7 : Nat → FieldType := fun k => match k with
  | 0 => .array .int
  | 1 => .object "java/util/ArrayList"
  | 2 => .object "java/util/ArrayList"
  | 3 => .object "ServiceGame$Tape"
  | 4 => .object "ServiceGame$Reader"
  | 5 => .object "ServiceGame$Machine"
  | 6 => .object "ServiceGame$Mail"
  | 7 => .array .int
  | 8 => .int
  | _ => .int
abbrev wsX70 : List Cond := u_ws RX7 TX7 10
theorem nmX7 : ∀ a, a < 10 → ∀ b, b < 10 → a ≠ b → (TX7 a).2.1 ≠ (TX7 b).2.1 := by decide +kernel
theorem tyX7_ok : ∀ k, k < 10 → parseFieldDescriptor (TX7 k).2.2.1 = some (tyX7 k) := by decide +kernel
abbrev cX7_init : ByteArray := prog_1_method_1_code
def yX7_init : MethodName := ⟨RX7, "<init>", "()V"⟩
abbrev cX7_team : ByteArray := prog_1_method_2_code
def yX7_team : MethodName := ⟨RX7, "team", "()I"⟩
abbrev cX7_feed : ByteArray := prog_1_method_3_code
def yX7_feed : MethodName := ⟨RX7, "feed", "(JI)I"⟩
abbrev cX7_patch : ByteArray := prog_1_method_4_code
def yX7_patch : MethodName := ⟨RX7, "patch", "(II)I"⟩
abbrev cX7_unpatch : ByteArray := prog_1_method_5_code
def yX7_unpatch : MethodName := ⟨RX7, "unpatch", "(II)I"⟩
abbrev cX7_cell : ByteArray := prog_1_method_6_code
def yX7_cell : MethodName := ⟨RX7, "cell", "(III)I"⟩
abbrev cX7_about : ByteArray := prog_1_method_7_code
def yX7_about : MethodName := ⟨RX7, "about", "(III)I"⟩
abbrev cX7_set : ByteArray := prog_1_method_8_code
def yX7_set : MethodName := ⟨RX7, "set", "(II)I"⟩
abbrev cX7_letter : ByteArray := prog_1_method_9_code
def yX7_letter : MethodName := ⟨RX7, "letter", "(IIIII)I"⟩
abbrev cX7_round : ByteArray := prog_1_method_10_code
def yX7_round : MethodName := ⟨RX7, "round", "()I"⟩
abbrev cX7_up : ByteArray := prog_1_method_11_code
def yX7_up : MethodName := ⟨RX7, "up", "(III)I"⟩
abbrev cX7_check : ByteArray := prog_1_method_12_code
def yX7_check : MethodName := ⟨RX7, "check", "(IIII)I"⟩
abbrev cX7_flag : ByteArray := prog_1_method_13_code
def yX7_flag : MethodName := ⟨RX7, "flag", "(III)I"⟩
abbrev cX7_hand : ByteArray := prog_1_method_14_code
def yX7_hand : MethodName := ⟨RX7, "hand", "(IIII)I"⟩
abbrev cX7_points : ByteArray := prog_1_method_15_code
def yX7_points : MethodName := ⟨RX7, "points", "(II)I"⟩
abbrev cX7_board : ByteArray := prog_1_method_16_code
def yX7_board : MethodName := ⟨RX7, "board", "(II)I"⟩
abbrev cX7_gain : ByteArray := prog_1_method_17_code
def yX7_gain : MethodName := ⟨RX7, "gain", "(I)I"⟩
abbrev cX7_alike : ByteArray := prog_1_method_18_code
def yX7_alike : MethodName := ⟨RX7, "alike", "(II)I"⟩
abbrev cX7_count : ByteArray := prog_1_method_19_code
def yX7_count : MethodName := ⟨RX7, "count", "(I)I"⟩
abbrev cX7_teams : ByteArray := prog_1_method_20_code
def yX7_teams : MethodName := ⟨RX7, "teams", "()I"⟩
abbrev cX7_isTeam : ByteArray := prog_1_method_21_code
def yX7_isTeam : MethodName := ⟨RX7, "isTeam", "(I)Z"⟩
abbrev cX7_wasRound : ByteArray := prog_1_method_22_code
def yX7_wasRound : MethodName := ⟨RX7, "wasRound", "(I)Z"⟩
abbrev cX7_isNumber : ByteArray := prog_1_method_23_code
def yX7_isNumber : MethodName := ⟨RX7, "isNumber", "(I)Z"⟩
abbrev cX7_find : ByteArray := prog_1_method_24_code
def yX7_find : MethodName := ⟨RX7, "find", "(II)LServiceGame$Service;"⟩
abbrev cX7_mix : ByteArray := prog_1_method_25_code
def yX7_mix : MethodName := ⟨RX7, "mix", "(ILServiceGame$Service;)I"⟩
abbrev cX7_flagOf : ByteArray := prog_1_method_26_code
def yX7_flagOf : MethodName := ⟨RX7, "flagOf", "(I)I"⟩
abbrev cX7_writeChecks : ByteArray := prog_1_method_27_code
def yX7_writeChecks : MethodName := ⟨RX7, "writeChecks", "(LServiceGame$Service;)Z"⟩
abbrev cX7_checkNumber : ByteArray := prog_1_method_28_code
def yX7_checkNumber : MethodName := ⟨RX7, "checkNumber", "(II)I"⟩
abbrev cX7_dueAnswer : ByteArray := prog_1_method_29_code
def yX7_dueAnswer : MethodName := ⟨RX7, "dueAnswer", "(ILServiceGame$Service;IZ)I"⟩
abbrev cX7_roundThatCounts : ByteArray := prog_1_method_30_code
def yX7_roundThatCounts : MethodName := ⟨RX7, "roundThatCounts", "(ILServiceGame$Service;I)I"⟩
abbrev cX7_pointsAhead : ByteArray := prog_1_method_31_code
def yX7_pointsAhead : MethodName := ⟨RX7, "pointsAhead", "(II)I"⟩
abbrev cX7_upPoints : ByteArray := prog_1_method_32_code
def yX7_upPoints : MethodName := ⟨RX7, "upPoints", "(II)I"⟩
abbrev cX7_stolenPoints : ByteArray := prog_1_method_33_code
def yX7_stolenPoints : MethodName := ⟨RX7, "stolenPoints", "(II)I"⟩
abbrev cX7_takenOff : ByteArray := prog_1_method_34_code
def yX7_takenOff : MethodName := ⟨RX7, "takenOff", "(II)I"⟩
abbrev cX7_handInsBy : ByteArray := prog_1_method_35_code
def yX7_handInsBy : MethodName := ⟨RX7, "handInsBy", "(I)I"⟩
abbrev cX7_share : ByteArray := prog_1_method_36_code
def yX7_share : MethodName := ⟨RX7, "share", "(I)I"⟩
abbrev cX7_placeOnBoard : ByteArray := prog_1_method_37_code
def yX7_placeOnBoard : MethodName := ⟨RX7, "placeOnBoard", "(II)I"⟩
abbrev cX7_gainFromFlag : ByteArray := prog_1_method_38_code
def yX7_gainFromFlag : MethodName := ⟨RX7, "gainFromFlag", "(LServiceGame$Service;I)I"⟩
def RX8 : String := "ServiceGameModel"
def TX8 : u_T := fun k => match k with
  | 0 => ("ServiceGameModel", "teams", "I", false)
  | 1 => ("ServiceGameModel", "rounds", "I", false)
  | 2 => ("ServiceGameModel", "tape", "[I", true)
  | 3 => ("ServiceGameModel", "step", "[I", true)
  | 4 => ("ServiceGameModel", "number", "[I", true)
  | 5 => ("ServiceGameModel", "size", "[I", true)
  | 6 => ("ServiceGameModel", "waits", "[Z", true)
  | 7 => ("ServiceGameModel", "taped", "I", false)
  | 8 => ("ServiceGameModel", "at", "I", false)
  | 9 => ("ServiceGameModel", "readStep", "[I", true)
  | 10 => ("ServiceGameModel", "readNumber", "[I", true)
  | 11 => ("ServiceGameModel", "readMany", "I", false)
  | 12 => ("ServiceGameModel", "cell", "[I", true)
  | 13 => ("ServiceGameModel", "kept", "[I", true)
  | 14 => ("ServiceGameModel", "brokeMany", "[I", true)
  | 15 => ("ServiceGameModel", "fuelMany", "[I", true)
  | 16 => ("ServiceGameModel", "upMany", "[I", true)
  | 17 => ("ServiceGameModel", "set", "[I", true)
  | 18 => ("ServiceGameModel", "pile", "[I", true)
  | 19 => ("ServiceGameModel", "high", "I", false)
  | 20 => ("ServiceGameModel", "next", "I", false)
  | 21 => ("ServiceGameModel", "fuelAll", "I", false)
  | 22 => ("ServiceGameModel", "letterTo", "[I", true)
  | 23 => ("ServiceGameModel", "letterA", "[I", true)
  | 24 => ("ServiceGameModel", "letterB", "[I", true)
  | 25 => ("ServiceGameModel", "aheadTo", "[I", true)
  | 26 => ("ServiceGameModel", "aheadA", "[I", true)
  | 27 => ("ServiceGameModel", "aheadB", "[I", true)
  | 28 => ("ServiceGameModel", "letters", "I", false)
  | 29 => ("ServiceGameModel", "ahead", "I", false)
  | 30 => ("ServiceGameModel", "lettersAll", "I", false)
  | 31 => ("ServiceGameModel", "isUp", "[Z", true)
  | 32 => ("ServiceGameModel", "which", "[I", true)
  | 33 => ("ServiceGameModel", "second", "[I", true)
  | 34 => ("ServiceGameModel", "answer", "[I", true)
  | 35 => ("ServiceGameModel", "good", "[I", true)
  | 36 => ("ServiceGameModel", "order", "[I", true)
  | 37 => ("ServiceGameModel", "handedIn", "[I", true)
  | 38 => ("ServiceGameModel", "hands", "I", false)
  | 39 => ("ServiceGameModel", "pointsUp", "[I", true)
  | 40 => ("ServiceGameModel", "pointsStolen", "[I", true)
  | 41 => ("ServiceGameModel", "pointsOff", "[I", true)
  | _ => ("ServiceGameModel", "flags", "[I", true)
def tyX8 : Nat → FieldType := fun k => match k with
  | 0 => .int
  | 1 => .int
  | 2 => .array .int
  | 3 => .array .int
  | 4 => .array .int
  | 5 => .array .int
  | 6 => .array .boolean
  | 7 => .int
  | 8 => .int
  | 9 => .array .int
  | 10 => .array .int
  | 11 => .int
  | 12 => .array .int
  | 13 => .array .int
  | 14 => .array .int
  | 15 => .array .int
  | 16 => .array .int
  | 17 => .array .int
  | 18 => .array .int
  | 19 => .int
  | 20 => .int
  | 21 => .int
  | 22 => .array .int
  | 23 => .array .int
  | 24 => .array .int
  | 25 => .array .int
  | 26 => .array .int
  | 27 => .array .int
  | 28 => .int
  | 29 => .int
  | 30 => .int
  | 31 => .array .boolean
  | 32 => .array .int
  | 33 => .array .int
  | 34 => .array .int
  | 35 => .array .int
  | 36 => .array .int
  | 37 => .array .int
  | 38 => .int
  | 39 => .array .int
  | 40 => .array .int
  | 41 => .array .int
  | _ => .array .int
abbrev wsX80 : List Cond := u_ws RX8 TX8 43
theorem nmX8 : ∀ a, a < 43 → ∀ b, b < 43 → a ≠ b → (TX8 a).2.1 ≠ (TX8 b).2.1 := by decide +kernel
theorem tyX8_ok : ∀ k, k < 43 → parseFieldDescriptor (TX8 k).2.2.1 = some (tyX8 k) := by decide +kernel
abbrev cX8_init : ByteArray := prog_10_method_1_code
def yX8_init : MethodName := ⟨RX8, "<init>", "()V"⟩
abbrev cX8_isTeam : ByteArray := prog_10_method_2_code
def yX8_isTeam : MethodName := ⟨RX8, "isTeam", "(I)Z"⟩
abbrev cX8_isIn : ByteArray := prog_10_method_3_code
def yX8_isIn : MethodName := ⟨RX8, "isIn", "(JJJ)Z"⟩
abbrev cX8_isPlace : ByteArray := prog_10_method_4_code
def yX8_isPlace : MethodName := ⟨RX8, "isPlace", "(II)Z"⟩
abbrev cX8_team : ByteArray := prog_10_method_5_code
def yX8_team : MethodName := ⟨RX8, "team", "()I"⟩
abbrev cX8_feed : ByteArray := prog_10_method_6_code
def yX8_feed : MethodName := ⟨RX8, "feed", "(JI)I"⟩
abbrev cX8_sign : ByteArray := prog_10_method_7_code
def yX8_sign : MethodName := ⟨RX8, "sign", "()I"⟩
abbrev cX8_isDigit : ByteArray := prog_10_method_8_code
def yX8_isDigit : MethodName := ⟨RX8, "isDigit", "()Z"⟩
abbrev cX8_digits : ByteArray := prog_10_method_9_code
def yX8_digits : MethodName := ⟨RX8, "digits", "(I)I"⟩
abbrev cX8_readsStep : ByteArray := prog_10_method_10_code
def yX8_readsStep : MethodName := ⟨RX8, "readsStep", "()Z"⟩
abbrev cX8_fault : ByteArray := prog_10_method_11_code
def yX8_fault : MethodName := ⟨RX8, "fault", "()I"⟩
abbrev cX8_patch : ByteArray := prog_10_method_12_code
def yX8_patch : MethodName := ⟨RX8, "patch", "(II)I"⟩
abbrev cX8_unpatch : ByteArray := prog_10_method_13_code
def yX8_unpatch : MethodName := ⟨RX8, "unpatch", "(II)I"⟩
abbrev cX8_cell : ByteArray := prog_10_method_14_code
def yX8_cell : MethodName := ⟨RX8, "cell", "(III)I"⟩
abbrev cX8_about : ByteArray := prog_10_method_15_code
def yX8_about : MethodName := ⟨RX8, "about", "(III)I"⟩
abbrev cX8_isSet : ByteArray := prog_10_method_16_code
def yX8_isSet : MethodName := ⟨RX8, "isSet", "(II)Z"⟩
abbrev cX8_set : ByteArray := prog_10_method_17_code
def yX8_set : MethodName := ⟨RX8, "set", "(II)I"⟩
abbrev cX8_pushes : ByteArray := prog_10_method_18_code
def yX8_pushes : MethodName := ⟨RX8, "pushes", "(I)V"⟩
abbrev cX8_of : ByteArray := prog_10_method_19_code
def yX8_of : MethodName := ⟨RX8, "of", "(III)I"⟩
abbrev cX8_needs : ByteArray := prog_10_method_20_code
def yX8_needs : MethodName := ⟨RX8, "needs", "(I)I"⟩
abbrev cX8_isPush : ByteArray := prog_10_method_21_code
def yX8_isPush : MethodName := ⟨RX8, "isPush", "(I)Z"⟩
abbrev cX8_does : ByteArray := prog_10_method_22_code
def yX8_does : MethodName := ⟨RX8, "does", "(IIIII)V"⟩
abbrev cX8_runs : ByteArray := prog_10_method_23_code
def yX8_runs : MethodName := ⟨RX8, "runs", "(III)I"⟩
abbrev cX8_letter : ByteArray := prog_10_method_24_code
def yX8_letter : MethodName := ⟨RX8, "letter", "(IIIII)I"⟩
abbrev cX8_mix : ByteArray := prog_10_method_25_code
def yX8_mix : MethodName := ⟨RX8, "mix", "(II)I"⟩
abbrev cX8_flagOf : ByteArray := prog_10_method_26_code
def yX8_flagOf : MethodName := ⟨RX8, "flagOf", "(II)I"⟩
abbrev cX8_checks : ByteArray := prog_10_method_27_code
def yX8_checks : MethodName := ⟨RX8, "checks", "(II)Z"⟩
abbrev cX8_round : ByteArray := prog_10_method_28_code
def yX8_round : MethodName := ⟨RX8, "round", "()I"⟩
abbrev cX8_up : ByteArray := prog_10_method_29_code
def yX8_up : MethodName := ⟨RX8, "up", "(III)I"⟩
abbrev cX8_check : ByteArray := prog_10_method_30_code
def yX8_check : MethodName := ⟨RX8, "check", "(IIII)I"⟩
abbrev cX8_flag : ByteArray := prog_10_method_31_code
def yX8_flag : MethodName := ⟨RX8, "flag", "(III)I"⟩
abbrev cX8_handed : ByteArray := prog_10_method_32_code
def yX8_handed : MethodName := ⟨RX8, "handed", "(III)I"⟩
abbrev cX8_hand : ByteArray := prog_10_method_33_code
def yX8_hand : MethodName := ⟨RX8, "hand", "(IIII)I"⟩
abbrev cX8_findPoints : ByteArray := prog_10_method_34_code
def yX8_findPoints : MethodName := ⟨RX8, "findPoints", "(I)V"⟩
abbrev cX8_stolen : ByteArray := prog_10_method_35_code
def yX8_stolen : MethodName := ⟨RX8, "stolen", "(III)V"⟩
abbrev cX8_isHanded : ByteArray := prog_10_method_36_code
def yX8_isHanded : MethodName := ⟨RX8, "isHanded", "(IIII)Z"⟩
abbrev cX8_sum : ByteArray := prog_10_method_37_code
def yX8_sum : MethodName := ⟨RX8, "sum", "(I)I"⟩
abbrev cX8_points : ByteArray := prog_10_method_38_code
def yX8_points : MethodName := ⟨RX8, "points", "(II)I"⟩
abbrev cX8_board : ByteArray := prog_10_method_39_code
def yX8_board : MethodName := ⟨RX8, "board", "(II)I"⟩
abbrev cX8_sumOf : ByteArray := prog_10_method_40_code
def yX8_sumOf : MethodName := ⟨RX8, "sumOf", "(I)I"⟩
abbrev cX8_gain : ByteArray := prog_10_method_41_code
def yX8_gain : MethodName := ⟨RX8, "gain", "(I)I"⟩
abbrev cX8_helps : ByteArray := prog_10_method_42_code
def yX8_helps : MethodName := ⟨RX8, "helps", "(IIIZ)V"⟩
abbrev cX8_alike : ByteArray := prog_10_method_43_code
def yX8_alike : MethodName := ⟨RX8, "alike", "(II)I"⟩
abbrev cX8_count : ByteArray := prog_10_method_44_code
def yX8_count : MethodName := ⟨RX8, "count", "(I)I"⟩
def RJx145de : String := "java/io/Serializable"
def TJx145de : u_T := fun k => match k with
  | _ => ("", "", "", false)
def tyJx145de : Nat → FieldType := fun k => match k with
  | _ => .int
abbrev wsJx145de0 : List Cond := u_ws RJx145de TJx145de 0
theorem nmJx145de : ∀ a, a < 0 → ∀ b, b < 0 → a ≠ b → (TJx145de a).2.1 ≠ (TJx145de b).2.1 := by decide +kernel
theorem tyJx145de_ok : ∀ k, k < 0 → parseFieldDescriptor (TJx145de k).2.2.1 = some (tyJx145de k) := by decide +kernel
def RJx8e188 : String := "java/lang/Cloneable"
def TJx8e188 : u_T := fun k => match k with
  | _ => ("", "", "", false)
def tyJx8e188 : Nat → FieldType := fun k => match k with
  | _ => .int
abbrev wsJx8e1880 : List Cond := u_ws RJx8e188 TJx8e188 0
theorem nmJx8e188 : ∀ a, a < 0 → ∀ b, b < 0 → a ≠ b → (TJx8e188 a).2.1 ≠ (TJx8e188 b).2.1 := by decide +kernel
theorem tyJx8e188_ok : ∀ k, k < 0 → parseFieldDescriptor (TJx8e188 k).2.2.1 = some (tyJx8e188 k) := by decide +kernel
def RJ6 : String := "java/lang/Integer"
def TJ6 : u_T := fun k => match k with
  | _ => ("", "", "", false)
def tyJ6 : Nat → FieldType := fun k => match k with
  | _ => .int
abbrev wsJ60 : List Cond := u_ws RJ6 TJ6 0
theorem nmJ6 : ∀ a, a < 0 → ∀ b, b < 0 → a ≠ b → (TJ6 a).2.1 ≠ (TJ6 b).2.1 := by decide +kernel
theorem tyJ6_ok : ∀ k, k < 0 → parseFieldDescriptor (TJ6 k).2.2.1 = some (tyJ6 k) := by decide +kernel
abbrev cJ6_bitCount_0f7a4 : ByteArray := prog_13_method_49_code
def yJ6_bitCount_0f7a4 : MethodName := ⟨RJ6, "bitCount", "(I)I"⟩
def RJxab1ab : String := "java/lang/Iterable"
def TJxab1ab : u_T := fun k => match k with
  | _ => ("", "", "", false)
def tyJxab1ab : Nat → FieldType := fun k => match k with
  | _ => .int
abbrev wsJxab1ab0 : List Cond := u_ws RJxab1ab TJxab1ab 0
theorem nmJxab1ab : ∀ a, a < 0 → ∀ b, b < 0 → a ≠ b → (TJxab1ab a).2.1 ≠ (TJxab1ab b).2.1 := by decide +kernel
theorem tyJxab1ab_ok : ∀ k, k < 0 → parseFieldDescriptor (TJxab1ab k).2.2.1 = some (tyJxab1ab k) := by decide +kernel
def RJ9 : String := "java/lang/Math"
def TJ9 : u_T := fun k => match k with
  | _ => ("", "", "", false)
def tyJ9 : Nat → FieldType := fun k => match k with
  | _ => .int
abbrev wsJ90 : List Cond := u_ws RJ9 TJ9 0
theorem nmJ9 : ∀ a, a < 0 → ∀ b, b < 0 → a ≠ b → (TJ9 a).2.1 ≠ (TJ9 b).2.1 := by decide +kernel
theorem tyJ9_ok : ∀ k, k < 0 → parseFieldDescriptor (TJ9 k).2.2.1 = some (tyJ9 k) := by decide +kernel
abbrev cJ9_max_7cf53 : ByteArray := prog_15_method_65_code
def yJ9_max_7cf53 : MethodName := ⟨RJ9, "max", "(II)I"⟩
abbrev cJ9_min_7cf53 : ByteArray := prog_15_method_69_code
def yJ9_min_7cf53 : MethodName := ⟨RJ9, "min", "(II)I"⟩
def RJ10 : String := "java/lang/System"
def TJ10 : u_T := fun k => match k with
  | _ => ("", "", "", false)
def tyJ10 : Nat → FieldType := fun k => match k with
  | _ => .int
abbrev wsJ100 : List Cond := u_ws RJ10 TJ10 0
theorem nmJ10 : ∀ a, a < 0 → ∀ b, b < 0 → a ≠ b → (TJ10 a).2.1 ≠ (TJ10 b).2.1 := by decide +kernel
theorem tyJ10_ok : ∀ k, k < 0 → parseFieldDescriptor (TJ10 k).2.2.1 = some (tyJ10 k) := by decide +kernel
def RJxa1e45 : String := "java/util/AbstractCollection"
def TJxa1e45 : u_T := fun k => match k with
  | _ => ("", "", "", false)
def tyJxa1e45 : Nat → FieldType := fun k => match k with
  | _ => .int
abbrev wsJxa1e450 : List Cond := u_ws RJxa1e45 TJxa1e45 0
theorem nmJxa1e45 : ∀ a, a < 0 → ∀ b, b < 0 → a ≠ b → (TJxa1e45 a).2.1 ≠ (TJxa1e45 b).2.1 := by decide +kernel
theorem tyJxa1e45_ok : ∀ k, k < 0 → parseFieldDescriptor (TJxa1e45 k).2.2.1 = some (tyJxa1e45 k) := by decide +kernel
abbrev cJxa1e45_init_da8c8 : ByteArray := prog_17_method_1_code
def yJxa1e45_init_da8c8 : MethodName := ⟨RJxa1e45, "<init>", "()V"⟩
def RJxc12de : String := "java/util/AbstractList"
def TJxc12de : u_T := fun k => match k with
  | _ => ("", "", "", false)
def tyJxc12de : Nat → FieldType := fun k => match k with
  | _ => .int
abbrev wsJxc12de0 : List Cond := u_ws RJxc12de TJxc12de 0
theorem nmJxc12de : ∀ a, a < 0 → ∀ b, b < 0 → a ≠ b → (TJxc12de a).2.1 ≠ (TJxc12de b).2.1 := by decide +kernel
theorem tyJxc12de_ok : ∀ k, k < 0 → parseFieldDescriptor (TJxc12de k).2.2.1 = some (tyJxc12de k) := by decide +kernel
abbrev cJxc12de_init_da8c8 : ByteArray := prog_18_method_1_code
def yJxc12de_init_da8c8 : MethodName := ⟨RJxc12de, "<init>", "()V"⟩
def RJx4a65c : String := "java/util/ArrayList"
def TJx4a65c : u_T := fun k => match k with
  | 0 => ("java/util/AbstractList", "modCount", "I", false)
  | 1 => ("java/util/ArrayList", "elementData", "[Ljava/lang/Object;", false)
  | _ => ("java/util/ArrayList", "size", "I", false)
def tyJx4a65c : Nat → FieldType := fun k => match k with
  | 0 => .int
  | 1 => .array (.object "java/lang/Object")
  | _ => .int
abbrev wsJx4a65c0 : List Cond := u_ws RJx4a65c TJx4a65c 3
theorem nmJx4a65c : ∀ a, a < 3 → ∀ b, b < 3 → a ≠ b → (TJx4a65c a).2.1 ≠ (TJx4a65c b).2.1 := by decide +kernel
theorem tyJx4a65c_ok : ∀ k, k < 3 → parseFieldDescriptor (TJx4a65c k).2.2.1 = some (tyJx4a65c k) := by decide +kernel
abbrev cJx4a65c_init_da8c8 : ByteArray := prog_19_method_2_code
def yJx4a65c_init_da8c8 : MethodName := ⟨RJx4a65c, "<init>", "()V"⟩
abbrev cJx4a65c_grow_92f84 : ByteArray := prog_19_method_6_code
def yJx4a65c_grow_92f84 : MethodName := ⟨RJx4a65c, "grow", "(I)[Ljava/lang/Object;"⟩
abbrev cJx4a65c_grow_d5877 : ByteArray := prog_19_method_7_code
def yJx4a65c_grow_d5877 : MethodName := ⟨RJx4a65c, "grow", "()[Ljava/lang/Object;"⟩
abbrev cJx4a65c_size_8abf5 : ByteArray := prog_19_method_8_code
def yJx4a65c_size_8abf5 : MethodName := ⟨RJx4a65c, "size", "()I"⟩
abbrev cJx4a65c_isEmpty_aae02 : ByteArray := prog_19_method_9_code
def yJx4a65c_isEmpty_aae02 : MethodName := ⟨RJx4a65c, "isEmpty", "()Z"⟩
abbrev cJx4a65c_elementData_915e3 : ByteArray := prog_19_method_18_code
def yJx4a65c_elementData_915e3 : MethodName := ⟨RJx4a65c, "elementData", "(I)Ljava/lang/Object;"⟩
abbrev cJx4a65c_get_915e3 : ByteArray := prog_19_method_20_code
def yJx4a65c_get_915e3 : MethodName := ⟨RJx4a65c, "get", "(I)Ljava/lang/Object;"⟩
abbrev cJx4a65c_add_72be8 : ByteArray := prog_19_method_24_code
def yJx4a65c_add_72be8 : MethodName := ⟨RJx4a65c, "add", "(Ljava/lang/Object;[Ljava/lang/Object;I)V"⟩
abbrev cJx4a65c_add_9ea2d : ByteArray := prog_19_method_25_code
def yJx4a65c_add_9ea2d : MethodName := ⟨RJx4a65c, "add", "(Ljava/lang/Object;)Z"⟩
def RJ7 : String := "java/util/Arrays"
def TJ7 : u_T := fun k => match k with
  | _ => ("", "", "", false)
def tyJ7 : Nat → FieldType := fun k => match k with
  | _ => .int
abbrev wsJ70 : List Cond := u_ws RJ7 TJ7 0
theorem nmJ7 : ∀ a, a < 0 → ∀ b, b < 0 → a ≠ b → (TJ7 a).2.1 ≠ (TJ7 b).2.1 := by decide +kernel
theorem tyJ7_ok : ∀ k, k < 0 → parseFieldDescriptor (TJ7 k).2.2.1 = some (tyJ7 k) := by decide +kernel
abbrev cJ7_copyOf_1904c : ByteArray := prog_20_method_119_code
def yJ7_copyOf_1904c : MethodName := ⟨RJ7, "copyOf", "([Ljava/lang/Object;I)[Ljava/lang/Object;"⟩
abbrev cJ7_copyOf_6403c : ByteArray := prog_20_method_120_code
def yJ7_copyOf_6403c : MethodName := ⟨RJ7, "copyOf", "([Ljava/lang/Object;ILjava/lang/Class;)[Ljava/lang/Object;"⟩
def RJx5ef63 : String := "java/util/Collection"
def TJx5ef63 : u_T := fun k => match k with
  | _ => ("", "", "", false)
def tyJx5ef63 : Nat → FieldType := fun k => match k with
  | _ => .int
abbrev wsJx5ef630 : List Cond := u_ws RJx5ef63 TJx5ef63 0
theorem nmJx5ef63 : ∀ a, a < 0 → ∀ b, b < 0 → a ≠ b → (TJx5ef63 a).2.1 ≠ (TJx5ef63 b).2.1 := by decide +kernel
theorem tyJx5ef63_ok : ∀ k, k < 0 → parseFieldDescriptor (TJx5ef63 k).2.2.1 = some (tyJx5ef63 k) := by decide +kernel
def RJxbd725 : String := "java/util/List"
def TJxbd725 : u_T := fun k => match k with
  | _ => ("", "", "", false)
def tyJxbd725 : Nat → FieldType := fun k => match k with
  | _ => .int
abbrev wsJxbd7250 : List Cond := u_ws RJxbd725 TJxbd725 0
theorem nmJxbd725 : ∀ a, a < 0 → ∀ b, b < 0 → a ≠ b → (TJxbd725 a).2.1 ≠ (TJxbd725 b).2.1 := by decide +kernel
theorem tyJxbd725_ok : ∀ k, k < 0 → parseFieldDescriptor (TJxbd725 k).2.2.1 = some (tyJxbd725 k) := by decide +kernel
def RJ15 : String := "java/util/Objects"
def TJ15 : u_T := fun k => match k with
  | _ => ("", "", "", false)
def tyJ15 : Nat → FieldType := fun k => match k with
  | _ => .int
abbrev wsJ150 : List Cond := u_ws RJ15 TJ15 0
theorem nmJ15 : ∀ a, a < 0 → ∀ b, b < 0 → a ≠ b → (TJ15 a).2.1 ≠ (TJ15 b).2.1 := by decide +kernel
theorem tyJ15_ok : ∀ k, k < 0 → parseFieldDescriptor (TJ15 k).2.2.1 = some (tyJ15 k) := by decide +kernel
abbrev cJ15_checkIndex_7cf53 : ByteArray := prog_23_method_17_code
def yJ15_checkIndex_7cf53 : MethodName := ⟨RJ15, "checkIndex", "(II)I"⟩
def RJxf0a74 : String := "java/util/RandomAccess"
def TJxf0a74 : u_T := fun k => match k with
  | _ => ("", "", "", false)
def tyJxf0a74 : Nat → FieldType := fun k => match k with
  | _ => .int
abbrev wsJxf0a740 : List Cond := u_ws RJxf0a74 TJxf0a74 0
theorem nmJxf0a74 : ∀ a, a < 0 → ∀ b, b < 0 → a ≠ b → (TJxf0a74 a).2.1 ≠ (TJxf0a74 b).2.1 := by decide +kernel
theorem tyJxf0a74_ok : ∀ k, k < 0 → parseFieldDescriptor (TJxf0a74 k).2.2.1 = some (tyJxf0a74 k) := by decide +kernel
def RJxa66e6 : String := "java/util/SequencedCollection"
def TJxa66e6 : u_T := fun k => match k with
  | _ => ("", "", "", false)
def tyJxa66e6 : Nat → FieldType := fun k => match k with
  | _ => .int
abbrev wsJxa66e60 : List Cond := u_ws RJxa66e6 TJxa66e6 0
theorem nmJxa66e6 : ∀ a, a < 0 → ∀ b, b < 0 → a ≠ b → (TJxa66e6 a).2.1 ≠ (TJxa66e6 b).2.1 := by decide +kernel
theorem tyJxa66e6_ok : ∀ k, k < 0 → parseFieldDescriptor (TJxa66e6 k).2.2.1 = some (tyJxa66e6 k) := by decide +kernel
def RJ8 : String := "jdk/internal/util/ArraysSupport"
def TJ8 : u_T := fun k => match k with
  | _ => ("", "", "", false)
def tyJ8 : Nat → FieldType := fun k => match k with
  | _ => .int
abbrev wsJ80 : List Cond := u_ws RJ8 TJ8 0
theorem nmJ8 : ∀ a, a < 0 → ∀ b, b < 0 → a ≠ b → (TJ8 a).2.1 ≠ (TJ8 b).2.1 := by decide +kernel
theorem tyJ8_ok : ∀ k, k < 0 → parseFieldDescriptor (TJ8 k).2.2.1 = some (tyJ8 k) := by decide +kernel
abbrev cJ8_newLength_cabcc : ByteArray := prog_26_method_27_code
def yJ8_newLength_cabcc : MethodName := ⟨RJ8, "newLength", "(III)I"⟩
abbrev cJ8_hugeLength_7cf53 : ByteArray := prog_26_method_28_code
def yJ8_hugeLength_7cf53 : MethodName := ⟨RJ8, "hugeLength", "(II)I"⟩
def RJ3 : String := "jdk/internal/util/Preconditions"
def TJ3 : u_T := fun k => match k with
  | _ => ("", "", "", false)
def tyJ3 : Nat → FieldType := fun k => match k with
  | _ => .int
abbrev wsJ30 : List Cond := u_ws RJ3 TJ3 0
theorem nmJ3 : ∀ a, a < 0 → ∀ b, b < 0 → a ≠ b → (TJ3 a).2.1 ≠ (TJ3 b).2.1 := by decide +kernel
theorem tyJ3_ok : ∀ k, k < 0 → parseFieldDescriptor (TJ3 k).2.2.1 = some (tyJ3 k) := by decide +kernel
abbrev cJ3_checkIndex_8e157 : ByteArray := prog_27_method_11_code
def yJ3_checkIndex_8e157 : MethodName := ⟨RJ3, "checkIndex", "(IILjava/util/function/BiFunction;)I"⟩
def RL : String := "ServiceGameLaw"
abbrev cL_law : ByteArray := code
def yL_law : MethodName := ⟨RL, "law", "([I)Z"⟩
def wsX0_init : List Cond := .code yX0_init cX0_init 4 none :: ([.methodLink RX0 1 objectInit, .instanceMethod objectInit, .code objectInit ⟨#[0xb1]⟩ 1 none, .fieldLink RX0 7 "ServiceGame$HandIn" "by" "I", .fieldLink RX0 13 "ServiceGame$HandIn" "service" "LServiceGame$Service;", .fieldLink RX0 17 "ServiceGame$HandIn" "put" "I"] ++ wsX00)
def wsX1_init : List Cond := .code yX1_init cX1_init 1 none :: ([.methodLink RX1 3 objectInit, .instanceMethod objectInit, .code objectInit ⟨#[0xb1]⟩ 1 none, .arrayClass .int, .fieldLink RX1 9 "ServiceGame$Machine" "pile" "[I", .fieldLink RX1 15 "ServiceGame$Machine" "cellsAhead" "[I"] ++ wsX10)
def wsX1_pileSuits : List Cond := .code yX1_pileSuits cX1_pileSuits 2 (some .boolean) :: ([.fieldLink RX1 40 "ServiceGame$Machine" "height" "I"] ++ wsX10)
def wsX1_pull : List Cond := .code yX1_pull cX1_pull 1 (some .int) :: ([.fieldLink RX1 40 "ServiceGame$Machine" "height" "I", .fieldLink RX1 9 "ServiceGame$Machine" "pile" "[I"] ++ wsX10)
def wsX1_push : List Cond := .code yX1_push cX1_push 2 none :: ([.fieldLink RX1 40 "ServiceGame$Machine" "height" "I", .fieldLink RX1 9 "ServiceGame$Machine" "pile" "[I"] ++ wsX10)
def wsX1_joined : List Cond := .code yX1_joined cX1_joined 3 (some .int) :: ([])
def wsX1_joinTwo : List Cond := .code yX1_joinTwo cX1_joinTwo 4 none :: ([.methodLink RX1 72 yX1_pull, .instanceMethod yX1_pull, .selects RX1 yX1_pull yX1_pull, .initialized RX1, .code yX1_pull cX1_pull 1 (some .int), .fieldLink RX1 40 "ServiceGame$Machine" "height" "I", .fieldLink RX1 9 "ServiceGame$Machine" "pile" "[I", .methodLink RX1 87 yX1_joined, .static yX1_joined, .code yX1_joined cX1_joined 3 (some .int), .methodLink RX1 80 yX1_push, .instanceMethod yX1_push, .selects RX1 yX1_push yX1_push, .code yX1_push cX1_push 2 none] ++ wsX10)
def wsX1_act : List Cond := .code yX1_act cX1_act 4 none :: ([.fieldLink RX1 33 "ServiceGame$Machine" "first" "I", .fieldLink RX1 37 "ServiceGame$Machine" "second" "I", .methodLink RX1 80 yX1_push, .instanceMethod yX1_push, .selects RX1 yX1_push yX1_push, .initialized RX1, .code yX1_push cX1_push 2 none, .fieldLink RX1 40 "ServiceGame$Machine" "height" "I", .fieldLink RX1 9 "ServiceGame$Machine" "pile" "[I", .methodLink RX1 72 yX1_pull, .instanceMethod yX1_pull, .selects RX1 yX1_pull yX1_pull, .code yX1_pull cX1_pull 1 (some .int), .methodLink RX1 84 yX1_joinTwo, .instanceMethod yX1_joinTwo, .selects RX1 yX1_joinTwo yX1_joinTwo, .code yX1_joinTwo cX1_joinTwo 4 none, .methodLink RX1 87 yX1_joined, .static yX1_joined, .code yX1_joined cX1_joined 3 (some .int)] ++ wsX10)
def wsX1_run_r1 : List Cond := [Cond.fieldLink RX1 64 "ServiceGame$Machine" "fuelUsed" "I", Cond.constant RX1 67 (1000000), Cond.fieldLink RX1 9 "ServiceGame$Machine" "pile" "[I", Cond.fieldLink RX1 40 "ServiceGame$Machine" "height" "I", Cond.methodLink RX1 68 yX1_pileSuits, Cond.instanceMethod yX1_pileSuits, Cond.selects RX1 yX1_pileSuits yX1_pileSuits, Cond.initialized RX1, Cond.code yX1_pileSuits cX1_pileSuits 2 (some .boolean), Cond.methodLink RX1 72 yX1_pull, Cond.instanceMethod yX1_pull, Cond.selects RX1 yX1_pull yX1_pull, Cond.code yX1_pull cX1_pull 1 (some .int), Cond.methodLink RX1 76 yX1_act, Cond.instanceMethod yX1_act, Cond.selects RX1 yX1_act yX1_act, Cond.code yX1_act cX1_act 4 none, Cond.fieldLink RX1 33 "ServiceGame$Machine" "first" "I", Cond.fieldLink RX1 37 "ServiceGame$Machine" "second" "I", Cond.methodLink RX1 80 yX1_push, Cond.instanceMethod yX1_push, Cond.selects RX1 yX1_push yX1_push, Cond.code yX1_push cX1_push 2 none, Cond.methodLink RX1 84 yX1_joinTwo]
def wsX1_run_r2 : List Cond := [Cond.instanceMethod yX1_joinTwo, Cond.selects RX1 yX1_joinTwo yX1_joinTwo, Cond.code yX1_joinTwo cX1_joinTwo 4 none, Cond.methodLink RX1 87 yX1_joined, Cond.static yX1_joined, Cond.code yX1_joined cX1_joined 3 (some .int)]
def wsX1_run : List Cond := .code yX1_run cX1_run 9 (some .int) :: ((wsX1_run_r1 ++ wsX1_run_r2) ++ wsX30 ++ wsX10)
def wsX1_deliver_r1 : List Cond := [Cond.fieldLink RX1 15 "ServiceGame$Machine" "cellsAhead" "[I", Cond.methodLink RX1 27 arraycopyName, Cond.native arraycopyName, Cond.static arraycopyName, Cond.initialized "java/lang/System", Cond.fieldLink RX1 33 "ServiceGame$Machine" "first" "I", Cond.fieldLink RX1 37 "ServiceGame$Machine" "second" "I", Cond.fieldLink RX1 40 "ServiceGame$Machine" "height" "I", Cond.methodLink RX1 43 yX1_run, Cond.instanceMethod yX1_run, Cond.selects RX1 yX1_run yX1_run, Cond.initialized RX1, Cond.code yX1_run cX1_run 9 (some .int), Cond.fieldLink RX1 64 "ServiceGame$Machine" "fuelUsed" "I", Cond.constant RX1 67 (1000000), Cond.fieldLink RX1 9 "ServiceGame$Machine" "pile" "[I", Cond.methodLink RX1 68 yX1_pileSuits, Cond.instanceMethod yX1_pileSuits, Cond.selects RX1 yX1_pileSuits yX1_pileSuits, Cond.code yX1_pileSuits cX1_pileSuits 2 (some .boolean), Cond.methodLink RX1 72 yX1_pull, Cond.instanceMethod yX1_pull, Cond.selects RX1 yX1_pull yX1_pull, Cond.code yX1_pull cX1_pull 1 (some .int)]
def wsX1_deliver_r2 : List Cond := [Cond.methodLink RX1 76 yX1_act, Cond.instanceMethod yX1_act, Cond.selects RX1 yX1_act yX1_act, Cond.code yX1_act cX1_act 4 none, Cond.methodLink RX1 80 yX1_push, Cond.instanceMethod yX1_push, Cond.selects RX1 yX1_push yX1_push, Cond.code yX1_push cX1_push 2 none, Cond.methodLink RX1 84 yX1_joinTwo, Cond.instanceMethod yX1_joinTwo, Cond.selects RX1 yX1_joinTwo yX1_joinTwo, Cond.code yX1_joinTwo cX1_joinTwo 4 none, Cond.methodLink RX1 87 yX1_joined, Cond.static yX1_joined, Cond.code yX1_joined cX1_joined 3 (some .int)]
def wsX1_deliver : List Cond := .code yX1_deliver cX1_deliver 6 (some .int) :: ((wsX1_deliver_r1 ++ wsX1_deliver_r2) ++ wsX50 ++ wsX10 ++ wsX30)
def wsX2_init : List Cond := .code yX2_init cX2_init 1 none :: ([.methodLink RX2 3 objectInit, .instanceMethod objectInit, .code objectInit ⟨#[0xb1]⟩ 1 none, .arrayClass .int, .fieldLink RX2 9 "ServiceGame$Mail" "places" "[I", .fieldLink RX2 15 "ServiceGame$Mail" "firsts" "[I", .fieldLink RX2 18 "ServiceGame$Mail" "seconds" "[I"] ++ wsX20)
def wsX2_keep : List Cond := .code yX2_keep cX2_keep 4 none :: ([.fieldLink RX2 9 "ServiceGame$Mail" "places" "[I", .fieldLink RX2 21 "ServiceGame$Mail" "size" "I", .fieldLink RX2 15 "ServiceGame$Mail" "firsts" "[I", .fieldLink RX2 18 "ServiceGame$Mail" "seconds" "[I"] ++ wsX20 ++ wsX50)
def wsJx4a65c_size_8abf5 : List Cond := .code yJx4a65c_size_8abf5 cJx4a65c_size_8abf5 1 (some .int) :: ([.fieldLink RJx4a65c 48 "java/util/ArrayList" "size" "I"] ++ wsJx4a65c0)
def wsJ3_checkIndex_8e157 : List Cond := .code yJ3_checkIndex_8e157 cJ3_checkIndex_8e157 3 (some .int) :: ([])
def wsJ15_checkIndex_7cf53 : List Cond := .code yJ15_checkIndex_7cf53 cJ15_checkIndex_7cf53 2 (some .int) :: ([.methodLink RJ15 105 yJ3_checkIndex_8e157, .static yJ3_checkIndex_8e157, .initialized RJ3, .code yJ3_checkIndex_8e157 cJ3_checkIndex_8e157 3 (some .int)])
def wsJx4a65c_elementData_915e3 : List Cond := .code yJx4a65c_elementData_915e3 cJx4a65c_elementData_915e3 2 (some (.object "java/lang/Object")) :: ([.fieldLink RJx4a65c 9 "java/util/ArrayList" "elementData" "[Ljava/lang/Object;"] ++ wsJx4a65c0)
def wsJx4a65c_get_915e3 : List Cond := .code yJx4a65c_get_915e3 cJx4a65c_get_915e3 2 (some (.object "java/lang/Object")) :: ([.fieldLink RJx4a65c 48 "java/util/ArrayList" "size" "I", .methodLink RJx4a65c 118 yJ15_checkIndex_7cf53, .static yJ15_checkIndex_7cf53, .initialized RJ15, .code yJ15_checkIndex_7cf53 cJ15_checkIndex_7cf53 2 (some .int), .methodLink RJ15 105 yJ3_checkIndex_8e157, .static yJ3_checkIndex_8e157, .initialized RJ3, .code yJ3_checkIndex_8e157 cJ3_checkIndex_8e157 3 (some .int), .methodLink RJx4a65c 123 yJx4a65c_elementData_915e3, .instanceMethod yJx4a65c_elementData_915e3, .selects RJx4a65c yJx4a65c_elementData_915e3 yJx4a65c_elementData_915e3, .initialized RJx4a65c, .code yJx4a65c_elementData_915e3 cJx4a65c_elementData_915e3 2 (some (.object "java/lang/Object")), .fieldLink RJx4a65c 9 "java/util/ArrayList" "elementData" "[Ljava/lang/Object;"] ++ wsJx4a65c0)
def wsX5_isLikeCheck : List Cond := .code yX5_isLikeCheck cX5_isLikeCheck 4 (some .boolean) :: ([.fieldLink RX5 21 "ServiceGame$Service" "checkKinds" "[I", .fieldLink RX5 24 "ServiceGame$Service" "checkNumbers" "[I"] ++ wsX50)
def wsX2_countLikeChecks_r1 : List Cond := [Cond.fieldLink RX2 21 "ServiceGame$Mail" "size" "I", Cond.fieldLink RX2 9 "ServiceGame$Mail" "places" "[I", Cond.classLink RX2 26 "ServiceGame$Service", Cond.fieldLink RX2 15 "ServiceGame$Mail" "firsts" "[I", Cond.fieldLink RX2 18 "ServiceGame$Mail" "seconds" "[I", Cond.methodLink RX2 33 yJx4a65c_size_8abf5, Cond.instanceMethod yJx4a65c_size_8abf5, Cond.selects RJx4a65c yJx4a65c_size_8abf5 yJx4a65c_size_8abf5, Cond.initialized RJx4a65c, Cond.code yJx4a65c_size_8abf5 cJx4a65c_size_8abf5 1 (some .int), Cond.fieldLink RJx4a65c 48 "java/util/ArrayList" "size" "I", Cond.methodLink RX2 38 yJx4a65c_get_915e3, Cond.instanceMethod yJx4a65c_get_915e3, Cond.selects RJx4a65c yJx4a65c_get_915e3 yJx4a65c_get_915e3, Cond.code yJx4a65c_get_915e3 cJx4a65c_get_915e3 2 (some (.object "java/lang/Object")), Cond.methodLink RJx4a65c 118 yJ15_checkIndex_7cf53, Cond.static yJ15_checkIndex_7cf53, Cond.initialized RJ15, Cond.code yJ15_checkIndex_7cf53 cJ15_checkIndex_7cf53 2 (some .int), Cond.methodLink RJ15 105 yJ3_checkIndex_8e157, Cond.static yJ3_checkIndex_8e157, Cond.initialized RJ3, Cond.code yJ3_checkIndex_8e157 cJ3_checkIndex_8e157 3 (some .int), Cond.methodLink RJx4a65c 123 yJx4a65c_elementData_915e3]
def wsX2_countLikeChecks_r2 : List Cond := [Cond.instanceMethod yJx4a65c_elementData_915e3, Cond.selects RJx4a65c yJx4a65c_elementData_915e3 yJx4a65c_elementData_915e3, Cond.code yJx4a65c_elementData_915e3 cJx4a65c_elementData_915e3 2 (some (.object "java/lang/Object")), Cond.fieldLink RJx4a65c 9 "java/util/ArrayList" "elementData" "[Ljava/lang/Object;", Cond.instanceMethod yX5_isLikeCheck, Cond.initialized RX5, Cond.selects RX5 yX5_isLikeCheck yX5_isLikeCheck, Cond.code yX5_isLikeCheck cX5_isLikeCheck 4 (some .boolean), Cond.fieldLink RX5 21 "ServiceGame$Service" "checkKinds" "[I", Cond.fieldLink RX5 24 "ServiceGame$Service" "checkNumbers" "[I"]
def wsX2_countLikeChecks : List Cond := .code yX2_countLikeChecks cX2_countLikeChecks 4 none :: ((wsX2_countLikeChecks_r1 ++ wsX2_countLikeChecks_r2) ++ wsX20 ++ wsX50 ++ wsJx4a65c0)
def wsX3_init : List Cond := .code yX3_init cX3_init 4 none :: ([.methodLink RX3 1 objectInit, .instanceMethod objectInit, .code objectInit ⟨#[0xb1]⟩ 1 none, .fieldLink RX3 7 "ServiceGame$Program" "size" "I", .arrayClass .int, .fieldLink RX3 13 "ServiceGame$Program" "signs" "[I", .fieldLink RX3 17 "ServiceGame$Program" "numbers" "[I", .methodLink RX3 20 arraycopyName, .native arraycopyName, .static arraycopyName, .initialized "java/lang/System"] ++ wsX30)
def wsX4_init : List Cond := .code yX4_init cX4_init 1 none :: ([.methodLink RX4 3 objectInit, .instanceMethod objectInit, .code objectInit ⟨#[0xb1]⟩ 1 none, .arrayClass .int, .fieldLink RX4 9 "ServiceGame$Reader" "signs" "[I", .fieldLink RX4 15 "ServiceGame$Reader" "numbers" "[I"] ++ wsX40)
def wsX6_at : List Cond := .code yX6_at cX6_at 2 (some .int) :: ([.fieldLink RX6 15 "ServiceGame$Tape" "size" "I", .fieldLink RX6 9 "ServiceGame$Tape" "bytes" "[I"] ++ wsX60)
def wsX4_isDigit : List Cond := .code yX4_isDigit cX4_isDigit 1 (some .boolean) :: ([])
def wsX4_readNumber : List Cond := .code yX4_readNumber cX4_readNumber 5 (some .boolean) :: ([.fieldLink RX4 18 "ServiceGame$Reader" "place" "I", .fieldLink RX4 15 "ServiceGame$Reader" "numbers" "[I", .fieldLink RX4 22 "ServiceGame$Reader" "size" "I", .instanceMethod yX6_at, .initialized RX6, .selects RX6 yX6_at yX6_at, .code yX6_at cX6_at 2 (some .int), .fieldLink RX6 15 "ServiceGame$Tape" "size" "I", .fieldLink RX6 9 "ServiceGame$Tape" "bytes" "[I", .methodLink RX4 47 yX4_isDigit, .static yX4_isDigit, .initialized RX4, .code yX4_isDigit cX4_isDigit 1 (some .boolean)] ++ wsX40 ++ wsX60)
def wsX4_readCell : List Cond := .code yX4_readCell cX4_readCell 3 (some .boolean) :: ([.fieldLink RX4 18 "ServiceGame$Reader" "place" "I", .fieldLink RX4 15 "ServiceGame$Reader" "numbers" "[I", .fieldLink RX4 22 "ServiceGame$Reader" "size" "I", .instanceMethod yX6_at, .initialized RX6, .selects RX6 yX6_at yX6_at, .code yX6_at cX6_at 2 (some .int), .fieldLink RX6 15 "ServiceGame$Tape" "size" "I", .fieldLink RX6 9 "ServiceGame$Tape" "bytes" "[I"] ++ wsX40 ++ wsX60)
def wsX4_readStep : List Cond := .code yX4_readStep cX4_readStep 3 (some .boolean) :: ([.fieldLink RX4 18 "ServiceGame$Reader" "place" "I", .fieldLink RX4 9 "ServiceGame$Reader" "signs" "[I", .fieldLink RX4 22 "ServiceGame$Reader" "size" "I", .fieldLink RX4 15 "ServiceGame$Reader" "numbers" "[I", .instanceMethod yX6_at, .initialized RX6, .selects RX6 yX6_at yX6_at, .code yX6_at cX6_at 2 (some .int), .fieldLink RX6 15 "ServiceGame$Tape" "size" "I", .fieldLink RX6 9 "ServiceGame$Tape" "bytes" "[I", .methodLink RX4 40 yX4_readNumber, .instanceMethod yX4_readNumber, .selects RX4 yX4_readNumber yX4_readNumber, .initialized RX4, .code yX4_readNumber cX4_readNumber 5 (some .boolean), .methodLink RX4 47 yX4_isDigit, .static yX4_isDigit, .code yX4_isDigit cX4_isDigit 1 (some .boolean), .methodLink RX4 44 yX4_readCell, .instanceMethod yX4_readCell, .selects RX4 yX4_readCell yX4_readCell, .code yX4_readCell cX4_readCell 3 (some .boolean)] ++ wsX40 ++ wsX60)
def wsX4_lostStep : List Cond := .code yX4_lostStep cX4_lostStep 3 (some .int) :: ([.fieldLink RX4 22 "ServiceGame$Reader" "size" "I", .fieldLink RX4 9 "ServiceGame$Reader" "signs" "[I", .fieldLink RX4 15 "ServiceGame$Reader" "numbers" "[I"] ++ wsX40)
def wsX4_read_r1 : List Cond := [Cond.fieldLink RX4 18 "ServiceGame$Reader" "place" "I", Cond.fieldLink RX4 22 "ServiceGame$Reader" "size" "I", Cond.methodLink RX4 25 yX4_readStep, Cond.instanceMethod yX4_readStep, Cond.selects RX4 yX4_readStep yX4_readStep, Cond.initialized RX4, Cond.code yX4_readStep cX4_readStep 3 (some .boolean), Cond.fieldLink RX4 9 "ServiceGame$Reader" "signs" "[I", Cond.fieldLink RX4 15 "ServiceGame$Reader" "numbers" "[I", Cond.instanceMethod yX6_at, Cond.initialized RX6, Cond.selects RX6 yX6_at yX6_at, Cond.code yX6_at cX6_at 2 (some .int), Cond.fieldLink RX6 15 "ServiceGame$Tape" "size" "I", Cond.fieldLink RX6 9 "ServiceGame$Tape" "bytes" "[I", Cond.methodLink RX4 40 yX4_readNumber, Cond.instanceMethod yX4_readNumber, Cond.selects RX4 yX4_readNumber yX4_readNumber, Cond.code yX4_readNumber cX4_readNumber 5 (some .boolean), Cond.methodLink RX4 47 yX4_isDigit, Cond.static yX4_isDigit, Cond.code yX4_isDigit cX4_isDigit 1 (some .boolean), Cond.methodLink RX4 44 yX4_readCell, Cond.instanceMethod yX4_readCell]
def wsX4_read_r2 : List Cond := [Cond.selects RX4 yX4_readCell yX4_readCell, Cond.code yX4_readCell cX4_readCell 3 (some .boolean), Cond.methodLink RX4 36 yX4_lostStep, Cond.instanceMethod yX4_lostStep, Cond.selects RX4 yX4_lostStep yX4_lostStep, Cond.code yX4_lostStep cX4_lostStep 3 (some .int)]
def wsX4_read : List Cond := .code yX4_read cX4_read 3 (some .int) :: ((wsX4_read_r1 ++ wsX4_read_r2) ++ wsX40 ++ wsX60)
def wsX4_program : List Cond := .code yX4_program cX4_program 1 (some (.object "ServiceGame$Program")) :: ([.classLink RX4 51 RX3, .instantiable RX3 3, .initialized RX3, .fieldLink RX4 9 "ServiceGame$Reader" "signs" "[I", .fieldLink RX4 15 "ServiceGame$Reader" "numbers" "[I", .fieldLink RX4 22 "ServiceGame$Reader" "size" "I", .instanceMethod yX3_init, .code yX3_init cX3_init 4 none, .methodLink RX3 1 objectInit, .instanceMethod objectInit, .code objectInit ⟨#[0xb1]⟩ 1 none, .fieldLink RX3 7 "ServiceGame$Program" "size" "I", .arrayClass .int, .fieldLink RX3 13 "ServiceGame$Program" "signs" "[I", .fieldLink RX3 17 "ServiceGame$Program" "numbers" "[I", .methodLink RX3 20 arraycopyName, .native arraycopyName, .static arraycopyName, .initialized "java/lang/System"] ++ wsX30 ++ wsX40)
def wsX5_init : List Cond := .code yX5_init cX5_init 3 none :: ([.methodLink RX5 3 objectInit, .instanceMethod objectInit, .code objectInit ⟨#[0xb1]⟩ 1 none, .arrayClass .int, .fieldLink RX5 9 "ServiceGame$Service" "cells" "[I", .fieldLink RX5 15 "ServiceGame$Service" "upAhead" "[I", .fieldLink RX5 18 "ServiceGame$Service" "takenAfter" "[I", .fieldLink RX5 21 "ServiceGame$Service" "checkKinds" "[I", .fieldLink RX5 24 "ServiceGame$Service" "checkNumbers" "[I", .fieldLink RX5 27 "ServiceGame$Service" "checkAnswers" "[I", .fieldLink RX5 30 "ServiceGame$Service" "checkRights" "[I", .fieldLink RX5 33 "ServiceGame$Service" "team" "I", .fieldLink RX5 37 "ServiceGame$Service" "number" "I"] ++ wsX50)
def wsX5_takePatch : List Cond := .code yX5_takePatch cX5_takePatch 1 none :: ([.fieldLink RX5 40 "ServiceGame$Service" "patch" "LServiceGame$Program;", .fieldLink RX5 44 "ServiceGame$Service" "program" "LServiceGame$Program;"] ++ wsX50)
def wsX5_keepCheck : List Cond := .code yX5_keepCheck cX5_keepCheck 6 none :: ([.fieldLink RX5 21 "ServiceGame$Service" "checkKinds" "[I", .fieldLink RX5 24 "ServiceGame$Service" "checkNumbers" "[I", .fieldLink RX5 27 "ServiceGame$Service" "checkAnswers" "[I", .fieldLink RX5 30 "ServiceGame$Service" "checkRights" "[I"] ++ wsX50)
def wsX5_take : List Cond := .code yX5_take cX5_take 4 none :: ([.fieldLink RX5 18 "ServiceGame$Service" "takenAfter" "[I"] ++ wsX50)
def wsX5_isTaken : List Cond := .code yX5_isTaken cX5_isTaken 5 (some .boolean) :: ([.fieldLink RX5 18 "ServiceGame$Service" "takenAfter" "[I"] ++ wsX50)
def wsX5_takers : List Cond := .code yX5_takers cX5_takers 5 (some .int) :: ([.methodLink RX5 47 yX5_isTaken, .instanceMethod yX5_isTaken, .selects RX5 yX5_isTaken yX5_isTaken, .initialized RX5, .code yX5_isTaken cX5_isTaken 5 (some .boolean), .fieldLink RX5 18 "ServiceGame$Service" "takenAfter" "[I"] ++ wsX50)
def wsX6_init : List Cond := .code yX6_init cX6_init 1 none :: ([.methodLink RX6 3 objectInit, .instanceMethod objectInit, .code objectInit ⟨#[0xb1]⟩ 1 none, .arrayClass .int, .fieldLink RX6 9 "ServiceGame$Tape" "bytes" "[I"] ++ wsX60)
def wsX6_append : List Cond := .code yX6_append cX6_append 5 none :: ([.fieldLink RX6 9 "ServiceGame$Tape" "bytes" "[I", .fieldLink RX6 15 "ServiceGame$Tape" "size" "I", .constantLong RX6 19 (255)] ++ wsX60)
def wsJxa1e45_init_da8c8 : List Cond := .code yJxa1e45_init_da8c8 cJxa1e45_init_da8c8 1 none :: ([.methodLink RJxa1e45 1 objectInit, .instanceMethod objectInit, .code objectInit ⟨#[0xb1]⟩ 1 none])
def wsJxc12de_init_da8c8 : List Cond := .code yJxc12de_init_da8c8 cJxc12de_init_da8c8 1 none :: ([.fieldLink RJxc12de 7 "java/util/AbstractList" "modCount" "I", .methodLink RJxc12de 1 yJxa1e45_init_da8c8, .instanceMethod yJxa1e45_init_da8c8, .initialized RJxa1e45, .code yJxa1e45_init_da8c8 cJxa1e45_init_da8c8 1 none, .methodLink RJxa1e45 1 objectInit, .instanceMethod objectInit, .code objectInit ⟨#[0xb1]⟩ 1 none] ++ wsJx4a65c0)
def wsJx4a65c_init_da8c8 : List Cond := .code yJx4a65c_init_da8c8 cJx4a65c_init_da8c8 1 none :: ([.fieldLink RJx4a65c 39 "java/util/ArrayList" "DEFAULTCAPACITY_EMPTY_ELEMENTDATA" "[Ljava/lang/Object;", .fieldLink RJx4a65c 9 "java/util/ArrayList" "elementData" "[Ljava/lang/Object;", .methodLink RJx4a65c 1 yJxc12de_init_da8c8, .instanceMethod yJxc12de_init_da8c8, .initialized RJxc12de, .code yJxc12de_init_da8c8 cJxc12de_init_da8c8 1 none, .fieldLink RJxc12de 7 "java/util/AbstractList" "modCount" "I", .methodLink RJxc12de 1 yJxa1e45_init_da8c8, .instanceMethod yJxa1e45_init_da8c8, .initialized RJxa1e45, .code yJxa1e45_init_da8c8 cJxa1e45_init_da8c8 1 none, .methodLink RJxa1e45 1 objectInit, .instanceMethod objectInit, .code objectInit ⟨#[0xb1]⟩ 1 none] ++ wsJx4a65c0)
def wsX7_init_r1 : List Cond := [Cond.methodLink RX7 1 objectInit, Cond.instanceMethod objectInit, Cond.code objectInit ⟨#[0xb1]⟩ 1 none, Cond.arrayClass .int, Cond.fieldLink RX7 7 "ServiceGame" "settings" "[I", Cond.classLink RX7 13 RJx4a65c, Cond.instantiable RJx4a65c 3, Cond.initialized RJx4a65c, Cond.fieldLink RX7 16 "ServiceGame" "services" "Ljava/util/ArrayList;", Cond.fieldLink RX7 20 "ServiceGame" "log" "Ljava/util/ArrayList;", Cond.classLink RX7 23 RX6, Cond.instantiable RX6 2, Cond.initialized RX6, Cond.fieldLink RX7 26 "ServiceGame" "tape" "LServiceGame$Tape;", Cond.classLink RX7 30 RX4, Cond.instantiable RX4 4, Cond.initialized RX4, Cond.fieldLink RX7 33 "ServiceGame" "reader" "LServiceGame$Reader;", Cond.classLink RX7 37 RX1, Cond.instantiable RX1 6, Cond.initialized RX1, Cond.fieldLink RX7 40 "ServiceGame" "machine" "LServiceGame$Machine;", Cond.classLink RX7 44 RX2, Cond.instantiable RX2 4]
def wsX7_init_r2 : List Cond := [Cond.initialized RX2, Cond.fieldLink RX7 47 "ServiceGame" "mail" "LServiceGame$Mail;", Cond.fieldLink RX7 51 "ServiceGame" "boardPoints" "[I", Cond.methodLink RX7 15 yJx4a65c_init_da8c8, Cond.instanceMethod yJx4a65c_init_da8c8, Cond.code yJx4a65c_init_da8c8 cJx4a65c_init_da8c8 1 none, Cond.fieldLink RJx4a65c 39 "java/util/ArrayList" "DEFAULTCAPACITY_EMPTY_ELEMENTDATA" "[Ljava/lang/Object;", Cond.fieldLink RJx4a65c 9 "java/util/ArrayList" "elementData" "[Ljava/lang/Object;", Cond.methodLink RJx4a65c 1 yJxc12de_init_da8c8, Cond.instanceMethod yJxc12de_init_da8c8, Cond.initialized RJxc12de, Cond.code yJxc12de_init_da8c8 cJxc12de_init_da8c8 1 none, Cond.fieldLink RJxc12de 7 "java/util/AbstractList" "modCount" "I", Cond.methodLink RJxc12de 1 yJxa1e45_init_da8c8, Cond.instanceMethod yJxa1e45_init_da8c8, Cond.initialized RJxa1e45, Cond.code yJxa1e45_init_da8c8 cJxa1e45_init_da8c8 1 none, Cond.methodLink RJxa1e45 1 objectInit, Cond.instanceMethod yX6_init, Cond.code yX6_init cX6_init 1 none, Cond.methodLink RX6 3 objectInit, Cond.fieldLink RX6 9 "ServiceGame$Tape" "bytes" "[I", Cond.instanceMethod yX4_init, Cond.code yX4_init cX4_init 1 none]
def wsX7_init_r3 : List Cond := [Cond.methodLink RX4 3 objectInit, Cond.fieldLink RX4 9 "ServiceGame$Reader" "signs" "[I", Cond.fieldLink RX4 15 "ServiceGame$Reader" "numbers" "[I", Cond.instanceMethod yX1_init, Cond.code yX1_init cX1_init 1 none, Cond.methodLink RX1 3 objectInit, Cond.fieldLink RX1 9 "ServiceGame$Machine" "pile" "[I", Cond.fieldLink RX1 15 "ServiceGame$Machine" "cellsAhead" "[I", Cond.instanceMethod yX2_init, Cond.code yX2_init cX2_init 1 none, Cond.methodLink RX2 3 objectInit, Cond.fieldLink RX2 9 "ServiceGame$Mail" "places" "[I", Cond.fieldLink RX2 15 "ServiceGame$Mail" "firsts" "[I", Cond.fieldLink RX2 18 "ServiceGame$Mail" "seconds" "[I"]
def wsX7_init : List Cond := .code yX7_init cX7_init 1 none :: ((wsX7_init_r1 ++ (wsX7_init_r2 ++ wsX7_init_r3)) ++ wsX70 ++ wsJx4a65c0 ++ wsX60 ++ wsX40 ++ wsX10 ++ wsX20)
def wsX7_teams : List Cond := .code yX7_teams cX7_teams 1 (some .int) :: ([.fieldLink RX7 16 "ServiceGame" "services" "Ljava/util/ArrayList;", .methodLink RX7 140 yJx4a65c_size_8abf5, .instanceMethod yJx4a65c_size_8abf5, .selects RJx4a65c yJx4a65c_size_8abf5 yJx4a65c_size_8abf5, .initialized RJx4a65c, .code yJx4a65c_size_8abf5 cJx4a65c_size_8abf5 1 (some .int), .fieldLink RJx4a65c 48 "java/util/ArrayList" "size" "I"] ++ wsX70 ++ wsJx4a65c0)
def wsJ8_hugeLength_7cf53 : List Cond := .code yJ8_hugeLength_7cf53 cJ8_hugeLength_7cf53 3 (some .int) :: ([.constant RJ8 200 (2147483639)])
def wsJ8_newLength_cabcc : List Cond := .code yJ8_newLength_cabcc cJ8_newLength_cabcc 4 (some .int) :: ([.methodLink RJ8 194 Lib.Math.max.name, .static Lib.Math.max.name, .initialized "java/lang/Math", .code Lib.Math.max.name Lib.Math.max.code 2 (some .int), .constant RJ8 200 (2147483639), .methodLink RJ8 201 yJ8_hugeLength_7cf53, .static yJ8_hugeLength_7cf53, .initialized RJ8, .code yJ8_hugeLength_7cf53 cJ8_hugeLength_7cf53 3 (some .int)])
def wsJ7_copyOf_6403c : List Cond := .code yJ7_copyOf_6403c cJ7_copyOf_6403c 4 (some (.array (.object "java/lang/Object"))) :: ([.classLink RJ7 110 "[Ljava/lang/Object;", .classLink RJ7 2 "java/lang/Object", .methodLink RJ7 304 Lib.Math.min.name, .static Lib.Math.min.name, .initialized "java/lang/Math", .code Lib.Math.min.name Lib.Math.min.code 2 (some .int), .methodLink RJ7 150 arraycopyName, .native arraycopyName, .static arraycopyName, .initialized "java/lang/System"])
def wsJ7_copyOf_1904c : List Cond := .code yJ7_copyOf_1904c cJ7_copyOf_1904c 2 (some (.array (.object "java/lang/Object"))) :: ([.methodLink RJ7 86 ⟨"java/lang/Object", "getClass", "()Ljava/lang/Class;"⟩, .selects "[Ljava/lang/Object;" ⟨"java/lang/Object", "getClass", "()Ljava/lang/Class;"⟩ ⟨"java/lang/Object", "getClass", "()Ljava/lang/Class;"⟩, .instanceMethod ⟨"java/lang/Object", "getClass", "()Ljava/lang/Class;"⟩, .native ⟨"java/lang/Object", "getClass", "()Ljava/lang/Class;"⟩, .methodLink RJ7 300 yJ7_copyOf_6403c, .static yJ7_copyOf_6403c, .initialized RJ7, .code yJ7_copyOf_6403c cJ7_copyOf_6403c 4 (some (.array (.object "java/lang/Object"))), .classLink RJ7 110 "[Ljava/lang/Object;", .classLink RJ7 2 "java/lang/Object", .methodLink RJ7 304 Lib.Math.min.name, .static Lib.Math.min.name, .initialized "java/lang/Math", .code Lib.Math.min.name Lib.Math.min.code 2 (some .int), .methodLink RJ7 150 arraycopyName, .native arraycopyName, .static arraycopyName, .initialized "java/lang/System"])
def wsJx4a65c_grow_92f84_r1 : List Cond := [Cond.fieldLink RJx4a65c 9 "java/util/ArrayList" "elementData" "[Ljava/lang/Object;", Cond.fieldLink RJx4a65c 39 "java/util/ArrayList" "DEFAULTCAPACITY_EMPTY_ELEMENTDATA" "[Ljava/lang/Object;", Cond.methodLink RJx4a65c 79 Lib.Math.max.name, Cond.static Lib.Math.max.name, Cond.initialized "java/lang/Math", Cond.code Lib.Math.max.name Lib.Math.max.code 2 (some .int), Cond.classLink RJx4a65c 7 "java/lang/Object", Cond.methodLink RJx4a65c 73 yJ8_newLength_cabcc, Cond.static yJ8_newLength_cabcc, Cond.initialized RJ8, Cond.code yJ8_newLength_cabcc cJ8_newLength_cabcc 4 (some .int), Cond.methodLink RJ8 194 Lib.Math.max.name, Cond.constant RJ8 200 (2147483639), Cond.methodLink RJ8 201 yJ8_hugeLength_7cf53, Cond.static yJ8_hugeLength_7cf53, Cond.code yJ8_hugeLength_7cf53 cJ8_hugeLength_7cf53 3 (some .int), Cond.methodLink RJx4a65c 66 yJ7_copyOf_1904c, Cond.static yJ7_copyOf_1904c, Cond.initialized RJ7, Cond.code yJ7_copyOf_1904c cJ7_copyOf_1904c 2 (some (.array (.object "java/lang/Object"))), Cond.methodLink RJ7 86 ⟨"java/lang/Object", "getClass", "()Ljava/lang/Class;"⟩, Cond.selects "[Ljava/lang/Object;" ⟨"java/lang/Object", "getClass", "()Ljava/lang/Class;"⟩ ⟨"java/lang/Object", "getClass", "()Ljava/lang/Class;"⟩, Cond.instanceMethod ⟨"java/lang/Object", "getClass", "()Ljava/lang/Class;"⟩, Cond.native ⟨"java/lang/Object", "getClass", "()Ljava/lang/Class;"⟩]
def wsJx4a65c_grow_92f84_r2 : List Cond := [Cond.methodLink RJ7 300 yJ7_copyOf_6403c, Cond.static yJ7_copyOf_6403c, Cond.code yJ7_copyOf_6403c cJ7_copyOf_6403c 4 (some (.array (.object "java/lang/Object"))), Cond.classLink RJ7 110 "[Ljava/lang/Object;", Cond.classLink RJ7 2 "java/lang/Object", Cond.methodLink RJ7 304 Lib.Math.min.name, Cond.static Lib.Math.min.name, Cond.code Lib.Math.min.name Lib.Math.min.code 2 (some .int), Cond.methodLink RJ7 150 arraycopyName, Cond.native arraycopyName, Cond.static arraycopyName, Cond.initialized "java/lang/System"]
def wsJx4a65c_grow_92f84 : List Cond := .code yJx4a65c_grow_92f84 cJx4a65c_grow_92f84 4 (some (.array (.object "java/lang/Object"))) :: ((wsJx4a65c_grow_92f84_r1 ++ wsJx4a65c_grow_92f84_r2) ++ wsJx4a65c0)
def wsJx4a65c_grow_d5877_r1 : List Cond := [Cond.fieldLink RJx4a65c 48 "java/util/ArrayList" "size" "I", Cond.methodLink RJx4a65c 69 yJx4a65c_grow_92f84, Cond.instanceMethod yJx4a65c_grow_92f84, Cond.selects RJx4a65c yJx4a65c_grow_92f84 yJx4a65c_grow_92f84, Cond.initialized RJx4a65c, Cond.code yJx4a65c_grow_92f84 cJx4a65c_grow_92f84 4 (some (.array (.object "java/lang/Object"))), Cond.fieldLink RJx4a65c 9 "java/util/ArrayList" "elementData" "[Ljava/lang/Object;", Cond.fieldLink RJx4a65c 39 "java/util/ArrayList" "DEFAULTCAPACITY_EMPTY_ELEMENTDATA" "[Ljava/lang/Object;", Cond.methodLink RJx4a65c 79 Lib.Math.max.name, Cond.static Lib.Math.max.name, Cond.initialized "java/lang/Math", Cond.code Lib.Math.max.name Lib.Math.max.code 2 (some .int), Cond.classLink RJx4a65c 7 "java/lang/Object", Cond.methodLink RJx4a65c 73 yJ8_newLength_cabcc, Cond.static yJ8_newLength_cabcc, Cond.initialized RJ8, Cond.code yJ8_newLength_cabcc cJ8_newLength_cabcc 4 (some .int), Cond.methodLink RJ8 194 Lib.Math.max.name, Cond.constant RJ8 200 (2147483639), Cond.methodLink RJ8 201 yJ8_hugeLength_7cf53, Cond.static yJ8_hugeLength_7cf53, Cond.code yJ8_hugeLength_7cf53 cJ8_hugeLength_7cf53 3 (some .int), Cond.methodLink RJx4a65c 66 yJ7_copyOf_1904c, Cond.static yJ7_copyOf_1904c]
def wsJx4a65c_grow_d5877_r2 : List Cond := [Cond.initialized RJ7, Cond.code yJ7_copyOf_1904c cJ7_copyOf_1904c 2 (some (.array (.object "java/lang/Object"))), Cond.methodLink RJ7 86 ⟨"java/lang/Object", "getClass", "()Ljava/lang/Class;"⟩, Cond.selects "[Ljava/lang/Object;" ⟨"java/lang/Object", "getClass", "()Ljava/lang/Class;"⟩ ⟨"java/lang/Object", "getClass", "()Ljava/lang/Class;"⟩, Cond.instanceMethod ⟨"java/lang/Object", "getClass", "()Ljava/lang/Class;"⟩, Cond.native ⟨"java/lang/Object", "getClass", "()Ljava/lang/Class;"⟩, Cond.methodLink RJ7 300 yJ7_copyOf_6403c, Cond.static yJ7_copyOf_6403c, Cond.code yJ7_copyOf_6403c cJ7_copyOf_6403c 4 (some (.array (.object "java/lang/Object"))), Cond.classLink RJ7 110 "[Ljava/lang/Object;", Cond.classLink RJ7 2 "java/lang/Object", Cond.methodLink RJ7 304 Lib.Math.min.name, Cond.static Lib.Math.min.name, Cond.code Lib.Math.min.name Lib.Math.min.code 2 (some .int), Cond.methodLink RJ7 150 arraycopyName, Cond.native arraycopyName, Cond.static arraycopyName, Cond.initialized "java/lang/System"]
def wsJx4a65c_grow_d5877 : List Cond := .code yJx4a65c_grow_d5877 cJx4a65c_grow_d5877 1 (some (.array (.object "java/lang/Object"))) :: ((wsJx4a65c_grow_d5877_r1 ++ wsJx4a65c_grow_d5877_r2) ++ wsJx4a65c0)
def wsJx4a65c_add_72be8_r1 : List Cond := [Cond.fieldLink RJx4a65c 48 "java/util/ArrayList" "size" "I", Cond.methodLink RJx4a65c 129 yJx4a65c_grow_d5877, Cond.instanceMethod yJx4a65c_grow_d5877, Cond.selects RJx4a65c yJx4a65c_grow_d5877 yJx4a65c_grow_d5877, Cond.initialized RJx4a65c, Cond.code yJx4a65c_grow_d5877 cJx4a65c_grow_d5877 1 (some (.array (.object "java/lang/Object"))), Cond.methodLink RJx4a65c 69 yJx4a65c_grow_92f84, Cond.instanceMethod yJx4a65c_grow_92f84, Cond.selects RJx4a65c yJx4a65c_grow_92f84 yJx4a65c_grow_92f84, Cond.code yJx4a65c_grow_92f84 cJx4a65c_grow_92f84 4 (some (.array (.object "java/lang/Object"))), Cond.fieldLink RJx4a65c 9 "java/util/ArrayList" "elementData" "[Ljava/lang/Object;", Cond.fieldLink RJx4a65c 39 "java/util/ArrayList" "DEFAULTCAPACITY_EMPTY_ELEMENTDATA" "[Ljava/lang/Object;", Cond.methodLink RJx4a65c 79 Lib.Math.max.name, Cond.static Lib.Math.max.name, Cond.initialized "java/lang/Math", Cond.code Lib.Math.max.name Lib.Math.max.code 2 (some .int), Cond.classLink RJx4a65c 7 "java/lang/Object", Cond.methodLink RJx4a65c 73 yJ8_newLength_cabcc, Cond.static yJ8_newLength_cabcc, Cond.initialized RJ8, Cond.code yJ8_newLength_cabcc cJ8_newLength_cabcc 4 (some .int), Cond.methodLink RJ8 194 Lib.Math.max.name, Cond.constant RJ8 200 (2147483639), Cond.methodLink RJ8 201 yJ8_hugeLength_7cf53]
def wsJx4a65c_add_72be8_r2 : List Cond := [Cond.static yJ8_hugeLength_7cf53, Cond.code yJ8_hugeLength_7cf53 cJ8_hugeLength_7cf53 3 (some .int), Cond.methodLink RJx4a65c 66 yJ7_copyOf_1904c, Cond.static yJ7_copyOf_1904c, Cond.initialized RJ7, Cond.code yJ7_copyOf_1904c cJ7_copyOf_1904c 2 (some (.array (.object "java/lang/Object"))), Cond.methodLink RJ7 86 ⟨"java/lang/Object", "getClass", "()Ljava/lang/Class;"⟩, Cond.selects "[Ljava/lang/Object;" ⟨"java/lang/Object", "getClass", "()Ljava/lang/Class;"⟩ ⟨"java/lang/Object", "getClass", "()Ljava/lang/Class;"⟩, Cond.instanceMethod ⟨"java/lang/Object", "getClass", "()Ljava/lang/Class;"⟩, Cond.native ⟨"java/lang/Object", "getClass", "()Ljava/lang/Class;"⟩, Cond.methodLink RJ7 300 yJ7_copyOf_6403c, Cond.static yJ7_copyOf_6403c, Cond.code yJ7_copyOf_6403c cJ7_copyOf_6403c 4 (some (.array (.object "java/lang/Object"))), Cond.classLink RJ7 110 "[Ljava/lang/Object;", Cond.classLink RJ7 2 "java/lang/Object", Cond.methodLink RJ7 304 Lib.Math.min.name, Cond.static Lib.Math.min.name, Cond.code Lib.Math.min.name Lib.Math.min.code 2 (some .int), Cond.methodLink RJ7 150 arraycopyName, Cond.native arraycopyName, Cond.static arraycopyName, Cond.initialized "java/lang/System"]
def wsJx4a65c_add_72be8 : List Cond := .code yJx4a65c_add_72be8 cJx4a65c_add_72be8 4 none :: ((wsJx4a65c_add_72be8_r1 ++ wsJx4a65c_add_72be8_r2) ++ wsJx4a65c0)
def wsJx4a65c_add_9ea2d_r1 : List Cond := [Cond.fieldLink RJx4a65c 63 "java/util/ArrayList" "modCount" "I", Cond.sameField "java/util/ArrayList" "java/util/AbstractList" "modCount" "I", Cond.fieldLink RJx4a65c 9 "java/util/ArrayList" "elementData" "[Ljava/lang/Object;", Cond.fieldLink RJx4a65c 48 "java/util/ArrayList" "size" "I", Cond.methodLink RJx4a65c 131 yJx4a65c_add_72be8, Cond.instanceMethod yJx4a65c_add_72be8, Cond.selects RJx4a65c yJx4a65c_add_72be8 yJx4a65c_add_72be8, Cond.initialized RJx4a65c, Cond.code yJx4a65c_add_72be8 cJx4a65c_add_72be8 4 none, Cond.methodLink RJx4a65c 129 yJx4a65c_grow_d5877, Cond.instanceMethod yJx4a65c_grow_d5877, Cond.selects RJx4a65c yJx4a65c_grow_d5877 yJx4a65c_grow_d5877, Cond.code yJx4a65c_grow_d5877 cJx4a65c_grow_d5877 1 (some (.array (.object "java/lang/Object"))), Cond.methodLink RJx4a65c 69 yJx4a65c_grow_92f84, Cond.instanceMethod yJx4a65c_grow_92f84, Cond.selects RJx4a65c yJx4a65c_grow_92f84 yJx4a65c_grow_92f84, Cond.code yJx4a65c_grow_92f84 cJx4a65c_grow_92f84 4 (some (.array (.object "java/lang/Object"))), Cond.fieldLink RJx4a65c 39 "java/util/ArrayList" "DEFAULTCAPACITY_EMPTY_ELEMENTDATA" "[Ljava/lang/Object;", Cond.methodLink RJx4a65c 79 Lib.Math.max.name, Cond.static Lib.Math.max.name, Cond.initialized "java/lang/Math", Cond.code Lib.Math.max.name Lib.Math.max.code 2 (some .int), Cond.classLink RJx4a65c 7 "java/lang/Object", Cond.methodLink RJx4a65c 73 yJ8_newLength_cabcc]
def wsJx4a65c_add_9ea2d_r2 : List Cond := [Cond.static yJ8_newLength_cabcc, Cond.initialized RJ8, Cond.code yJ8_newLength_cabcc cJ8_newLength_cabcc 4 (some .int), Cond.methodLink RJ8 194 Lib.Math.max.name, Cond.constant RJ8 200 (2147483639), Cond.methodLink RJ8 201 yJ8_hugeLength_7cf53, Cond.static yJ8_hugeLength_7cf53, Cond.code yJ8_hugeLength_7cf53 cJ8_hugeLength_7cf53 3 (some .int), Cond.methodLink RJx4a65c 66 yJ7_copyOf_1904c, Cond.static yJ7_copyOf_1904c, Cond.initialized RJ7, Cond.code yJ7_copyOf_1904c cJ7_copyOf_1904c 2 (some (.array (.object "java/lang/Object"))), Cond.methodLink RJ7 86 ⟨"java/lang/Object", "getClass", "()Ljava/lang/Class;"⟩, Cond.selects "[Ljava/lang/Object;" ⟨"java/lang/Object", "getClass", "()Ljava/lang/Class;"⟩ ⟨"java/lang/Object", "getClass", "()Ljava/lang/Class;"⟩, Cond.instanceMethod ⟨"java/lang/Object", "getClass", "()Ljava/lang/Class;"⟩, Cond.native ⟨"java/lang/Object", "getClass", "()Ljava/lang/Class;"⟩, Cond.methodLink RJ7 300 yJ7_copyOf_6403c, Cond.static yJ7_copyOf_6403c, Cond.code yJ7_copyOf_6403c cJ7_copyOf_6403c 4 (some (.array (.object "java/lang/Object"))), Cond.classLink RJ7 110 "[Ljava/lang/Object;", Cond.classLink RJ7 2 "java/lang/Object", Cond.methodLink RJ7 304 Lib.Math.min.name, Cond.static Lib.Math.min.name, Cond.code Lib.Math.min.name Lib.Math.min.code 2 (some .int)]
def wsJx4a65c_add_9ea2d_r3 : List Cond := [Cond.methodLink RJ7 150 arraycopyName, Cond.native arraycopyName, Cond.static arraycopyName, Cond.initialized "java/lang/System"]
def wsJx4a65c_add_9ea2d : List Cond := .code yJx4a65c_add_9ea2d cJx4a65c_add_9ea2d 2 (some .boolean) :: ((wsJx4a65c_add_9ea2d_r1 ++ (wsJx4a65c_add_9ea2d_r2 ++ wsJx4a65c_add_9ea2d_r3)) ++ wsJx4a65c0)
def wsX7_team_r1 : List Cond := [Cond.fieldLink RX7 54 "ServiceGame" "rounds" "I", Cond.fieldLink RX7 16 "ServiceGame" "services" "Ljava/util/ArrayList;", Cond.classLink RX7 62 RX5, Cond.instantiable RX5 14, Cond.initialized RX5, Cond.methodLink RX7 58 yX7_teams, Cond.instanceMethod yX7_teams, Cond.selects RX7 yX7_teams yX7_teams, Cond.initialized RX7, Cond.code yX7_teams cX7_teams 1 (some .int), Cond.methodLink RX7 140 yJx4a65c_size_8abf5, Cond.instanceMethod yJx4a65c_size_8abf5, Cond.selects RJx4a65c yJx4a65c_size_8abf5 yJx4a65c_size_8abf5, Cond.initialized RJx4a65c, Cond.code yJx4a65c_size_8abf5 cJx4a65c_size_8abf5 1 (some .int), Cond.fieldLink RJx4a65c 48 "java/util/ArrayList" "size" "I", Cond.instanceMethod yX5_init, Cond.code yX5_init cX5_init 3 none, Cond.methodLink RX5 3 objectInit, Cond.instanceMethod objectInit, Cond.code objectInit ⟨#[0xb1]⟩ 1 none, Cond.arrayClass .int, Cond.fieldLink RX5 9 "ServiceGame$Service" "cells" "[I", Cond.fieldLink RX5 15 "ServiceGame$Service" "upAhead" "[I"]
def wsX7_team_r2 : List Cond := [Cond.fieldLink RX5 18 "ServiceGame$Service" "takenAfter" "[I", Cond.fieldLink RX5 21 "ServiceGame$Service" "checkKinds" "[I", Cond.fieldLink RX5 24 "ServiceGame$Service" "checkNumbers" "[I", Cond.fieldLink RX5 27 "ServiceGame$Service" "checkAnswers" "[I", Cond.fieldLink RX5 30 "ServiceGame$Service" "checkRights" "[I", Cond.fieldLink RX5 33 "ServiceGame$Service" "team" "I", Cond.fieldLink RX5 37 "ServiceGame$Service" "number" "I", Cond.methodLink RX7 67 yJx4a65c_add_9ea2d, Cond.instanceMethod yJx4a65c_add_9ea2d, Cond.selects RJx4a65c yJx4a65c_add_9ea2d yJx4a65c_add_9ea2d, Cond.code yJx4a65c_add_9ea2d cJx4a65c_add_9ea2d 2 (some .boolean), Cond.fieldLink RJx4a65c 63 "java/util/ArrayList" "modCount" "I", Cond.sameField "java/util/ArrayList" "java/util/AbstractList" "modCount" "I", Cond.fieldLink RJx4a65c 9 "java/util/ArrayList" "elementData" "[Ljava/lang/Object;", Cond.methodLink RJx4a65c 131 yJx4a65c_add_72be8, Cond.instanceMethod yJx4a65c_add_72be8, Cond.selects RJx4a65c yJx4a65c_add_72be8 yJx4a65c_add_72be8, Cond.code yJx4a65c_add_72be8 cJx4a65c_add_72be8 4 none, Cond.methodLink RJx4a65c 129 yJx4a65c_grow_d5877, Cond.instanceMethod yJx4a65c_grow_d5877, Cond.selects RJx4a65c yJx4a65c_grow_d5877 yJx4a65c_grow_d5877, Cond.code yJx4a65c_grow_d5877 cJx4a65c_grow_d5877 1 (some (.array (.object "java/lang/Object"))), Cond.methodLink RJx4a65c 69 yJx4a65c_grow_92f84, Cond.instanceMethod yJx4a65c_grow_92f84]
def wsX7_team_r3 : List Cond := [Cond.selects RJx4a65c yJx4a65c_grow_92f84 yJx4a65c_grow_92f84, Cond.code yJx4a65c_grow_92f84 cJx4a65c_grow_92f84 4 (some (.array (.object "java/lang/Object"))), Cond.fieldLink RJx4a65c 39 "java/util/ArrayList" "DEFAULTCAPACITY_EMPTY_ELEMENTDATA" "[Ljava/lang/Object;", Cond.methodLink RJx4a65c 79 Lib.Math.max.name, Cond.static Lib.Math.max.name, Cond.initialized "java/lang/Math", Cond.code Lib.Math.max.name Lib.Math.max.code 2 (some .int), Cond.classLink RJx4a65c 7 "java/lang/Object", Cond.methodLink RJx4a65c 73 yJ8_newLength_cabcc, Cond.static yJ8_newLength_cabcc, Cond.initialized RJ8, Cond.code yJ8_newLength_cabcc cJ8_newLength_cabcc 4 (some .int), Cond.methodLink RJ8 194 Lib.Math.max.name, Cond.constant RJ8 200 (2147483639), Cond.methodLink RJ8 201 yJ8_hugeLength_7cf53, Cond.static yJ8_hugeLength_7cf53, Cond.code yJ8_hugeLength_7cf53 cJ8_hugeLength_7cf53 3 (some .int), Cond.methodLink RJx4a65c 66 yJ7_copyOf_1904c, Cond.static yJ7_copyOf_1904c, Cond.initialized RJ7, Cond.code yJ7_copyOf_1904c cJ7_copyOf_1904c 2 (some (.array (.object "java/lang/Object"))), Cond.methodLink RJ7 86 ⟨"java/lang/Object", "getClass", "()Ljava/lang/Class;"⟩, Cond.selects "[Ljava/lang/Object;" ⟨"java/lang/Object", "getClass", "()Ljava/lang/Class;"⟩ ⟨"java/lang/Object", "getClass", "()Ljava/lang/Class;"⟩, Cond.instanceMethod ⟨"java/lang/Object", "getClass", "()Ljava/lang/Class;"⟩]
def wsX7_team_r4 : List Cond := [Cond.native ⟨"java/lang/Object", "getClass", "()Ljava/lang/Class;"⟩, Cond.methodLink RJ7 300 yJ7_copyOf_6403c, Cond.static yJ7_copyOf_6403c, Cond.code yJ7_copyOf_6403c cJ7_copyOf_6403c 4 (some (.array (.object "java/lang/Object"))), Cond.classLink RJ7 110 "[Ljava/lang/Object;", Cond.classLink RJ7 2 "java/lang/Object", Cond.methodLink RJ7 304 Lib.Math.min.name, Cond.static Lib.Math.min.name, Cond.code Lib.Math.min.name Lib.Math.min.code 2 (some .int), Cond.methodLink RJ7 150 arraycopyName, Cond.native arraycopyName, Cond.static arraycopyName, Cond.initialized "java/lang/System"]
def wsX7_team : List Cond := .code yX7_team cX7_team 3 (some .int) :: ((wsX7_team_r1 ++ (wsX7_team_r2 ++ (wsX7_team_r3 ++ wsX7_team_r4))) ++ wsX70 ++ wsX50 ++ wsJx4a65c0)
def wsX7_feed : List Cond := .code yX7_feed cX7_feed 4 (some .int) :: ([.fieldLink RX7 26 "ServiceGame" "tape" "LServiceGame$Tape;", .instanceMethod yX6_append, .initialized RX6, .selects RX6 yX6_append yX6_append, .code yX6_append cX6_append 5 none, .fieldLink RX6 9 "ServiceGame$Tape" "bytes" "[I", .fieldLink RX6 15 "ServiceGame$Tape" "size" "I", .constantLong RX6 19 (255)] ++ wsX70 ++ wsX60)
def wsX7_isTeam : List Cond := .code yX7_isTeam cX7_isTeam 2 (some .boolean) :: ([.methodLink RX7 58 yX7_teams, .instanceMethod yX7_teams, .selects RX7 yX7_teams yX7_teams, .initialized RX7, .code yX7_teams cX7_teams 1 (some .int), .fieldLink RX7 16 "ServiceGame" "services" "Ljava/util/ArrayList;", .methodLink RX7 140 yJx4a65c_size_8abf5, .instanceMethod yJx4a65c_size_8abf5, .selects RJx4a65c yJx4a65c_size_8abf5 yJx4a65c_size_8abf5, .initialized RJx4a65c, .code yJx4a65c_size_8abf5 cJx4a65c_size_8abf5 1 (some .int), .fieldLink RJx4a65c 48 "java/util/ArrayList" "size" "I"] ++ wsX70 ++ wsJx4a65c0)
def wsX7_find_r1 : List Cond := [Cond.fieldLink RX7 16 "ServiceGame" "services" "Ljava/util/ArrayList;", Cond.classLink RX7 62 "ServiceGame$Service", Cond.methodLink RX7 117 yX7_isTeam, Cond.instanceMethod yX7_isTeam, Cond.selects RX7 yX7_isTeam yX7_isTeam, Cond.initialized RX7, Cond.code yX7_isTeam cX7_isTeam 2 (some .boolean), Cond.methodLink RX7 58 yX7_teams, Cond.instanceMethod yX7_teams, Cond.selects RX7 yX7_teams yX7_teams, Cond.code yX7_teams cX7_teams 1 (some .int), Cond.methodLink RX7 140 yJx4a65c_size_8abf5, Cond.instanceMethod yJx4a65c_size_8abf5, Cond.selects RJx4a65c yJx4a65c_size_8abf5 yJx4a65c_size_8abf5, Cond.initialized RJx4a65c, Cond.code yJx4a65c_size_8abf5 cJx4a65c_size_8abf5 1 (some .int), Cond.fieldLink RJx4a65c 48 "java/util/ArrayList" "size" "I", Cond.methodLink RX7 142 yJx4a65c_get_915e3, Cond.instanceMethod yJx4a65c_get_915e3, Cond.selects RJx4a65c yJx4a65c_get_915e3 yJx4a65c_get_915e3, Cond.code yJx4a65c_get_915e3 cJx4a65c_get_915e3 2 (some (.object "java/lang/Object")), Cond.methodLink RJx4a65c 118 yJ15_checkIndex_7cf53, Cond.static yJ15_checkIndex_7cf53, Cond.initialized RJ15]
def wsX7_find_r2 : List Cond := [Cond.code yJ15_checkIndex_7cf53 cJ15_checkIndex_7cf53 2 (some .int), Cond.methodLink RJ15 105 yJ3_checkIndex_8e157, Cond.static yJ3_checkIndex_8e157, Cond.initialized RJ3, Cond.code yJ3_checkIndex_8e157 cJ3_checkIndex_8e157 3 (some .int), Cond.methodLink RJx4a65c 123 yJx4a65c_elementData_915e3, Cond.instanceMethod yJx4a65c_elementData_915e3, Cond.selects RJx4a65c yJx4a65c_elementData_915e3 yJx4a65c_elementData_915e3, Cond.code yJx4a65c_elementData_915e3 cJx4a65c_elementData_915e3 2 (some (.object "java/lang/Object")), Cond.fieldLink RJx4a65c 9 "java/util/ArrayList" "elementData" "[Ljava/lang/Object;"]
def wsX7_find : List Cond := .code yX7_find cX7_find 3 (some (.object "ServiceGame$Service")) :: ((wsX7_find_r1 ++ wsX7_find_r2) ++ wsX70 ++ wsJx4a65c0)
def wsX7_patch_r1 : List Cond := [Cond.fieldLink RX7 33 "ServiceGame" "reader" "LServiceGame$Reader;", Cond.fieldLink RX7 26 "ServiceGame" "tape" "LServiceGame$Tape;", Cond.methodLink RX7 78 yX7_find, Cond.instanceMethod yX7_find, Cond.selects RX7 yX7_find yX7_find, Cond.initialized RX7, Cond.code yX7_find cX7_find 3 (some (.object "ServiceGame$Service")), Cond.fieldLink RX7 16 "ServiceGame" "services" "Ljava/util/ArrayList;", Cond.classLink RX7 62 "ServiceGame$Service", Cond.methodLink RX7 117 yX7_isTeam, Cond.instanceMethod yX7_isTeam, Cond.selects RX7 yX7_isTeam yX7_isTeam, Cond.code yX7_isTeam cX7_isTeam 2 (some .boolean), Cond.methodLink RX7 58 yX7_teams, Cond.instanceMethod yX7_teams, Cond.selects RX7 yX7_teams yX7_teams, Cond.code yX7_teams cX7_teams 1 (some .int), Cond.methodLink RX7 140 yJx4a65c_size_8abf5, Cond.instanceMethod yJx4a65c_size_8abf5, Cond.selects RJx4a65c yJx4a65c_size_8abf5 yJx4a65c_size_8abf5, Cond.initialized RJx4a65c, Cond.code yJx4a65c_size_8abf5 cJx4a65c_size_8abf5 1 (some .int), Cond.fieldLink RJx4a65c 48 "java/util/ArrayList" "size" "I", Cond.methodLink RX7 142 yJx4a65c_get_915e3]
def wsX7_patch_r2 : List Cond := [Cond.instanceMethod yJx4a65c_get_915e3, Cond.selects RJx4a65c yJx4a65c_get_915e3 yJx4a65c_get_915e3, Cond.code yJx4a65c_get_915e3 cJx4a65c_get_915e3 2 (some (.object "java/lang/Object")), Cond.methodLink RJx4a65c 118 yJ15_checkIndex_7cf53, Cond.static yJ15_checkIndex_7cf53, Cond.initialized RJ15, Cond.code yJ15_checkIndex_7cf53 cJ15_checkIndex_7cf53 2 (some .int), Cond.methodLink RJ15 105 yJ3_checkIndex_8e157, Cond.static yJ3_checkIndex_8e157, Cond.initialized RJ3, Cond.code yJ3_checkIndex_8e157 cJ3_checkIndex_8e157 3 (some .int), Cond.methodLink RJx4a65c 123 yJx4a65c_elementData_915e3, Cond.instanceMethod yJx4a65c_elementData_915e3, Cond.selects RJx4a65c yJx4a65c_elementData_915e3 yJx4a65c_elementData_915e3, Cond.code yJx4a65c_elementData_915e3 cJx4a65c_elementData_915e3 2 (some (.object "java/lang/Object")), Cond.fieldLink RJx4a65c 9 "java/util/ArrayList" "elementData" "[Ljava/lang/Object;", Cond.instanceMethod yX4_read, Cond.initialized RX4, Cond.selects RX4 yX4_read yX4_read, Cond.code yX4_read cX4_read 3 (some .int), Cond.fieldLink RX4 18 "ServiceGame$Reader" "place" "I", Cond.fieldLink RX4 22 "ServiceGame$Reader" "size" "I", Cond.methodLink RX4 25 yX4_readStep, Cond.instanceMethod yX4_readStep]
def wsX7_patch_r3 : List Cond := [Cond.selects RX4 yX4_readStep yX4_readStep, Cond.code yX4_readStep cX4_readStep 3 (some .boolean), Cond.fieldLink RX4 9 "ServiceGame$Reader" "signs" "[I", Cond.fieldLink RX4 15 "ServiceGame$Reader" "numbers" "[I", Cond.instanceMethod yX6_at, Cond.initialized RX6, Cond.selects RX6 yX6_at yX6_at, Cond.code yX6_at cX6_at 2 (some .int), Cond.fieldLink RX6 15 "ServiceGame$Tape" "size" "I", Cond.fieldLink RX6 9 "ServiceGame$Tape" "bytes" "[I", Cond.methodLink RX4 40 yX4_readNumber, Cond.instanceMethod yX4_readNumber, Cond.selects RX4 yX4_readNumber yX4_readNumber, Cond.code yX4_readNumber cX4_readNumber 5 (some .boolean), Cond.methodLink RX4 47 yX4_isDigit, Cond.static yX4_isDigit, Cond.code yX4_isDigit cX4_isDigit 1 (some .boolean), Cond.methodLink RX4 44 yX4_readCell, Cond.instanceMethod yX4_readCell, Cond.selects RX4 yX4_readCell yX4_readCell, Cond.code yX4_readCell cX4_readCell 3 (some .boolean), Cond.methodLink RX4 36 yX4_lostStep, Cond.instanceMethod yX4_lostStep, Cond.selects RX4 yX4_lostStep yX4_lostStep]
def wsX7_patch_r4 : List Cond := [Cond.code yX4_lostStep cX4_lostStep 3 (some .int), Cond.instanceMethod yX4_program, Cond.selects RX4 yX4_program yX4_program, Cond.code yX4_program cX4_program 1 (some (.object "ServiceGame$Program")), Cond.classLink RX4 51 RX3, Cond.instantiable RX3 3, Cond.initialized RX3, Cond.instanceMethod yX3_init, Cond.code yX3_init cX3_init 4 none, Cond.methodLink RX3 1 objectInit, Cond.instanceMethod objectInit, Cond.code objectInit ⟨#[0xb1]⟩ 1 none, Cond.fieldLink RX3 7 "ServiceGame$Program" "size" "I", Cond.arrayClass .int, Cond.fieldLink RX3 13 "ServiceGame$Program" "signs" "[I", Cond.fieldLink RX3 17 "ServiceGame$Program" "numbers" "[I", Cond.methodLink RX3 20 arraycopyName, Cond.native arraycopyName, Cond.static arraycopyName, Cond.initialized "java/lang/System"]
def wsX7_patch : List Cond := .code yX7_patch cX7_patch 6 (some .int) :: ((wsX7_patch_r1 ++ (wsX7_patch_r2 ++ (wsX7_patch_r3 ++ wsX7_patch_r4))) ++ wsX70 ++ wsX60 ++ wsX50 ++ wsX30 ++ wsJx4a65c0 ++ wsX40)
def wsX7_unpatch_r1 : List Cond := [Cond.methodLink RX7 78 yX7_find, Cond.instanceMethod yX7_find, Cond.selects RX7 yX7_find yX7_find, Cond.initialized RX7, Cond.code yX7_find cX7_find 3 (some (.object "ServiceGame$Service")), Cond.fieldLink RX7 16 "ServiceGame" "services" "Ljava/util/ArrayList;", Cond.classLink RX7 62 "ServiceGame$Service", Cond.methodLink RX7 117 yX7_isTeam, Cond.instanceMethod yX7_isTeam, Cond.selects RX7 yX7_isTeam yX7_isTeam, Cond.code yX7_isTeam cX7_isTeam 2 (some .boolean), Cond.methodLink RX7 58 yX7_teams, Cond.instanceMethod yX7_teams, Cond.selects RX7 yX7_teams yX7_teams, Cond.code yX7_teams cX7_teams 1 (some .int), Cond.methodLink RX7 140 yJx4a65c_size_8abf5, Cond.instanceMethod yJx4a65c_size_8abf5, Cond.selects RJx4a65c yJx4a65c_size_8abf5 yJx4a65c_size_8abf5, Cond.initialized RJx4a65c, Cond.code yJx4a65c_size_8abf5 cJx4a65c_size_8abf5 1 (some .int), Cond.fieldLink RJx4a65c 48 "java/util/ArrayList" "size" "I", Cond.methodLink RX7 142 yJx4a65c_get_915e3, Cond.instanceMethod yJx4a65c_get_915e3, Cond.selects RJx4a65c yJx4a65c_get_915e3 yJx4a65c_get_915e3]
def wsX7_unpatch_r2 : List Cond := [Cond.code yJx4a65c_get_915e3 cJx4a65c_get_915e3 2 (some (.object "java/lang/Object")), Cond.methodLink RJx4a65c 118 yJ15_checkIndex_7cf53, Cond.static yJ15_checkIndex_7cf53, Cond.initialized RJ15, Cond.code yJ15_checkIndex_7cf53 cJ15_checkIndex_7cf53 2 (some .int), Cond.methodLink RJ15 105 yJ3_checkIndex_8e157, Cond.static yJ3_checkIndex_8e157, Cond.initialized RJ3, Cond.code yJ3_checkIndex_8e157 cJ3_checkIndex_8e157 3 (some .int), Cond.methodLink RJx4a65c 123 yJx4a65c_elementData_915e3, Cond.instanceMethod yJx4a65c_elementData_915e3, Cond.selects RJx4a65c yJx4a65c_elementData_915e3 yJx4a65c_elementData_915e3, Cond.code yJx4a65c_elementData_915e3 cJx4a65c_elementData_915e3 2 (some (.object "java/lang/Object")), Cond.fieldLink RJx4a65c 9 "java/util/ArrayList" "elementData" "[Ljava/lang/Object;"]
def wsX7_unpatch : List Cond := .code yX7_unpatch cX7_unpatch 5 (some .int) :: ((wsX7_unpatch_r1 ++ wsX7_unpatch_r2) ++ wsX50 ++ wsX30 ++ wsX70 ++ wsJx4a65c0)
def wsX7_cell_r1 : List Cond := [Cond.methodLink RX7 78 yX7_find, Cond.instanceMethod yX7_find, Cond.selects RX7 yX7_find yX7_find, Cond.initialized RX7, Cond.code yX7_find cX7_find 3 (some (.object "ServiceGame$Service")), Cond.fieldLink RX7 16 "ServiceGame" "services" "Ljava/util/ArrayList;", Cond.classLink RX7 62 "ServiceGame$Service", Cond.methodLink RX7 117 yX7_isTeam, Cond.instanceMethod yX7_isTeam, Cond.selects RX7 yX7_isTeam yX7_isTeam, Cond.code yX7_isTeam cX7_isTeam 2 (some .boolean), Cond.methodLink RX7 58 yX7_teams, Cond.instanceMethod yX7_teams, Cond.selects RX7 yX7_teams yX7_teams, Cond.code yX7_teams cX7_teams 1 (some .int), Cond.methodLink RX7 140 yJx4a65c_size_8abf5, Cond.instanceMethod yJx4a65c_size_8abf5, Cond.selects RJx4a65c yJx4a65c_size_8abf5 yJx4a65c_size_8abf5, Cond.initialized RJx4a65c, Cond.code yJx4a65c_size_8abf5 cJx4a65c_size_8abf5 1 (some .int), Cond.fieldLink RJx4a65c 48 "java/util/ArrayList" "size" "I", Cond.methodLink RX7 142 yJx4a65c_get_915e3, Cond.instanceMethod yJx4a65c_get_915e3, Cond.selects RJx4a65c yJx4a65c_get_915e3 yJx4a65c_get_915e3]
def wsX7_cell_r2 : List Cond := [Cond.code yJx4a65c_get_915e3 cJx4a65c_get_915e3 2 (some (.object "java/lang/Object")), Cond.methodLink RJx4a65c 118 yJ15_checkIndex_7cf53, Cond.static yJ15_checkIndex_7cf53, Cond.initialized RJ15, Cond.code yJ15_checkIndex_7cf53 cJ15_checkIndex_7cf53 2 (some .int), Cond.methodLink RJ15 105 yJ3_checkIndex_8e157, Cond.static yJ3_checkIndex_8e157, Cond.initialized RJ3, Cond.code yJ3_checkIndex_8e157 cJ3_checkIndex_8e157 3 (some .int), Cond.methodLink RJx4a65c 123 yJx4a65c_elementData_915e3, Cond.instanceMethod yJx4a65c_elementData_915e3, Cond.selects RJx4a65c yJx4a65c_elementData_915e3 yJx4a65c_elementData_915e3, Cond.code yJx4a65c_elementData_915e3 cJx4a65c_elementData_915e3 2 (some (.object "java/lang/Object")), Cond.fieldLink RJx4a65c 9 "java/util/ArrayList" "elementData" "[Ljava/lang/Object;"]
def wsX7_cell : List Cond := .code yX7_cell cX7_cell 5 (some .int) :: ((wsX7_cell_r1 ++ wsX7_cell_r2) ++ wsX50 ++ wsX70 ++ wsJx4a65c0)
def wsX7_about_r1 : List Cond := [Cond.fieldLink RX7 54 "ServiceGame" "rounds" "I", Cond.methodLink RX7 78 yX7_find, Cond.instanceMethod yX7_find, Cond.selects RX7 yX7_find yX7_find, Cond.initialized RX7, Cond.code yX7_find cX7_find 3 (some (.object "ServiceGame$Service")), Cond.fieldLink RX7 16 "ServiceGame" "services" "Ljava/util/ArrayList;", Cond.classLink RX7 62 "ServiceGame$Service", Cond.methodLink RX7 117 yX7_isTeam, Cond.instanceMethod yX7_isTeam, Cond.selects RX7 yX7_isTeam yX7_isTeam, Cond.code yX7_isTeam cX7_isTeam 2 (some .boolean), Cond.methodLink RX7 58 yX7_teams, Cond.instanceMethod yX7_teams, Cond.selects RX7 yX7_teams yX7_teams, Cond.code yX7_teams cX7_teams 1 (some .int), Cond.methodLink RX7 140 yJx4a65c_size_8abf5, Cond.instanceMethod yJx4a65c_size_8abf5, Cond.selects RJx4a65c yJx4a65c_size_8abf5 yJx4a65c_size_8abf5, Cond.initialized RJx4a65c, Cond.code yJx4a65c_size_8abf5 cJx4a65c_size_8abf5 1 (some .int), Cond.fieldLink RJx4a65c 48 "java/util/ArrayList" "size" "I", Cond.methodLink RX7 142 yJx4a65c_get_915e3, Cond.instanceMethod yJx4a65c_get_915e3]
def wsX7_about_r2 : List Cond := [Cond.selects RJx4a65c yJx4a65c_get_915e3 yJx4a65c_get_915e3, Cond.code yJx4a65c_get_915e3 cJx4a65c_get_915e3 2 (some (.object "java/lang/Object")), Cond.methodLink RJx4a65c 118 yJ15_checkIndex_7cf53, Cond.static yJ15_checkIndex_7cf53, Cond.initialized RJ15, Cond.code yJ15_checkIndex_7cf53 cJ15_checkIndex_7cf53 2 (some .int), Cond.methodLink RJ15 105 yJ3_checkIndex_8e157, Cond.static yJ3_checkIndex_8e157, Cond.initialized RJ3, Cond.code yJ3_checkIndex_8e157 cJ3_checkIndex_8e157 3 (some .int), Cond.methodLink RJx4a65c 123 yJx4a65c_elementData_915e3, Cond.instanceMethod yJx4a65c_elementData_915e3, Cond.selects RJx4a65c yJx4a65c_elementData_915e3 yJx4a65c_elementData_915e3, Cond.code yJx4a65c_elementData_915e3 cJx4a65c_elementData_915e3 2 (some (.object "java/lang/Object")), Cond.fieldLink RJx4a65c 9 "java/util/ArrayList" "elementData" "[Ljava/lang/Object;"]
def wsX7_about : List Cond := .code yX7_about cX7_about 5 (some .int) :: ((wsX7_about_r1 ++ wsX7_about_r2) ++ wsX50 ++ wsX30 ++ wsX70 ++ wsJx4a65c0)
def wsX7_set : List Cond := .code yX7_set cX7_set 4 (some .int) :: ([.fieldLink RX7 111 "ServiceGame" "LEAST" "[I", .fieldLink RX7 114 "ServiceGame" "MOST" "[I", .fieldLink RX7 54 "ServiceGame" "rounds" "I", .fieldLink RX7 7 "ServiceGame" "settings" "[I"] ++ wsX70)
def wsX7_isNumber : List Cond := .code yX7_isNumber cX7_isNumber 1 (some .boolean) :: ([])
def wsX7_letter_r1 : List Cond := [Cond.fieldLink RX7 47 "ServiceGame" "mail" "LServiceGame$Mail;", Cond.fieldLink RX7 129 "ServiceGame" "lettersInAll" "I", Cond.fieldLink RX7 40 "ServiceGame" "machine" "LServiceGame$Machine;", Cond.fieldLink RX7 7 "ServiceGame" "settings" "[I", Cond.methodLink RX7 78 yX7_find, Cond.instanceMethod yX7_find, Cond.selects RX7 yX7_find yX7_find, Cond.initialized RX7, Cond.code yX7_find cX7_find 3 (some (.object "ServiceGame$Service")), Cond.fieldLink RX7 16 "ServiceGame" "services" "Ljava/util/ArrayList;", Cond.classLink RX7 62 "ServiceGame$Service", Cond.methodLink RX7 117 yX7_isTeam, Cond.instanceMethod yX7_isTeam, Cond.selects RX7 yX7_isTeam yX7_isTeam, Cond.code yX7_isTeam cX7_isTeam 2 (some .boolean), Cond.methodLink RX7 58 yX7_teams, Cond.instanceMethod yX7_teams, Cond.selects RX7 yX7_teams yX7_teams, Cond.code yX7_teams cX7_teams 1 (some .int), Cond.methodLink RX7 140 yJx4a65c_size_8abf5, Cond.instanceMethod yJx4a65c_size_8abf5, Cond.selects RJx4a65c yJx4a65c_size_8abf5 yJx4a65c_size_8abf5, Cond.initialized RJx4a65c, Cond.code yJx4a65c_size_8abf5 cJx4a65c_size_8abf5 1 (some .int)]
def wsX7_letter_r2 : List Cond := [Cond.fieldLink RJx4a65c 48 "java/util/ArrayList" "size" "I", Cond.methodLink RX7 142 yJx4a65c_get_915e3, Cond.instanceMethod yJx4a65c_get_915e3, Cond.selects RJx4a65c yJx4a65c_get_915e3 yJx4a65c_get_915e3, Cond.code yJx4a65c_get_915e3 cJx4a65c_get_915e3 2 (some (.object "java/lang/Object")), Cond.methodLink RJx4a65c 118 yJ15_checkIndex_7cf53, Cond.static yJ15_checkIndex_7cf53, Cond.initialized RJ15, Cond.code yJ15_checkIndex_7cf53 cJ15_checkIndex_7cf53 2 (some .int), Cond.methodLink RJ15 105 yJ3_checkIndex_8e157, Cond.static yJ3_checkIndex_8e157, Cond.initialized RJ3, Cond.code yJ3_checkIndex_8e157 cJ3_checkIndex_8e157 3 (some .int), Cond.methodLink RJx4a65c 123 yJx4a65c_elementData_915e3, Cond.instanceMethod yJx4a65c_elementData_915e3, Cond.selects RJx4a65c yJx4a65c_elementData_915e3 yJx4a65c_elementData_915e3, Cond.code yJx4a65c_elementData_915e3 cJx4a65c_elementData_915e3 2 (some (.object "java/lang/Object")), Cond.fieldLink RJx4a65c 9 "java/util/ArrayList" "elementData" "[Ljava/lang/Object;", Cond.methodLink RX7 121 yX7_isNumber, Cond.static yX7_isNumber, Cond.code yX7_isNumber cX7_isNumber 1 (some .boolean), Cond.instanceMethod yX2_keep, Cond.initialized RX2, Cond.selects RX2 yX2_keep yX2_keep]
def wsX7_letter_r3 : List Cond := [Cond.code yX2_keep cX2_keep 4 none, Cond.fieldLink RX2 9 "ServiceGame$Mail" "places" "[I", Cond.fieldLink RX2 21 "ServiceGame$Mail" "size" "I", Cond.fieldLink RX2 15 "ServiceGame$Mail" "firsts" "[I", Cond.fieldLink RX2 18 "ServiceGame$Mail" "seconds" "[I", Cond.instanceMethod yX1_deliver, Cond.initialized RX1, Cond.selects RX1 yX1_deliver yX1_deliver, Cond.code yX1_deliver cX1_deliver 6 (some .int), Cond.fieldLink RX1 15 "ServiceGame$Machine" "cellsAhead" "[I", Cond.methodLink RX1 27 arraycopyName, Cond.native arraycopyName, Cond.static arraycopyName, Cond.initialized "java/lang/System", Cond.fieldLink RX1 33 "ServiceGame$Machine" "first" "I", Cond.fieldLink RX1 37 "ServiceGame$Machine" "second" "I", Cond.fieldLink RX1 40 "ServiceGame$Machine" "height" "I", Cond.methodLink RX1 43 yX1_run, Cond.instanceMethod yX1_run, Cond.selects RX1 yX1_run yX1_run, Cond.code yX1_run cX1_run 9 (some .int), Cond.fieldLink RX1 64 "ServiceGame$Machine" "fuelUsed" "I", Cond.constant RX1 67 (1000000), Cond.fieldLink RX1 9 "ServiceGame$Machine" "pile" "[I"]
def wsX7_letter_r4 : List Cond := [Cond.methodLink RX1 68 yX1_pileSuits, Cond.instanceMethod yX1_pileSuits, Cond.selects RX1 yX1_pileSuits yX1_pileSuits, Cond.code yX1_pileSuits cX1_pileSuits 2 (some .boolean), Cond.methodLink RX1 72 yX1_pull, Cond.instanceMethod yX1_pull, Cond.selects RX1 yX1_pull yX1_pull, Cond.code yX1_pull cX1_pull 1 (some .int), Cond.methodLink RX1 76 yX1_act, Cond.instanceMethod yX1_act, Cond.selects RX1 yX1_act yX1_act, Cond.code yX1_act cX1_act 4 none, Cond.methodLink RX1 80 yX1_push, Cond.instanceMethod yX1_push, Cond.selects RX1 yX1_push yX1_push, Cond.code yX1_push cX1_push 2 none, Cond.methodLink RX1 84 yX1_joinTwo, Cond.instanceMethod yX1_joinTwo, Cond.selects RX1 yX1_joinTwo yX1_joinTwo, Cond.code yX1_joinTwo cX1_joinTwo 4 none, Cond.methodLink RX1 87 yX1_joined, Cond.static yX1_joined, Cond.code yX1_joined cX1_joined 3 (some .int)]
def wsX7_letter : List Cond := .code yX7_letter cX7_letter 7 (some .int) :: ((wsX7_letter_r1 ++ (wsX7_letter_r2 ++ (wsX7_letter_r3 ++ wsX7_letter_r4))) ++ wsX70 ++ wsX20 ++ wsJx4a65c0 ++ wsX50 ++ wsX10 ++ wsX30)
def wsJx4a65c_isEmpty_aae02 : List Cond := .code yJx4a65c_isEmpty_aae02 cJx4a65c_isEmpty_aae02 1 (some .boolean) :: ([.fieldLink RJx4a65c 48 "java/util/ArrayList" "size" "I"] ++ wsJx4a65c0)
def wsX7_mix : List Cond := .code yX7_mix cX7_mix 3 (some .int) :: ([.fieldLink RX7 7 "ServiceGame" "settings" "[I"] ++ wsX70 ++ wsX50)
def wsX7_flagOf : List Cond := .code yX7_flagOf cX7_flagOf 1 (some .int) :: ([])
def wsX7_checkNumber : List Cond := .code yX7_checkNumber cX7_checkNumber 2 (some .int) :: ([.methodLink RX7 179 yX7_flagOf, .static yX7_flagOf, .initialized RX7, .code yX7_flagOf cX7_flagOf 1 (some .int)])
def wsX7_dueAnswer : List Cond := .code yX7_dueAnswer cX7_dueAnswer 5 (some .int) :: ([.fieldLink RX7 7 "ServiceGame" "settings" "[I", .fieldLink RX7 54 "ServiceGame" "rounds" "I", .methodLink RX7 179 yX7_flagOf, .static yX7_flagOf, .initialized RX7, .code yX7_flagOf cX7_flagOf 1 (some .int), .methodLink RX7 175 yX7_mix, .instanceMethod yX7_mix, .selects RX7 yX7_mix yX7_mix, .code yX7_mix cX7_mix 3 (some .int)] ++ wsX70 ++ wsX50)
def wsX7_writeChecks_r1 : List Cond := [Cond.fieldLink RX7 54 "ServiceGame" "rounds" "I", Cond.fieldLink RX7 235 "ServiceGame" "ORDERS" "[I", Cond.fieldLink RX7 40 "ServiceGame" "machine" "LServiceGame$Machine;", Cond.fieldLink RX7 7 "ServiceGame" "settings" "[I", Cond.methodLink RX7 175 yX7_mix, Cond.instanceMethod yX7_mix, Cond.selects RX7 yX7_mix yX7_mix, Cond.initialized RX7, Cond.code yX7_mix cX7_mix 3 (some .int), Cond.methodLink RX7 238 yX7_checkNumber, Cond.static yX7_checkNumber, Cond.code yX7_checkNumber cX7_checkNumber 2 (some .int), Cond.methodLink RX7 179 yX7_flagOf, Cond.static yX7_flagOf, Cond.code yX7_flagOf cX7_flagOf 1 (some .int), Cond.instanceMethod yX1_deliver, Cond.initialized RX1, Cond.selects RX1 yX1_deliver yX1_deliver, Cond.code yX1_deliver cX1_deliver 6 (some .int), Cond.fieldLink RX1 15 "ServiceGame$Machine" "cellsAhead" "[I", Cond.methodLink RX1 27 arraycopyName, Cond.native arraycopyName, Cond.static arraycopyName, Cond.initialized "java/lang/System"]
def wsX7_writeChecks_r2 : List Cond := [Cond.fieldLink RX1 33 "ServiceGame$Machine" "first" "I", Cond.fieldLink RX1 37 "ServiceGame$Machine" "second" "I", Cond.fieldLink RX1 40 "ServiceGame$Machine" "height" "I", Cond.methodLink RX1 43 yX1_run, Cond.instanceMethod yX1_run, Cond.selects RX1 yX1_run yX1_run, Cond.code yX1_run cX1_run 9 (some .int), Cond.fieldLink RX1 64 "ServiceGame$Machine" "fuelUsed" "I", Cond.constant RX1 67 (1000000), Cond.fieldLink RX1 9 "ServiceGame$Machine" "pile" "[I", Cond.methodLink RX1 68 yX1_pileSuits, Cond.instanceMethod yX1_pileSuits, Cond.selects RX1 yX1_pileSuits yX1_pileSuits, Cond.code yX1_pileSuits cX1_pileSuits 2 (some .boolean), Cond.methodLink RX1 72 yX1_pull, Cond.instanceMethod yX1_pull, Cond.selects RX1 yX1_pull yX1_pull, Cond.code yX1_pull cX1_pull 1 (some .int), Cond.methodLink RX1 76 yX1_act, Cond.instanceMethod yX1_act, Cond.selects RX1 yX1_act yX1_act, Cond.code yX1_act cX1_act 4 none, Cond.methodLink RX1 80 yX1_push, Cond.instanceMethod yX1_push]
def wsX7_writeChecks_r3 : List Cond := [Cond.selects RX1 yX1_push yX1_push, Cond.code yX1_push cX1_push 2 none, Cond.methodLink RX1 84 yX1_joinTwo, Cond.instanceMethod yX1_joinTwo, Cond.selects RX1 yX1_joinTwo yX1_joinTwo, Cond.code yX1_joinTwo cX1_joinTwo 4 none, Cond.methodLink RX1 87 yX1_joined, Cond.static yX1_joined, Cond.code yX1_joined cX1_joined 3 (some .int), Cond.methodLink RX7 241 yX7_dueAnswer, Cond.instanceMethod yX7_dueAnswer, Cond.selects RX7 yX7_dueAnswer yX7_dueAnswer, Cond.code yX7_dueAnswer cX7_dueAnswer 5 (some .int), Cond.instanceMethod yX5_keepCheck, Cond.initialized RX5, Cond.selects RX5 yX5_keepCheck yX5_keepCheck, Cond.code yX5_keepCheck cX5_keepCheck 6 none, Cond.fieldLink RX5 21 "ServiceGame$Service" "checkKinds" "[I", Cond.fieldLink RX5 24 "ServiceGame$Service" "checkNumbers" "[I", Cond.fieldLink RX5 27 "ServiceGame$Service" "checkAnswers" "[I", Cond.fieldLink RX5 30 "ServiceGame$Service" "checkRights" "[I"]
def wsX7_writeChecks : List Cond := .code yX7_writeChecks cX7_writeChecks 12 (some .boolean) :: ((wsX7_writeChecks_r1 ++ (wsX7_writeChecks_r2 ++ wsX7_writeChecks_r3)) ++ wsX70 ++ wsX50 ++ wsX10 ++ wsX30)
def wsX7_round_r1 : List Cond := [Cond.fieldLink RX7 16 "ServiceGame" "services" "Ljava/util/ArrayList;", Cond.fieldLink RX7 54 "ServiceGame" "rounds" "I", Cond.classLink RX7 62 "ServiceGame$Service", Cond.fieldLink RX7 47 "ServiceGame" "mail" "LServiceGame$Mail;", Cond.methodLink RX7 136 yJx4a65c_isEmpty_aae02, Cond.instanceMethod yJx4a65c_isEmpty_aae02, Cond.selects RJx4a65c yJx4a65c_isEmpty_aae02 yJx4a65c_isEmpty_aae02, Cond.initialized RJx4a65c, Cond.code yJx4a65c_isEmpty_aae02 cJx4a65c_isEmpty_aae02 1 (some .boolean), Cond.fieldLink RJx4a65c 48 "java/util/ArrayList" "size" "I", Cond.methodLink RX7 140 yJx4a65c_size_8abf5, Cond.instanceMethod yJx4a65c_size_8abf5, Cond.selects RJx4a65c yJx4a65c_size_8abf5 yJx4a65c_size_8abf5, Cond.code yJx4a65c_size_8abf5 cJx4a65c_size_8abf5 1 (some .int), Cond.methodLink RX7 142 yJx4a65c_get_915e3, Cond.instanceMethod yJx4a65c_get_915e3, Cond.selects RJx4a65c yJx4a65c_get_915e3 yJx4a65c_get_915e3, Cond.code yJx4a65c_get_915e3 cJx4a65c_get_915e3 2 (some (.object "java/lang/Object")), Cond.methodLink RJx4a65c 118 yJ15_checkIndex_7cf53, Cond.static yJ15_checkIndex_7cf53, Cond.initialized RJ15, Cond.code yJ15_checkIndex_7cf53 cJ15_checkIndex_7cf53 2 (some .int), Cond.methodLink RJ15 105 yJ3_checkIndex_8e157, Cond.static yJ3_checkIndex_8e157]
def wsX7_round_r2 : List Cond := [Cond.initialized RJ3, Cond.code yJ3_checkIndex_8e157 cJ3_checkIndex_8e157 3 (some .int), Cond.methodLink RJx4a65c 123 yJx4a65c_elementData_915e3, Cond.instanceMethod yJx4a65c_elementData_915e3, Cond.selects RJx4a65c yJx4a65c_elementData_915e3 yJx4a65c_elementData_915e3, Cond.code yJx4a65c_elementData_915e3 cJx4a65c_elementData_915e3 2 (some (.object "java/lang/Object")), Cond.fieldLink RJx4a65c 9 "java/util/ArrayList" "elementData" "[Ljava/lang/Object;", Cond.instanceMethod yX5_takePatch, Cond.initialized RX5, Cond.selects RX5 yX5_takePatch yX5_takePatch, Cond.code yX5_takePatch cX5_takePatch 1 none, Cond.fieldLink RX5 40 "ServiceGame$Service" "patch" "LServiceGame$Program;", Cond.fieldLink RX5 44 "ServiceGame$Service" "program" "LServiceGame$Program;", Cond.methodLink RX7 149 yX7_writeChecks, Cond.instanceMethod yX7_writeChecks, Cond.selects RX7 yX7_writeChecks yX7_writeChecks, Cond.initialized RX7, Cond.code yX7_writeChecks cX7_writeChecks 12 (some .boolean), Cond.fieldLink RX7 235 "ServiceGame" "ORDERS" "[I", Cond.fieldLink RX7 40 "ServiceGame" "machine" "LServiceGame$Machine;", Cond.fieldLink RX7 7 "ServiceGame" "settings" "[I", Cond.methodLink RX7 175 yX7_mix, Cond.instanceMethod yX7_mix, Cond.selects RX7 yX7_mix yX7_mix]
def wsX7_round_r3 : List Cond := [Cond.code yX7_mix cX7_mix 3 (some .int), Cond.methodLink RX7 238 yX7_checkNumber, Cond.static yX7_checkNumber, Cond.code yX7_checkNumber cX7_checkNumber 2 (some .int), Cond.methodLink RX7 179 yX7_flagOf, Cond.static yX7_flagOf, Cond.code yX7_flagOf cX7_flagOf 1 (some .int), Cond.instanceMethod yX1_deliver, Cond.initialized RX1, Cond.selects RX1 yX1_deliver yX1_deliver, Cond.code yX1_deliver cX1_deliver 6 (some .int), Cond.fieldLink RX1 15 "ServiceGame$Machine" "cellsAhead" "[I", Cond.methodLink RX1 27 arraycopyName, Cond.native arraycopyName, Cond.static arraycopyName, Cond.initialized "java/lang/System", Cond.fieldLink RX1 33 "ServiceGame$Machine" "first" "I", Cond.fieldLink RX1 37 "ServiceGame$Machine" "second" "I", Cond.fieldLink RX1 40 "ServiceGame$Machine" "height" "I", Cond.methodLink RX1 43 yX1_run, Cond.instanceMethod yX1_run, Cond.selects RX1 yX1_run yX1_run, Cond.code yX1_run cX1_run 9 (some .int), Cond.fieldLink RX1 64 "ServiceGame$Machine" "fuelUsed" "I"]
def wsX7_round_r4 : List Cond := [Cond.constant RX1 67 (1000000), Cond.fieldLink RX1 9 "ServiceGame$Machine" "pile" "[I", Cond.methodLink RX1 68 yX1_pileSuits, Cond.instanceMethod yX1_pileSuits, Cond.selects RX1 yX1_pileSuits yX1_pileSuits, Cond.code yX1_pileSuits cX1_pileSuits 2 (some .boolean), Cond.methodLink RX1 72 yX1_pull, Cond.instanceMethod yX1_pull, Cond.selects RX1 yX1_pull yX1_pull, Cond.code yX1_pull cX1_pull 1 (some .int), Cond.methodLink RX1 76 yX1_act, Cond.instanceMethod yX1_act, Cond.selects RX1 yX1_act yX1_act, Cond.code yX1_act cX1_act 4 none, Cond.methodLink RX1 80 yX1_push, Cond.instanceMethod yX1_push, Cond.selects RX1 yX1_push yX1_push, Cond.code yX1_push cX1_push 2 none, Cond.methodLink RX1 84 yX1_joinTwo, Cond.instanceMethod yX1_joinTwo, Cond.selects RX1 yX1_joinTwo yX1_joinTwo, Cond.code yX1_joinTwo cX1_joinTwo 4 none, Cond.methodLink RX1 87 yX1_joined, Cond.static yX1_joined]
def wsX7_round_r5 : List Cond := [Cond.code yX1_joined cX1_joined 3 (some .int), Cond.methodLink RX7 241 yX7_dueAnswer, Cond.instanceMethod yX7_dueAnswer, Cond.selects RX7 yX7_dueAnswer yX7_dueAnswer, Cond.code yX7_dueAnswer cX7_dueAnswer 5 (some .int), Cond.instanceMethod yX5_keepCheck, Cond.selects RX5 yX5_keepCheck yX5_keepCheck, Cond.code yX5_keepCheck cX5_keepCheck 6 none, Cond.fieldLink RX5 21 "ServiceGame$Service" "checkKinds" "[I", Cond.fieldLink RX5 24 "ServiceGame$Service" "checkNumbers" "[I", Cond.fieldLink RX5 27 "ServiceGame$Service" "checkAnswers" "[I", Cond.fieldLink RX5 30 "ServiceGame$Service" "checkRights" "[I", Cond.instanceMethod yX2_countLikeChecks, Cond.initialized RX2, Cond.selects RX2 yX2_countLikeChecks yX2_countLikeChecks, Cond.code yX2_countLikeChecks cX2_countLikeChecks 4 none, Cond.fieldLink RX2 21 "ServiceGame$Mail" "size" "I", Cond.fieldLink RX2 9 "ServiceGame$Mail" "places" "[I", Cond.classLink RX2 26 "ServiceGame$Service", Cond.fieldLink RX2 15 "ServiceGame$Mail" "firsts" "[I", Cond.fieldLink RX2 18 "ServiceGame$Mail" "seconds" "[I", Cond.methodLink RX2 33 yJx4a65c_size_8abf5, Cond.methodLink RX2 38 yJx4a65c_get_915e3, Cond.instanceMethod yX5_isLikeCheck]
def wsX7_round_r6 : List Cond := [Cond.selects RX5 yX5_isLikeCheck yX5_isLikeCheck, Cond.code yX5_isLikeCheck cX5_isLikeCheck 4 (some .boolean)]
def wsX7_round : List Cond := .code yX7_round cX7_round 5 (some .int) :: ((wsX7_round_r1 ++ (wsX7_round_r2 ++ (wsX7_round_r3 ++ (wsX7_round_r4 ++ (wsX7_round_r5 ++ wsX7_round_r6))))) ++ wsX70 ++ wsX50 ++ wsX20 ++ wsJx4a65c0 ++ wsX10 ++ wsX30)
def wsX7_wasRound : List Cond := .code yX7_wasRound cX7_wasRound 2 (some .boolean) :: ([.fieldLink RX7 54 "ServiceGame" "rounds" "I"] ++ wsX70)
def wsX7_up_r1 : List Cond := [Cond.methodLink RX7 78 yX7_find, Cond.instanceMethod yX7_find, Cond.selects RX7 yX7_find yX7_find, Cond.initialized RX7, Cond.code yX7_find cX7_find 3 (some (.object "ServiceGame$Service")), Cond.fieldLink RX7 16 "ServiceGame" "services" "Ljava/util/ArrayList;", Cond.classLink RX7 62 "ServiceGame$Service", Cond.methodLink RX7 117 yX7_isTeam, Cond.instanceMethod yX7_isTeam, Cond.selects RX7 yX7_isTeam yX7_isTeam, Cond.code yX7_isTeam cX7_isTeam 2 (some .boolean), Cond.methodLink RX7 58 yX7_teams, Cond.instanceMethod yX7_teams, Cond.selects RX7 yX7_teams yX7_teams, Cond.code yX7_teams cX7_teams 1 (some .int), Cond.methodLink RX7 140 yJx4a65c_size_8abf5, Cond.instanceMethod yJx4a65c_size_8abf5, Cond.selects RJx4a65c yJx4a65c_size_8abf5 yJx4a65c_size_8abf5, Cond.initialized RJx4a65c, Cond.code yJx4a65c_size_8abf5 cJx4a65c_size_8abf5 1 (some .int), Cond.fieldLink RJx4a65c 48 "java/util/ArrayList" "size" "I", Cond.methodLink RX7 142 yJx4a65c_get_915e3, Cond.instanceMethod yJx4a65c_get_915e3, Cond.selects RJx4a65c yJx4a65c_get_915e3 yJx4a65c_get_915e3]
def wsX7_up_r2 : List Cond := [Cond.code yJx4a65c_get_915e3 cJx4a65c_get_915e3 2 (some (.object "java/lang/Object")), Cond.methodLink RJx4a65c 118 yJ15_checkIndex_7cf53, Cond.static yJ15_checkIndex_7cf53, Cond.initialized RJ15, Cond.code yJ15_checkIndex_7cf53 cJ15_checkIndex_7cf53 2 (some .int), Cond.methodLink RJ15 105 yJ3_checkIndex_8e157, Cond.static yJ3_checkIndex_8e157, Cond.initialized RJ3, Cond.code yJ3_checkIndex_8e157 cJ3_checkIndex_8e157 3 (some .int), Cond.methodLink RJx4a65c 123 yJx4a65c_elementData_915e3, Cond.instanceMethod yJx4a65c_elementData_915e3, Cond.selects RJx4a65c yJx4a65c_elementData_915e3 yJx4a65c_elementData_915e3, Cond.code yJx4a65c_elementData_915e3 cJx4a65c_elementData_915e3 2 (some (.object "java/lang/Object")), Cond.fieldLink RJx4a65c 9 "java/util/ArrayList" "elementData" "[Ljava/lang/Object;", Cond.methodLink RX7 160 yX7_wasRound, Cond.instanceMethod yX7_wasRound, Cond.selects RX7 yX7_wasRound yX7_wasRound, Cond.code yX7_wasRound cX7_wasRound 2 (some .boolean), Cond.fieldLink RX7 54 "ServiceGame" "rounds" "I"]
def wsX7_up : List Cond := .code yX7_up cX7_up 5 (some .int) :: ((wsX7_up_r1 ++ wsX7_up_r2) ++ wsX50 ++ wsX70 ++ wsJx4a65c0)
def wsX7_check_r1 : List Cond := [Cond.fieldLink RX7 54 "ServiceGame" "rounds" "I", Cond.methodLink RX7 78 yX7_find, Cond.instanceMethod yX7_find, Cond.selects RX7 yX7_find yX7_find, Cond.initialized RX7, Cond.code yX7_find cX7_find 3 (some (.object "ServiceGame$Service")), Cond.fieldLink RX7 16 "ServiceGame" "services" "Ljava/util/ArrayList;", Cond.classLink RX7 62 "ServiceGame$Service", Cond.methodLink RX7 117 yX7_isTeam, Cond.instanceMethod yX7_isTeam, Cond.selects RX7 yX7_isTeam yX7_isTeam, Cond.code yX7_isTeam cX7_isTeam 2 (some .boolean), Cond.methodLink RX7 58 yX7_teams, Cond.instanceMethod yX7_teams, Cond.selects RX7 yX7_teams yX7_teams, Cond.code yX7_teams cX7_teams 1 (some .int), Cond.methodLink RX7 140 yJx4a65c_size_8abf5, Cond.instanceMethod yJx4a65c_size_8abf5, Cond.selects RJx4a65c yJx4a65c_size_8abf5 yJx4a65c_size_8abf5, Cond.initialized RJx4a65c, Cond.code yJx4a65c_size_8abf5 cJx4a65c_size_8abf5 1 (some .int), Cond.fieldLink RJx4a65c 48 "java/util/ArrayList" "size" "I", Cond.methodLink RX7 142 yJx4a65c_get_915e3, Cond.instanceMethod yJx4a65c_get_915e3]
def wsX7_check_r2 : List Cond := [Cond.selects RJx4a65c yJx4a65c_get_915e3 yJx4a65c_get_915e3, Cond.code yJx4a65c_get_915e3 cJx4a65c_get_915e3 2 (some (.object "java/lang/Object")), Cond.methodLink RJx4a65c 118 yJ15_checkIndex_7cf53, Cond.static yJ15_checkIndex_7cf53, Cond.initialized RJ15, Cond.code yJ15_checkIndex_7cf53 cJ15_checkIndex_7cf53 2 (some .int), Cond.methodLink RJ15 105 yJ3_checkIndex_8e157, Cond.static yJ3_checkIndex_8e157, Cond.initialized RJ3, Cond.code yJ3_checkIndex_8e157 cJ3_checkIndex_8e157 3 (some .int), Cond.methodLink RJx4a65c 123 yJx4a65c_elementData_915e3, Cond.instanceMethod yJx4a65c_elementData_915e3, Cond.selects RJx4a65c yJx4a65c_elementData_915e3 yJx4a65c_elementData_915e3, Cond.code yJx4a65c_elementData_915e3 cJx4a65c_elementData_915e3 2 (some (.object "java/lang/Object")), Cond.fieldLink RJx4a65c 9 "java/util/ArrayList" "elementData" "[Ljava/lang/Object;"]
def wsX7_check : List Cond := .code yX7_check cX7_check 6 (some .int) :: ((wsX7_check_r1 ++ wsX7_check_r2) ++ wsX70 ++ wsX50 ++ wsJx4a65c0)
def wsX7_flag_r1 : List Cond := [Cond.methodLink RX7 78 yX7_find, Cond.instanceMethod yX7_find, Cond.selects RX7 yX7_find yX7_find, Cond.initialized RX7, Cond.code yX7_find cX7_find 3 (some (.object "ServiceGame$Service")), Cond.fieldLink RX7 16 "ServiceGame" "services" "Ljava/util/ArrayList;", Cond.classLink RX7 62 "ServiceGame$Service", Cond.methodLink RX7 117 yX7_isTeam, Cond.instanceMethod yX7_isTeam, Cond.selects RX7 yX7_isTeam yX7_isTeam, Cond.code yX7_isTeam cX7_isTeam 2 (some .boolean), Cond.methodLink RX7 58 yX7_teams, Cond.instanceMethod yX7_teams, Cond.selects RX7 yX7_teams yX7_teams, Cond.code yX7_teams cX7_teams 1 (some .int), Cond.methodLink RX7 140 yJx4a65c_size_8abf5, Cond.instanceMethod yJx4a65c_size_8abf5, Cond.selects RJx4a65c yJx4a65c_size_8abf5 yJx4a65c_size_8abf5, Cond.initialized RJx4a65c, Cond.code yJx4a65c_size_8abf5 cJx4a65c_size_8abf5 1 (some .int), Cond.fieldLink RJx4a65c 48 "java/util/ArrayList" "size" "I", Cond.methodLink RX7 142 yJx4a65c_get_915e3, Cond.instanceMethod yJx4a65c_get_915e3, Cond.selects RJx4a65c yJx4a65c_get_915e3 yJx4a65c_get_915e3]
def wsX7_flag_r2 : List Cond := [Cond.code yJx4a65c_get_915e3 cJx4a65c_get_915e3 2 (some (.object "java/lang/Object")), Cond.methodLink RJx4a65c 118 yJ15_checkIndex_7cf53, Cond.static yJ15_checkIndex_7cf53, Cond.initialized RJ15, Cond.code yJ15_checkIndex_7cf53 cJ15_checkIndex_7cf53 2 (some .int), Cond.methodLink RJ15 105 yJ3_checkIndex_8e157, Cond.static yJ3_checkIndex_8e157, Cond.initialized RJ3, Cond.code yJ3_checkIndex_8e157 cJ3_checkIndex_8e157 3 (some .int), Cond.methodLink RJx4a65c 123 yJx4a65c_elementData_915e3, Cond.instanceMethod yJx4a65c_elementData_915e3, Cond.selects RJx4a65c yJx4a65c_elementData_915e3 yJx4a65c_elementData_915e3, Cond.code yJx4a65c_elementData_915e3 cJx4a65c_elementData_915e3 2 (some (.object "java/lang/Object")), Cond.fieldLink RJx4a65c 9 "java/util/ArrayList" "elementData" "[Ljava/lang/Object;", Cond.methodLink RX7 160 yX7_wasRound, Cond.instanceMethod yX7_wasRound, Cond.selects RX7 yX7_wasRound yX7_wasRound, Cond.code yX7_wasRound cX7_wasRound 2 (some .boolean), Cond.fieldLink RX7 54 "ServiceGame" "rounds" "I", Cond.methodLink RX7 175 yX7_mix, Cond.instanceMethod yX7_mix, Cond.selects RX7 yX7_mix yX7_mix, Cond.code yX7_mix cX7_mix 3 (some .int), Cond.fieldLink RX7 7 "ServiceGame" "settings" "[I"]
def wsX7_flag_r3 : List Cond := [Cond.methodLink RX7 179 yX7_flagOf, Cond.static yX7_flagOf, Cond.code yX7_flagOf cX7_flagOf 1 (some .int)]
def wsX7_flag : List Cond := .code yX7_flag cX7_flag 5 (some .int) :: ((wsX7_flag_r1 ++ (wsX7_flag_r2 ++ wsX7_flag_r3)) ++ wsX70 ++ wsJx4a65c0 ++ wsX50)
def wsX7_roundThatCounts : List Cond := .code yX7_roundThatCounts cX7_roundThatCounts 6 (some .int) :: ([.fieldLink RX7 54 "ServiceGame" "rounds" "I", .fieldLink RX7 7 "ServiceGame" "settings" "[I", .methodLink RX7 249 Lib.Math.max.name, .static Lib.Math.max.name, .initialized "java/lang/Math", .code Lib.Math.max.name Lib.Math.max.code 2 (some .int), .methodLink RX7 175 yX7_mix, .instanceMethod yX7_mix, .selects RX7 yX7_mix yX7_mix, .initialized RX7, .code yX7_mix cX7_mix 3 (some .int), .methodLink RX7 179 yX7_flagOf, .static yX7_flagOf, .code yX7_flagOf cX7_flagOf 1 (some .int), .instanceMethod yX5_isTaken, .initialized RX5, .selects RX5 yX5_isTaken yX5_isTaken, .code yX5_isTaken cX5_isTaken 5 (some .boolean), .fieldLink RX5 18 "ServiceGame$Service" "takenAfter" "[I"] ++ wsX70 ++ wsX50)
def wsX7_hand_r1 : List Cond := [Cond.fieldLink RX7 54 "ServiceGame" "rounds" "I", Cond.fieldLink RX7 20 "ServiceGame" "log" "Ljava/util/ArrayList;", Cond.classLink RX7 191 RX0, Cond.instantiable RX0 3, Cond.initialized RX0, Cond.methodLink RX7 78 yX7_find, Cond.instanceMethod yX7_find, Cond.selects RX7 yX7_find yX7_find, Cond.initialized RX7, Cond.code yX7_find cX7_find 3 (some (.object "ServiceGame$Service")), Cond.fieldLink RX7 16 "ServiceGame" "services" "Ljava/util/ArrayList;", Cond.classLink RX7 62 "ServiceGame$Service", Cond.methodLink RX7 117 yX7_isTeam, Cond.instanceMethod yX7_isTeam, Cond.selects RX7 yX7_isTeam yX7_isTeam, Cond.code yX7_isTeam cX7_isTeam 2 (some .boolean), Cond.methodLink RX7 58 yX7_teams, Cond.instanceMethod yX7_teams, Cond.selects RX7 yX7_teams yX7_teams, Cond.code yX7_teams cX7_teams 1 (some .int), Cond.methodLink RX7 140 yJx4a65c_size_8abf5, Cond.instanceMethod yJx4a65c_size_8abf5, Cond.selects RJx4a65c yJx4a65c_size_8abf5 yJx4a65c_size_8abf5, Cond.initialized RJx4a65c]
def wsX7_hand_r2 : List Cond := [Cond.code yJx4a65c_size_8abf5 cJx4a65c_size_8abf5 1 (some .int), Cond.fieldLink RJx4a65c 48 "java/util/ArrayList" "size" "I", Cond.methodLink RX7 142 yJx4a65c_get_915e3, Cond.instanceMethod yJx4a65c_get_915e3, Cond.selects RJx4a65c yJx4a65c_get_915e3 yJx4a65c_get_915e3, Cond.code yJx4a65c_get_915e3 cJx4a65c_get_915e3 2 (some (.object "java/lang/Object")), Cond.methodLink RJx4a65c 118 yJ15_checkIndex_7cf53, Cond.static yJ15_checkIndex_7cf53, Cond.initialized RJ15, Cond.code yJ15_checkIndex_7cf53 cJ15_checkIndex_7cf53 2 (some .int), Cond.methodLink RJ15 105 yJ3_checkIndex_8e157, Cond.static yJ3_checkIndex_8e157, Cond.initialized RJ3, Cond.code yJ3_checkIndex_8e157 cJ3_checkIndex_8e157 3 (some .int), Cond.methodLink RJx4a65c 123 yJx4a65c_elementData_915e3, Cond.instanceMethod yJx4a65c_elementData_915e3, Cond.selects RJx4a65c yJx4a65c_elementData_915e3 yJx4a65c_elementData_915e3, Cond.code yJx4a65c_elementData_915e3 cJx4a65c_elementData_915e3 2 (some (.object "java/lang/Object")), Cond.fieldLink RJx4a65c 9 "java/util/ArrayList" "elementData" "[Ljava/lang/Object;", Cond.methodLink RX7 121 yX7_isNumber, Cond.static yX7_isNumber, Cond.code yX7_isNumber cX7_isNumber 1 (some .boolean), Cond.methodLink RX7 183 yX7_roundThatCounts, Cond.instanceMethod yX7_roundThatCounts]
def wsX7_hand_r3 : List Cond := [Cond.selects RX7 yX7_roundThatCounts yX7_roundThatCounts, Cond.code yX7_roundThatCounts cX7_roundThatCounts 6 (some .int), Cond.fieldLink RX7 7 "ServiceGame" "settings" "[I", Cond.methodLink RX7 249 Lib.Math.max.name, Cond.static Lib.Math.max.name, Cond.initialized "java/lang/Math", Cond.code Lib.Math.max.name Lib.Math.max.code 2 (some .int), Cond.methodLink RX7 175 yX7_mix, Cond.instanceMethod yX7_mix, Cond.selects RX7 yX7_mix yX7_mix, Cond.code yX7_mix cX7_mix 3 (some .int), Cond.methodLink RX7 179 yX7_flagOf, Cond.static yX7_flagOf, Cond.code yX7_flagOf cX7_flagOf 1 (some .int), Cond.instanceMethod yX5_isTaken, Cond.initialized RX5, Cond.selects RX5 yX5_isTaken yX5_isTaken, Cond.code yX5_isTaken cX5_isTaken 5 (some .boolean), Cond.fieldLink RX5 18 "ServiceGame$Service" "takenAfter" "[I", Cond.instanceMethod yX5_take, Cond.selects RX5 yX5_take yX5_take, Cond.code yX5_take cX5_take 4 none, Cond.instanceMethod yX0_init, Cond.code yX0_init cX0_init 4 none]
def wsX7_hand_r4 : List Cond := [Cond.methodLink RX0 1 objectInit, Cond.instanceMethod objectInit, Cond.code objectInit ⟨#[0xb1]⟩ 1 none, Cond.fieldLink RX0 7 "ServiceGame$HandIn" "by" "I", Cond.fieldLink RX0 13 "ServiceGame$HandIn" "service" "LServiceGame$Service;", Cond.fieldLink RX0 17 "ServiceGame$HandIn" "put" "I", Cond.methodLink RX7 67 yJx4a65c_add_9ea2d, Cond.instanceMethod yJx4a65c_add_9ea2d, Cond.selects RJx4a65c yJx4a65c_add_9ea2d yJx4a65c_add_9ea2d, Cond.code yJx4a65c_add_9ea2d cJx4a65c_add_9ea2d 2 (some .boolean), Cond.fieldLink RJx4a65c 63 "java/util/ArrayList" "modCount" "I", Cond.sameField "java/util/ArrayList" "java/util/AbstractList" "modCount" "I", Cond.methodLink RJx4a65c 131 yJx4a65c_add_72be8, Cond.instanceMethod yJx4a65c_add_72be8, Cond.selects RJx4a65c yJx4a65c_add_72be8 yJx4a65c_add_72be8, Cond.code yJx4a65c_add_72be8 cJx4a65c_add_72be8 4 none, Cond.methodLink RJx4a65c 129 yJx4a65c_grow_d5877, Cond.instanceMethod yJx4a65c_grow_d5877, Cond.selects RJx4a65c yJx4a65c_grow_d5877 yJx4a65c_grow_d5877, Cond.code yJx4a65c_grow_d5877 cJx4a65c_grow_d5877 1 (some (.array (.object "java/lang/Object"))), Cond.methodLink RJx4a65c 69 yJx4a65c_grow_92f84, Cond.instanceMethod yJx4a65c_grow_92f84, Cond.selects RJx4a65c yJx4a65c_grow_92f84 yJx4a65c_grow_92f84, Cond.code yJx4a65c_grow_92f84 cJx4a65c_grow_92f84 4 (some (.array (.object "java/lang/Object")))]
def wsX7_hand_r5 : List Cond := [Cond.fieldLink RJx4a65c 39 "java/util/ArrayList" "DEFAULTCAPACITY_EMPTY_ELEMENTDATA" "[Ljava/lang/Object;", Cond.methodLink RJx4a65c 79 Lib.Math.max.name, Cond.classLink RJx4a65c 7 "java/lang/Object", Cond.methodLink RJx4a65c 73 yJ8_newLength_cabcc, Cond.static yJ8_newLength_cabcc, Cond.initialized RJ8, Cond.code yJ8_newLength_cabcc cJ8_newLength_cabcc 4 (some .int), Cond.methodLink RJ8 194 Lib.Math.max.name, Cond.constant RJ8 200 (2147483639), Cond.methodLink RJ8 201 yJ8_hugeLength_7cf53, Cond.static yJ8_hugeLength_7cf53, Cond.code yJ8_hugeLength_7cf53 cJ8_hugeLength_7cf53 3 (some .int), Cond.methodLink RJx4a65c 66 yJ7_copyOf_1904c, Cond.static yJ7_copyOf_1904c, Cond.initialized RJ7, Cond.code yJ7_copyOf_1904c cJ7_copyOf_1904c 2 (some (.array (.object "java/lang/Object"))), Cond.methodLink RJ7 86 ⟨"java/lang/Object", "getClass", "()Ljava/lang/Class;"⟩, Cond.selects "[Ljava/lang/Object;" ⟨"java/lang/Object", "getClass", "()Ljava/lang/Class;"⟩ ⟨"java/lang/Object", "getClass", "()Ljava/lang/Class;"⟩, Cond.instanceMethod ⟨"java/lang/Object", "getClass", "()Ljava/lang/Class;"⟩, Cond.native ⟨"java/lang/Object", "getClass", "()Ljava/lang/Class;"⟩, Cond.methodLink RJ7 300 yJ7_copyOf_6403c, Cond.static yJ7_copyOf_6403c, Cond.code yJ7_copyOf_6403c cJ7_copyOf_6403c 4 (some (.array (.object "java/lang/Object"))), Cond.classLink RJ7 110 "[Ljava/lang/Object;"]
def wsX7_hand_r6 : List Cond := [Cond.classLink RJ7 2 "java/lang/Object", Cond.methodLink RJ7 304 Lib.Math.min.name, Cond.static Lib.Math.min.name, Cond.code Lib.Math.min.name Lib.Math.min.code 2 (some .int), Cond.methodLink RJ7 150 arraycopyName, Cond.native arraycopyName, Cond.static arraycopyName, Cond.initialized "java/lang/System"]
def wsX7_hand : List Cond := .code yX7_hand cX7_hand 7 (some .int) :: ((wsX7_hand_r1 ++ (wsX7_hand_r2 ++ (wsX7_hand_r3 ++ (wsX7_hand_r4 ++ (wsX7_hand_r5 ++ wsX7_hand_r6))))) ++ wsX70 ++ wsX00 ++ wsJx4a65c0 ++ wsX50)
def wsX7_upPoints_r1 : List Cond := [Cond.fieldLink RX7 54 "ServiceGame" "rounds" "I", Cond.methodLink RX7 258 Lib.Math.min.name, Cond.static Lib.Math.min.name, Cond.initialized "java/lang/Math", Cond.code Lib.Math.min.name Lib.Math.min.code 2 (some .int), Cond.fieldLink RX7 16 "ServiceGame" "services" "Ljava/util/ArrayList;", Cond.classLink RX7 62 "ServiceGame$Service", Cond.methodLink RX7 140 yJx4a65c_size_8abf5, Cond.instanceMethod yJx4a65c_size_8abf5, Cond.selects RJx4a65c yJx4a65c_size_8abf5 yJx4a65c_size_8abf5, Cond.initialized RJx4a65c, Cond.code yJx4a65c_size_8abf5 cJx4a65c_size_8abf5 1 (some .int), Cond.fieldLink RJx4a65c 48 "java/util/ArrayList" "size" "I", Cond.methodLink RX7 142 yJx4a65c_get_915e3, Cond.instanceMethod yJx4a65c_get_915e3, Cond.selects RJx4a65c yJx4a65c_get_915e3 yJx4a65c_get_915e3, Cond.code yJx4a65c_get_915e3 cJx4a65c_get_915e3 2 (some (.object "java/lang/Object")), Cond.methodLink RJx4a65c 118 yJ15_checkIndex_7cf53, Cond.static yJ15_checkIndex_7cf53, Cond.initialized RJ15, Cond.code yJ15_checkIndex_7cf53 cJ15_checkIndex_7cf53 2 (some .int), Cond.methodLink RJ15 105 yJ3_checkIndex_8e157, Cond.static yJ3_checkIndex_8e157, Cond.initialized RJ3]
def wsX7_upPoints_r2 : List Cond := [Cond.code yJ3_checkIndex_8e157 cJ3_checkIndex_8e157 3 (some .int), Cond.methodLink RJx4a65c 123 yJx4a65c_elementData_915e3, Cond.instanceMethod yJx4a65c_elementData_915e3, Cond.selects RJx4a65c yJx4a65c_elementData_915e3 yJx4a65c_elementData_915e3, Cond.code yJx4a65c_elementData_915e3 cJx4a65c_elementData_915e3 2 (some (.object "java/lang/Object")), Cond.fieldLink RJx4a65c 9 "java/util/ArrayList" "elementData" "[Ljava/lang/Object;"]
def wsX7_upPoints : List Cond := .code yX7_upPoints cX7_upPoints 7 (some .int) :: ((wsX7_upPoints_r1 ++ wsX7_upPoints_r2) ++ wsX70 ++ wsX50 ++ wsJx4a65c0)
def wsX7_share : List Cond := .code yX7_share cX7_share 1 (some .int) :: ([])
def wsX7_stolenPoints_r1 : List Cond := [Cond.fieldLink RX7 20 "ServiceGame" "log" "Ljava/util/ArrayList;", Cond.classLink RX7 191 "ServiceGame$HandIn", Cond.methodLink RX7 140 yJx4a65c_size_8abf5, Cond.instanceMethod yJx4a65c_size_8abf5, Cond.selects RJx4a65c yJx4a65c_size_8abf5 yJx4a65c_size_8abf5, Cond.initialized RJx4a65c, Cond.code yJx4a65c_size_8abf5 cJx4a65c_size_8abf5 1 (some .int), Cond.fieldLink RJx4a65c 48 "java/util/ArrayList" "size" "I", Cond.methodLink RX7 142 yJx4a65c_get_915e3, Cond.instanceMethod yJx4a65c_get_915e3, Cond.selects RJx4a65c yJx4a65c_get_915e3 yJx4a65c_get_915e3, Cond.code yJx4a65c_get_915e3 cJx4a65c_get_915e3 2 (some (.object "java/lang/Object")), Cond.methodLink RJx4a65c 118 yJ15_checkIndex_7cf53, Cond.static yJ15_checkIndex_7cf53, Cond.initialized RJ15, Cond.code yJ15_checkIndex_7cf53 cJ15_checkIndex_7cf53 2 (some .int), Cond.methodLink RJ15 105 yJ3_checkIndex_8e157, Cond.static yJ3_checkIndex_8e157, Cond.initialized RJ3, Cond.code yJ3_checkIndex_8e157 cJ3_checkIndex_8e157 3 (some .int), Cond.methodLink RJx4a65c 123 yJx4a65c_elementData_915e3, Cond.instanceMethod yJx4a65c_elementData_915e3, Cond.selects RJx4a65c yJx4a65c_elementData_915e3 yJx4a65c_elementData_915e3, Cond.code yJx4a65c_elementData_915e3 cJx4a65c_elementData_915e3 2 (some (.object "java/lang/Object"))]
def wsX7_stolenPoints_r2 : List Cond := [Cond.fieldLink RJx4a65c 9 "java/util/ArrayList" "elementData" "[Ljava/lang/Object;", Cond.instanceMethod yX5_isTaken, Cond.initialized RX5, Cond.selects RX5 yX5_isTaken yX5_isTaken, Cond.code yX5_isTaken cX5_isTaken 5 (some .boolean), Cond.fieldLink RX5 18 "ServiceGame$Service" "takenAfter" "[I", Cond.instanceMethod yX5_takers, Cond.selects RX5 yX5_takers yX5_takers, Cond.code yX5_takers cX5_takers 5 (some .int), Cond.methodLink RX5 47 yX5_isTaken, Cond.methodLink RX7 274 yX7_share, Cond.static yX7_share, Cond.initialized RX7, Cond.code yX7_share cX7_share 1 (some .int)]
def wsX7_stolenPoints : List Cond := .code yX7_stolenPoints cX7_stolenPoints 6 (some .int) :: ((wsX7_stolenPoints_r1 ++ wsX7_stolenPoints_r2) ++ wsX70 ++ wsX00 ++ wsJx4a65c0 ++ wsX50)
def wsX7_takenOff_r1 : List Cond := [Cond.fieldLink RX7 20 "ServiceGame" "log" "Ljava/util/ArrayList;", Cond.classLink RX7 191 "ServiceGame$HandIn", Cond.methodLink RX7 140 yJx4a65c_size_8abf5, Cond.instanceMethod yJx4a65c_size_8abf5, Cond.selects RJx4a65c yJx4a65c_size_8abf5 yJx4a65c_size_8abf5, Cond.initialized RJx4a65c, Cond.code yJx4a65c_size_8abf5 cJx4a65c_size_8abf5 1 (some .int), Cond.fieldLink RJx4a65c 48 "java/util/ArrayList" "size" "I", Cond.methodLink RX7 142 yJx4a65c_get_915e3, Cond.instanceMethod yJx4a65c_get_915e3, Cond.selects RJx4a65c yJx4a65c_get_915e3 yJx4a65c_get_915e3, Cond.code yJx4a65c_get_915e3 cJx4a65c_get_915e3 2 (some (.object "java/lang/Object")), Cond.methodLink RJx4a65c 118 yJ15_checkIndex_7cf53, Cond.static yJ15_checkIndex_7cf53, Cond.initialized RJ15, Cond.code yJ15_checkIndex_7cf53 cJ15_checkIndex_7cf53 2 (some .int), Cond.methodLink RJ15 105 yJ3_checkIndex_8e157, Cond.static yJ3_checkIndex_8e157, Cond.initialized RJ3, Cond.code yJ3_checkIndex_8e157 cJ3_checkIndex_8e157 3 (some .int), Cond.methodLink RJx4a65c 123 yJx4a65c_elementData_915e3, Cond.instanceMethod yJx4a65c_elementData_915e3, Cond.selects RJx4a65c yJx4a65c_elementData_915e3 yJx4a65c_elementData_915e3, Cond.code yJx4a65c_elementData_915e3 cJx4a65c_elementData_915e3 2 (some (.object "java/lang/Object"))]
def wsX7_takenOff_r2 : List Cond := [Cond.fieldLink RJx4a65c 9 "java/util/ArrayList" "elementData" "[Ljava/lang/Object;", Cond.instanceMethod yX5_isTaken, Cond.initialized RX5, Cond.selects RX5 yX5_isTaken yX5_isTaken, Cond.code yX5_isTaken cX5_isTaken 5 (some .boolean), Cond.fieldLink RX5 18 "ServiceGame$Service" "takenAfter" "[I"]
def wsX7_takenOff : List Cond := .code yX7_takenOff cX7_takenOff 6 (some .int) :: ((wsX7_takenOff_r1 ++ wsX7_takenOff_r2) ++ wsX70 ++ wsX00 ++ wsX50 ++ wsJx4a65c0)
def wsX7_pointsAhead_r1 : List Cond := [Cond.methodLink RX7 201 yX7_upPoints, Cond.instanceMethod yX7_upPoints, Cond.selects RX7 yX7_upPoints yX7_upPoints, Cond.initialized RX7, Cond.code yX7_upPoints cX7_upPoints 7 (some .int), Cond.fieldLink RX7 54 "ServiceGame" "rounds" "I", Cond.methodLink RX7 258 Lib.Math.min.name, Cond.static Lib.Math.min.name, Cond.initialized "java/lang/Math", Cond.code Lib.Math.min.name Lib.Math.min.code 2 (some .int), Cond.fieldLink RX7 16 "ServiceGame" "services" "Ljava/util/ArrayList;", Cond.classLink RX7 62 "ServiceGame$Service", Cond.methodLink RX7 140 yJx4a65c_size_8abf5, Cond.instanceMethod yJx4a65c_size_8abf5, Cond.selects RJx4a65c yJx4a65c_size_8abf5 yJx4a65c_size_8abf5, Cond.initialized RJx4a65c, Cond.code yJx4a65c_size_8abf5 cJx4a65c_size_8abf5 1 (some .int), Cond.fieldLink RJx4a65c 48 "java/util/ArrayList" "size" "I", Cond.methodLink RX7 142 yJx4a65c_get_915e3, Cond.instanceMethod yJx4a65c_get_915e3, Cond.selects RJx4a65c yJx4a65c_get_915e3 yJx4a65c_get_915e3, Cond.code yJx4a65c_get_915e3 cJx4a65c_get_915e3 2 (some (.object "java/lang/Object")), Cond.methodLink RJx4a65c 118 yJ15_checkIndex_7cf53, Cond.static yJ15_checkIndex_7cf53]
def wsX7_pointsAhead_r2 : List Cond := [Cond.initialized RJ15, Cond.code yJ15_checkIndex_7cf53 cJ15_checkIndex_7cf53 2 (some .int), Cond.methodLink RJ15 105 yJ3_checkIndex_8e157, Cond.static yJ3_checkIndex_8e157, Cond.initialized RJ3, Cond.code yJ3_checkIndex_8e157 cJ3_checkIndex_8e157 3 (some .int), Cond.methodLink RJx4a65c 123 yJx4a65c_elementData_915e3, Cond.instanceMethod yJx4a65c_elementData_915e3, Cond.selects RJx4a65c yJx4a65c_elementData_915e3 yJx4a65c_elementData_915e3, Cond.code yJx4a65c_elementData_915e3 cJx4a65c_elementData_915e3 2 (some (.object "java/lang/Object")), Cond.fieldLink RJx4a65c 9 "java/util/ArrayList" "elementData" "[Ljava/lang/Object;", Cond.methodLink RX7 204 yX7_stolenPoints, Cond.instanceMethod yX7_stolenPoints, Cond.selects RX7 yX7_stolenPoints yX7_stolenPoints, Cond.code yX7_stolenPoints cX7_stolenPoints 6 (some .int), Cond.fieldLink RX7 20 "ServiceGame" "log" "Ljava/util/ArrayList;", Cond.classLink RX7 191 "ServiceGame$HandIn", Cond.instanceMethod yX5_isTaken, Cond.initialized RX5, Cond.selects RX5 yX5_isTaken yX5_isTaken, Cond.code yX5_isTaken cX5_isTaken 5 (some .boolean), Cond.fieldLink RX5 18 "ServiceGame$Service" "takenAfter" "[I", Cond.instanceMethod yX5_takers, Cond.selects RX5 yX5_takers yX5_takers]
def wsX7_pointsAhead_r3 : List Cond := [Cond.code yX5_takers cX5_takers 5 (some .int), Cond.methodLink RX5 47 yX5_isTaken, Cond.methodLink RX7 274 yX7_share, Cond.static yX7_share, Cond.code yX7_share cX7_share 1 (some .int), Cond.methodLink RX7 207 yX7_takenOff, Cond.instanceMethod yX7_takenOff, Cond.selects RX7 yX7_takenOff yX7_takenOff, Cond.code yX7_takenOff cX7_takenOff 6 (some .int)]
def wsX7_pointsAhead : List Cond := .code yX7_pointsAhead cX7_pointsAhead 3 (some .int) :: ((wsX7_pointsAhead_r1 ++ (wsX7_pointsAhead_r2 ++ wsX7_pointsAhead_r3)) ++ wsX70 ++ wsX50 ++ wsJx4a65c0 ++ wsX00)
def wsX7_handInsBy_r1 : List Cond := [Cond.fieldLink RX7 20 "ServiceGame" "log" "Ljava/util/ArrayList;", Cond.classLink RX7 191 "ServiceGame$HandIn", Cond.methodLink RX7 140 yJx4a65c_size_8abf5, Cond.instanceMethod yJx4a65c_size_8abf5, Cond.selects RJx4a65c yJx4a65c_size_8abf5 yJx4a65c_size_8abf5, Cond.initialized RJx4a65c, Cond.code yJx4a65c_size_8abf5 cJx4a65c_size_8abf5 1 (some .int), Cond.fieldLink RJx4a65c 48 "java/util/ArrayList" "size" "I", Cond.methodLink RX7 142 yJx4a65c_get_915e3, Cond.instanceMethod yJx4a65c_get_915e3, Cond.selects RJx4a65c yJx4a65c_get_915e3 yJx4a65c_get_915e3, Cond.code yJx4a65c_get_915e3 cJx4a65c_get_915e3 2 (some (.object "java/lang/Object")), Cond.methodLink RJx4a65c 118 yJ15_checkIndex_7cf53, Cond.static yJ15_checkIndex_7cf53, Cond.initialized RJ15, Cond.code yJ15_checkIndex_7cf53 cJ15_checkIndex_7cf53 2 (some .int), Cond.methodLink RJ15 105 yJ3_checkIndex_8e157, Cond.static yJ3_checkIndex_8e157, Cond.initialized RJ3, Cond.code yJ3_checkIndex_8e157 cJ3_checkIndex_8e157 3 (some .int), Cond.methodLink RJx4a65c 123 yJx4a65c_elementData_915e3, Cond.instanceMethod yJx4a65c_elementData_915e3, Cond.selects RJx4a65c yJx4a65c_elementData_915e3 yJx4a65c_elementData_915e3, Cond.code yJx4a65c_elementData_915e3 cJx4a65c_elementData_915e3 2 (some (.object "java/lang/Object"))]
def wsX7_handInsBy_r2 : List Cond := [Cond.fieldLink RJx4a65c 9 "java/util/ArrayList" "elementData" "[Ljava/lang/Object;"]
def wsX7_handInsBy : List Cond := .code yX7_handInsBy cX7_handInsBy 4 (some .int) :: ((wsX7_handInsBy_r1 ++ wsX7_handInsBy_r2) ++ wsX70 ++ wsX00 ++ wsJx4a65c0)
def wsX7_points_r1 : List Cond := [Cond.constant RX7 196 (-1000000), Cond.methodLink RX7 117 yX7_isTeam, Cond.instanceMethod yX7_isTeam, Cond.selects RX7 yX7_isTeam yX7_isTeam, Cond.initialized RX7, Cond.code yX7_isTeam cX7_isTeam 2 (some .boolean), Cond.methodLink RX7 58 yX7_teams, Cond.instanceMethod yX7_teams, Cond.selects RX7 yX7_teams yX7_teams, Cond.code yX7_teams cX7_teams 1 (some .int), Cond.fieldLink RX7 16 "ServiceGame" "services" "Ljava/util/ArrayList;", Cond.methodLink RX7 140 yJx4a65c_size_8abf5, Cond.instanceMethod yJx4a65c_size_8abf5, Cond.selects RJx4a65c yJx4a65c_size_8abf5 yJx4a65c_size_8abf5, Cond.initialized RJx4a65c, Cond.code yJx4a65c_size_8abf5 cJx4a65c_size_8abf5 1 (some .int), Cond.fieldLink RJx4a65c 48 "java/util/ArrayList" "size" "I", Cond.methodLink RX7 197 yX7_pointsAhead, Cond.instanceMethod yX7_pointsAhead, Cond.selects RX7 yX7_pointsAhead yX7_pointsAhead, Cond.code yX7_pointsAhead cX7_pointsAhead 3 (some .int), Cond.methodLink RX7 201 yX7_upPoints, Cond.instanceMethod yX7_upPoints, Cond.selects RX7 yX7_upPoints yX7_upPoints]
def wsX7_points_r2 : List Cond := [Cond.code yX7_upPoints cX7_upPoints 7 (some .int), Cond.fieldLink RX7 54 "ServiceGame" "rounds" "I", Cond.methodLink RX7 258 Lib.Math.min.name, Cond.static Lib.Math.min.name, Cond.initialized "java/lang/Math", Cond.code Lib.Math.min.name Lib.Math.min.code 2 (some .int), Cond.classLink RX7 62 "ServiceGame$Service", Cond.methodLink RX7 142 yJx4a65c_get_915e3, Cond.instanceMethod yJx4a65c_get_915e3, Cond.selects RJx4a65c yJx4a65c_get_915e3 yJx4a65c_get_915e3, Cond.code yJx4a65c_get_915e3 cJx4a65c_get_915e3 2 (some (.object "java/lang/Object")), Cond.methodLink RJx4a65c 118 yJ15_checkIndex_7cf53, Cond.static yJ15_checkIndex_7cf53, Cond.initialized RJ15, Cond.code yJ15_checkIndex_7cf53 cJ15_checkIndex_7cf53 2 (some .int), Cond.methodLink RJ15 105 yJ3_checkIndex_8e157, Cond.static yJ3_checkIndex_8e157, Cond.initialized RJ3, Cond.code yJ3_checkIndex_8e157 cJ3_checkIndex_8e157 3 (some .int), Cond.methodLink RJx4a65c 123 yJx4a65c_elementData_915e3, Cond.instanceMethod yJx4a65c_elementData_915e3, Cond.selects RJx4a65c yJx4a65c_elementData_915e3 yJx4a65c_elementData_915e3, Cond.code yJx4a65c_elementData_915e3 cJx4a65c_elementData_915e3 2 (some (.object "java/lang/Object")), Cond.fieldLink RJx4a65c 9 "java/util/ArrayList" "elementData" "[Ljava/lang/Object;"]
def wsX7_points_r3 : List Cond := [Cond.methodLink RX7 204 yX7_stolenPoints, Cond.instanceMethod yX7_stolenPoints, Cond.selects RX7 yX7_stolenPoints yX7_stolenPoints, Cond.code yX7_stolenPoints cX7_stolenPoints 6 (some .int), Cond.fieldLink RX7 20 "ServiceGame" "log" "Ljava/util/ArrayList;", Cond.classLink RX7 191 "ServiceGame$HandIn", Cond.instanceMethod yX5_isTaken, Cond.initialized RX5, Cond.selects RX5 yX5_isTaken yX5_isTaken, Cond.code yX5_isTaken cX5_isTaken 5 (some .boolean), Cond.fieldLink RX5 18 "ServiceGame$Service" "takenAfter" "[I", Cond.instanceMethod yX5_takers, Cond.selects RX5 yX5_takers yX5_takers, Cond.code yX5_takers cX5_takers 5 (some .int), Cond.methodLink RX5 47 yX5_isTaken, Cond.methodLink RX7 274 yX7_share, Cond.static yX7_share, Cond.code yX7_share cX7_share 1 (some .int), Cond.methodLink RX7 207 yX7_takenOff, Cond.instanceMethod yX7_takenOff, Cond.selects RX7 yX7_takenOff yX7_takenOff, Cond.code yX7_takenOff cX7_takenOff 6 (some .int), Cond.methodLink RX7 210 yX7_handInsBy, Cond.instanceMethod yX7_handInsBy]
def wsX7_points_r4 : List Cond := [Cond.selects RX7 yX7_handInsBy yX7_handInsBy, Cond.code yX7_handInsBy cX7_handInsBy 4 (some .int)]
def wsX7_points : List Cond := .code yX7_points cX7_points 3 (some .int) :: ((wsX7_points_r1 ++ (wsX7_points_r2 ++ (wsX7_points_r3 ++ wsX7_points_r4))) ++ wsX70 ++ wsJx4a65c0 ++ wsX50 ++ wsX00)
def wsX7_placeOnBoard : List Cond := .code yX7_placeOnBoard cX7_placeOnBoard 7 (some .int) :: ([.fieldLink RX7 51 "ServiceGame" "boardPoints" "[I"] ++ wsX70)
def wsX7_board_r1 : List Cond := [Cond.constant RX7 196 (-1000000), Cond.fieldLink RX7 51 "ServiceGame" "boardPoints" "[I", Cond.fieldLink RX7 7 "ServiceGame" "settings" "[I", Cond.methodLink RX7 117 yX7_isTeam, Cond.instanceMethod yX7_isTeam, Cond.selects RX7 yX7_isTeam yX7_isTeam, Cond.initialized RX7, Cond.code yX7_isTeam cX7_isTeam 2 (some .boolean), Cond.methodLink RX7 58 yX7_teams, Cond.instanceMethod yX7_teams, Cond.selects RX7 yX7_teams yX7_teams, Cond.code yX7_teams cX7_teams 1 (some .int), Cond.fieldLink RX7 16 "ServiceGame" "services" "Ljava/util/ArrayList;", Cond.methodLink RX7 140 yJx4a65c_size_8abf5, Cond.instanceMethod yJx4a65c_size_8abf5, Cond.selects RJx4a65c yJx4a65c_size_8abf5 yJx4a65c_size_8abf5, Cond.initialized RJx4a65c, Cond.code yJx4a65c_size_8abf5 cJx4a65c_size_8abf5 1 (some .int), Cond.fieldLink RJx4a65c 48 "java/util/ArrayList" "size" "I", Cond.methodLink RX7 197 yX7_pointsAhead, Cond.instanceMethod yX7_pointsAhead, Cond.selects RX7 yX7_pointsAhead yX7_pointsAhead, Cond.code yX7_pointsAhead cX7_pointsAhead 3 (some .int), Cond.methodLink RX7 201 yX7_upPoints]
def wsX7_board_r2 : List Cond := [Cond.instanceMethod yX7_upPoints, Cond.selects RX7 yX7_upPoints yX7_upPoints, Cond.code yX7_upPoints cX7_upPoints 7 (some .int), Cond.fieldLink RX7 54 "ServiceGame" "rounds" "I", Cond.methodLink RX7 258 Lib.Math.min.name, Cond.static Lib.Math.min.name, Cond.initialized "java/lang/Math", Cond.code Lib.Math.min.name Lib.Math.min.code 2 (some .int), Cond.classLink RX7 62 "ServiceGame$Service", Cond.methodLink RX7 142 yJx4a65c_get_915e3, Cond.instanceMethod yJx4a65c_get_915e3, Cond.selects RJx4a65c yJx4a65c_get_915e3 yJx4a65c_get_915e3, Cond.code yJx4a65c_get_915e3 cJx4a65c_get_915e3 2 (some (.object "java/lang/Object")), Cond.methodLink RJx4a65c 118 yJ15_checkIndex_7cf53, Cond.static yJ15_checkIndex_7cf53, Cond.initialized RJ15, Cond.code yJ15_checkIndex_7cf53 cJ15_checkIndex_7cf53 2 (some .int), Cond.methodLink RJ15 105 yJ3_checkIndex_8e157, Cond.static yJ3_checkIndex_8e157, Cond.initialized RJ3, Cond.code yJ3_checkIndex_8e157 cJ3_checkIndex_8e157 3 (some .int), Cond.methodLink RJx4a65c 123 yJx4a65c_elementData_915e3, Cond.instanceMethod yJx4a65c_elementData_915e3, Cond.selects RJx4a65c yJx4a65c_elementData_915e3 yJx4a65c_elementData_915e3]
def wsX7_board_r3 : List Cond := [Cond.code yJx4a65c_elementData_915e3 cJx4a65c_elementData_915e3 2 (some (.object "java/lang/Object")), Cond.fieldLink RJx4a65c 9 "java/util/ArrayList" "elementData" "[Ljava/lang/Object;", Cond.methodLink RX7 204 yX7_stolenPoints, Cond.instanceMethod yX7_stolenPoints, Cond.selects RX7 yX7_stolenPoints yX7_stolenPoints, Cond.code yX7_stolenPoints cX7_stolenPoints 6 (some .int), Cond.fieldLink RX7 20 "ServiceGame" "log" "Ljava/util/ArrayList;", Cond.classLink RX7 191 "ServiceGame$HandIn", Cond.instanceMethod yX5_isTaken, Cond.initialized RX5, Cond.selects RX5 yX5_isTaken yX5_isTaken, Cond.code yX5_isTaken cX5_isTaken 5 (some .boolean), Cond.fieldLink RX5 18 "ServiceGame$Service" "takenAfter" "[I", Cond.instanceMethod yX5_takers, Cond.selects RX5 yX5_takers yX5_takers, Cond.code yX5_takers cX5_takers 5 (some .int), Cond.methodLink RX5 47 yX5_isTaken, Cond.methodLink RX7 274 yX7_share, Cond.static yX7_share, Cond.code yX7_share cX7_share 1 (some .int), Cond.methodLink RX7 207 yX7_takenOff, Cond.instanceMethod yX7_takenOff, Cond.selects RX7 yX7_takenOff yX7_takenOff, Cond.code yX7_takenOff cX7_takenOff 6 (some .int)]
def wsX7_board_r4 : List Cond := [Cond.methodLink RX7 213 yX7_placeOnBoard, Cond.instanceMethod yX7_placeOnBoard, Cond.selects RX7 yX7_placeOnBoard yX7_placeOnBoard, Cond.code yX7_placeOnBoard cX7_placeOnBoard 7 (some .int)]
def wsX7_board : List Cond := .code yX7_board cX7_board 5 (some .int) :: ((wsX7_board_r1 ++ (wsX7_board_r2 ++ (wsX7_board_r3 ++ wsX7_board_r4))) ++ wsX70 ++ wsJx4a65c0 ++ wsX50 ++ wsX00)
def wsJ6_bitCount_0f7a4 : List Cond := .code yJ6_bitCount_0f7a4 cJ6_bitCount_0f7a4 1 (some .int) :: ([.constant RJ6 265 (1431655765), .constant RJ6 266 (858993459), .constant RJ6 267 (252645135)])
def wsX7_gainFromFlag : List Cond := .code yX7_gainFromFlag cX7_gainFromFlag 10 (some .int) :: ([.fieldLink RX7 54 "ServiceGame" "rounds" "I", .instanceMethod yX5_takers, .initialized RX5, .selects RX5 yX5_takers yX5_takers, .code yX5_takers cX5_takers 5 (some .int), .methodLink RX5 47 yX5_isTaken, .instanceMethod yX5_isTaken, .selects RX5 yX5_isTaken yX5_isTaken, .code yX5_isTaken cX5_isTaken 5 (some .boolean), .fieldLink RX5 18 "ServiceGame$Service" "takenAfter" "[I", .methodLink RX7 216 yJ6_bitCount_0f7a4, .static yJ6_bitCount_0f7a4, .initialized RJ6, .code yJ6_bitCount_0f7a4 cJ6_bitCount_0f7a4 1 (some .int), .constant RJ6 265 (1431655765), .constant RJ6 266 (858993459), .constant RJ6 267 (252645135), .methodLink RX7 274 yX7_share, .static yX7_share, .initialized RX7, .code yX7_share cX7_share 1 (some .int)] ++ wsX70 ++ wsX50)
def wsX7_gain_r1 : List Cond := [Cond.constant RX7 196 (-1000000), Cond.fieldLink RX7 54 "ServiceGame" "rounds" "I", Cond.constant RX7 221 (-1000001), Cond.fieldLink RX7 16 "ServiceGame" "services" "Ljava/util/ArrayList;", Cond.classLink RX7 62 "ServiceGame$Service", Cond.methodLink RX7 58 yX7_teams, Cond.instanceMethod yX7_teams, Cond.selects RX7 yX7_teams yX7_teams, Cond.initialized RX7, Cond.code yX7_teams cX7_teams 1 (some .int), Cond.methodLink RX7 140 yJx4a65c_size_8abf5, Cond.instanceMethod yJx4a65c_size_8abf5, Cond.selects RJx4a65c yJx4a65c_size_8abf5 yJx4a65c_size_8abf5, Cond.initialized RJx4a65c, Cond.code yJx4a65c_size_8abf5 cJx4a65c_size_8abf5 1 (some .int), Cond.fieldLink RJx4a65c 48 "java/util/ArrayList" "size" "I", Cond.methodLink RX7 216 yJ6_bitCount_0f7a4, Cond.static yJ6_bitCount_0f7a4, Cond.initialized RJ6, Cond.code yJ6_bitCount_0f7a4 cJ6_bitCount_0f7a4 1 (some .int), Cond.constant RJ6 265 (1431655765), Cond.constant RJ6 266 (858993459), Cond.constant RJ6 267 (252645135), Cond.methodLink RX7 142 yJx4a65c_get_915e3]
def wsX7_gain_r2 : List Cond := [Cond.instanceMethod yJx4a65c_get_915e3, Cond.selects RJx4a65c yJx4a65c_get_915e3 yJx4a65c_get_915e3, Cond.code yJx4a65c_get_915e3 cJx4a65c_get_915e3 2 (some (.object "java/lang/Object")), Cond.methodLink RJx4a65c 118 yJ15_checkIndex_7cf53, Cond.static yJ15_checkIndex_7cf53, Cond.initialized RJ15, Cond.code yJ15_checkIndex_7cf53 cJ15_checkIndex_7cf53 2 (some .int), Cond.methodLink RJ15 105 yJ3_checkIndex_8e157, Cond.static yJ3_checkIndex_8e157, Cond.initialized RJ3, Cond.code yJ3_checkIndex_8e157 cJ3_checkIndex_8e157 3 (some .int), Cond.methodLink RJx4a65c 123 yJx4a65c_elementData_915e3, Cond.instanceMethod yJx4a65c_elementData_915e3, Cond.selects RJx4a65c yJx4a65c_elementData_915e3 yJx4a65c_elementData_915e3, Cond.code yJx4a65c_elementData_915e3 cJx4a65c_elementData_915e3 2 (some (.object "java/lang/Object")), Cond.fieldLink RJx4a65c 9 "java/util/ArrayList" "elementData" "[Ljava/lang/Object;", Cond.methodLink RX7 225 yX7_gainFromFlag, Cond.instanceMethod yX7_gainFromFlag, Cond.selects RX7 yX7_gainFromFlag yX7_gainFromFlag, Cond.code yX7_gainFromFlag cX7_gainFromFlag 10 (some .int), Cond.instanceMethod yX5_takers, Cond.initialized RX5, Cond.selects RX5 yX5_takers yX5_takers, Cond.code yX5_takers cX5_takers 5 (some .int)]
def wsX7_gain_r3 : List Cond := [Cond.methodLink RX5 47 yX5_isTaken, Cond.instanceMethod yX5_isTaken, Cond.selects RX5 yX5_isTaken yX5_isTaken, Cond.code yX5_isTaken cX5_isTaken 5 (some .boolean), Cond.fieldLink RX5 18 "ServiceGame$Service" "takenAfter" "[I", Cond.methodLink RX7 274 yX7_share, Cond.static yX7_share, Cond.code yX7_share cX7_share 1 (some .int)]
def wsX7_gain : List Cond := .code yX7_gain cX7_gain 5 (some .int) :: ((wsX7_gain_r1 ++ (wsX7_gain_r2 ++ wsX7_gain_r3)) ++ wsX70 ++ wsX50 ++ wsJx4a65c0)
def wsX7_alike_r1 : List Cond := [Cond.fieldLink RX7 54 "ServiceGame" "rounds" "I", Cond.methodLink RX7 78 yX7_find, Cond.instanceMethod yX7_find, Cond.selects RX7 yX7_find yX7_find, Cond.initialized RX7, Cond.code yX7_find cX7_find 3 (some (.object "ServiceGame$Service")), Cond.fieldLink RX7 16 "ServiceGame" "services" "Ljava/util/ArrayList;", Cond.classLink RX7 62 "ServiceGame$Service", Cond.methodLink RX7 117 yX7_isTeam, Cond.instanceMethod yX7_isTeam, Cond.selects RX7 yX7_isTeam yX7_isTeam, Cond.code yX7_isTeam cX7_isTeam 2 (some .boolean), Cond.methodLink RX7 58 yX7_teams, Cond.instanceMethod yX7_teams, Cond.selects RX7 yX7_teams yX7_teams, Cond.code yX7_teams cX7_teams 1 (some .int), Cond.methodLink RX7 140 yJx4a65c_size_8abf5, Cond.instanceMethod yJx4a65c_size_8abf5, Cond.selects RJx4a65c yJx4a65c_size_8abf5 yJx4a65c_size_8abf5, Cond.initialized RJx4a65c, Cond.code yJx4a65c_size_8abf5 cJx4a65c_size_8abf5 1 (some .int), Cond.fieldLink RJx4a65c 48 "java/util/ArrayList" "size" "I", Cond.methodLink RX7 142 yJx4a65c_get_915e3, Cond.instanceMethod yJx4a65c_get_915e3]
def wsX7_alike_r2 : List Cond := [Cond.selects RJx4a65c yJx4a65c_get_915e3 yJx4a65c_get_915e3, Cond.code yJx4a65c_get_915e3 cJx4a65c_get_915e3 2 (some (.object "java/lang/Object")), Cond.methodLink RJx4a65c 118 yJ15_checkIndex_7cf53, Cond.static yJ15_checkIndex_7cf53, Cond.initialized RJ15, Cond.code yJ15_checkIndex_7cf53 cJ15_checkIndex_7cf53 2 (some .int), Cond.methodLink RJ15 105 yJ3_checkIndex_8e157, Cond.static yJ3_checkIndex_8e157, Cond.initialized RJ3, Cond.code yJ3_checkIndex_8e157 cJ3_checkIndex_8e157 3 (some .int), Cond.methodLink RJx4a65c 123 yJx4a65c_elementData_915e3, Cond.instanceMethod yJx4a65c_elementData_915e3, Cond.selects RJx4a65c yJx4a65c_elementData_915e3 yJx4a65c_elementData_915e3, Cond.code yJx4a65c_elementData_915e3 cJx4a65c_elementData_915e3 2 (some (.object "java/lang/Object")), Cond.fieldLink RJx4a65c 9 "java/util/ArrayList" "elementData" "[Ljava/lang/Object;"]
def wsX7_alike : List Cond := .code yX7_alike cX7_alike 4 (some .int) :: ((wsX7_alike_r1 ++ wsX7_alike_r2) ++ wsX70 ++ wsX50 ++ wsJx4a65c0)
def wsX7_count : List Cond := .code yX7_count cX7_count 2 (some .int) :: ([.fieldLink RX7 54 "ServiceGame" "rounds" "I", .fieldLink RX7 20 "ServiceGame" "log" "Ljava/util/ArrayList;", .fieldLink RX7 129 "ServiceGame" "lettersInAll" "I", .fieldLink RX7 26 "ServiceGame" "tape" "LServiceGame$Tape;", .fieldLink RX7 40 "ServiceGame" "machine" "LServiceGame$Machine;", .methodLink RX7 58 yX7_teams, .instanceMethod yX7_teams, .selects RX7 yX7_teams yX7_teams, .initialized RX7, .code yX7_teams cX7_teams 1 (some .int), .fieldLink RX7 16 "ServiceGame" "services" "Ljava/util/ArrayList;", .methodLink RX7 140 yJx4a65c_size_8abf5, .instanceMethod yJx4a65c_size_8abf5, .selects RJx4a65c yJx4a65c_size_8abf5 yJx4a65c_size_8abf5, .initialized RJx4a65c, .code yJx4a65c_size_8abf5 cJx4a65c_size_8abf5 1 (some .int), .fieldLink RJx4a65c 48 "java/util/ArrayList" "size" "I"] ++ wsX70 ++ wsX60 ++ wsX10 ++ wsJx4a65c0)
def wsX8_init_r1 : List Cond := [Cond.methodLink RX8 1 objectInit, Cond.instanceMethod objectInit, Cond.code objectInit ⟨#[0xb1]⟩ 1 none, Cond.arrayClass .int, Cond.fieldLink RX8 7 "ServiceGameModel" "tape" "[I", Cond.fieldLink RX8 13 "ServiceGameModel" "step" "[I", Cond.fieldLink RX8 16 "ServiceGameModel" "number" "[I", Cond.fieldLink RX8 19 "ServiceGameModel" "size" "[I", Cond.arrayClass .boolean, Cond.fieldLink RX8 22 "ServiceGameModel" "waits" "[Z", Cond.fieldLink RX8 26 "ServiceGameModel" "readStep" "[I", Cond.fieldLink RX8 29 "ServiceGameModel" "readNumber" "[I", Cond.fieldLink RX8 32 "ServiceGameModel" "cell" "[I", Cond.fieldLink RX8 35 "ServiceGameModel" "kept" "[I", Cond.fieldLink RX8 38 "ServiceGameModel" "brokeMany" "[I", Cond.fieldLink RX8 41 "ServiceGameModel" "fuelMany" "[I", Cond.fieldLink RX8 44 "ServiceGameModel" "upMany" "[I", Cond.fieldLink RX8 47 "ServiceGameModel" "set" "[I", Cond.fieldLink RX8 50 "ServiceGameModel" "pile" "[I", Cond.fieldLink RX8 53 "ServiceGameModel" "letterTo" "[I", Cond.fieldLink RX8 56 "ServiceGameModel" "letterA" "[I", Cond.fieldLink RX8 59 "ServiceGameModel" "letterB" "[I", Cond.fieldLink RX8 62 "ServiceGameModel" "aheadTo" "[I", Cond.fieldLink RX8 65 "ServiceGameModel" "aheadA" "[I"]
def wsX8_init_r2 : List Cond := [Cond.fieldLink RX8 68 "ServiceGameModel" "aheadB" "[I", Cond.fieldLink RX8 71 "ServiceGameModel" "isUp" "[Z", Cond.fieldLink RX8 74 "ServiceGameModel" "which" "[I", Cond.fieldLink RX8 77 "ServiceGameModel" "second" "[I", Cond.fieldLink RX8 80 "ServiceGameModel" "answer" "[I", Cond.fieldLink RX8 83 "ServiceGameModel" "good" "[I", Cond.fieldLink RX8 86 "ServiceGameModel" "order" "[I", Cond.fieldLink RX8 89 "ServiceGameModel" "handedIn" "[I", Cond.fieldLink RX8 92 "ServiceGameModel" "pointsUp" "[I", Cond.fieldLink RX8 95 "ServiceGameModel" "pointsStolen" "[I", Cond.fieldLink RX8 98 "ServiceGameModel" "pointsOff" "[I", Cond.fieldLink RX8 101 "ServiceGameModel" "flags" "[I"]
def wsX8_init : List Cond := .code yX8_init cX8_init 1 none :: ((wsX8_init_r1 ++ wsX8_init_r2) ++ wsX80)
def wsX8_isTeam : List Cond := .code yX8_isTeam cX8_isTeam 2 (some .boolean) :: ([.fieldLink RX8 104 "ServiceGameModel" "teams" "I"] ++ wsX80)
def wsX8_isIn : List Cond := .code yX8_isIn cX8_isIn 6 (some .boolean) :: ([])
def wsX8_isPlace : List Cond := .code yX8_isPlace cX8_isPlace 3 (some .boolean) :: ([.constantLong RX8 112 (2), .methodLink RX8 108 yX8_isTeam, .instanceMethod yX8_isTeam, .selects RX8 yX8_isTeam yX8_isTeam, .initialized RX8, .code yX8_isTeam cX8_isTeam 2 (some .boolean), .fieldLink RX8 104 "ServiceGameModel" "teams" "I", .methodLink RX8 114 yX8_isIn, .static yX8_isIn, .code yX8_isIn cX8_isIn 6 (some .boolean)] ++ wsX80)
def wsX8_team : List Cond := .code yX8_team cX8_team 1 (some .int) :: ([.fieldLink RX8 118 "ServiceGameModel" "rounds" "I", .fieldLink RX8 104 "ServiceGameModel" "teams" "I"] ++ wsX80)
def wsX8_feed : List Cond := .code yX8_feed cX8_feed 5 (some .int) :: ([.constantLong RX8 121 (8), .fieldLink RX8 123 "ServiceGameModel" "taped" "I", .fieldLink RX8 7 "ServiceGameModel" "tape" "[I", .constantLong RX8 126 (255), .methodLink RX8 114 yX8_isIn, .static yX8_isIn, .initialized RX8, .code yX8_isIn cX8_isIn 6 (some .boolean)] ++ wsX80)
def wsX8_sign : List Cond := .code yX8_sign cX8_sign 1 (some .int) :: ([.fieldLink RX8 128 "ServiceGameModel" "at" "I", .fieldLink RX8 123 "ServiceGameModel" "taped" "I", .fieldLink RX8 7 "ServiceGameModel" "tape" "[I"] ++ wsX80)
def wsX8_isDigit : List Cond := .code yX8_isDigit cX8_isDigit 1 (some .boolean) :: ([.methodLink RX8 131 yX8_sign, .instanceMethod yX8_sign, .selects RX8 yX8_sign yX8_sign, .initialized RX8, .code yX8_sign cX8_sign 1 (some .int), .fieldLink RX8 128 "ServiceGameModel" "at" "I", .fieldLink RX8 123 "ServiceGameModel" "taped" "I", .fieldLink RX8 7 "ServiceGameModel" "tape" "[I"] ++ wsX80)
def wsX8_digits : List Cond := .code yX8_digits cX8_digits 4 (some .int) :: ([.fieldLink RX8 128 "ServiceGameModel" "at" "I", .methodLink RX8 135 yX8_isDigit, .instanceMethod yX8_isDigit, .selects RX8 yX8_isDigit yX8_isDigit, .initialized RX8, .code yX8_isDigit cX8_isDigit 1 (some .boolean), .methodLink RX8 131 yX8_sign, .instanceMethod yX8_sign, .selects RX8 yX8_sign yX8_sign, .code yX8_sign cX8_sign 1 (some .int), .fieldLink RX8 123 "ServiceGameModel" "taped" "I", .fieldLink RX8 7 "ServiceGameModel" "tape" "[I"] ++ wsX80)
def wsX8_readsStep : List Cond := .code yX8_readsStep cX8_readsStep 6 (some .boolean) :: ([.fieldLink RX8 128 "ServiceGameModel" "at" "I", .fieldLink RX8 26 "ServiceGameModel" "readStep" "[I", .fieldLink RX8 143 "ServiceGameModel" "readMany" "I", .fieldLink RX8 29 "ServiceGameModel" "readNumber" "[I", .methodLink RX8 131 yX8_sign, .instanceMethod yX8_sign, .selects RX8 yX8_sign yX8_sign, .initialized RX8, .code yX8_sign cX8_sign 1 (some .int), .fieldLink RX8 123 "ServiceGameModel" "taped" "I", .fieldLink RX8 7 "ServiceGameModel" "tape" "[I", .methodLink RX8 135 yX8_isDigit, .instanceMethod yX8_isDigit, .selects RX8 yX8_isDigit yX8_isDigit, .code yX8_isDigit cX8_isDigit 1 (some .boolean), .methodLink RX8 139 yX8_digits, .instanceMethod yX8_digits, .selects RX8 yX8_digits yX8_digits, .code yX8_digits cX8_digits 4 (some .int)] ++ wsX80)
def wsX8_fault : List Cond := .code yX8_fault cX8_fault 2 (some .int) :: ([.fieldLink RX8 128 "ServiceGameModel" "at" "I", .fieldLink RX8 143 "ServiceGameModel" "readMany" "I", .fieldLink RX8 26 "ServiceGameModel" "readStep" "[I", .fieldLink RX8 29 "ServiceGameModel" "readNumber" "[I", .methodLink RX8 146 yX8_readsStep, .instanceMethod yX8_readsStep, .selects RX8 yX8_readsStep yX8_readsStep, .initialized RX8, .code yX8_readsStep cX8_readsStep 6 (some .boolean), .methodLink RX8 131 yX8_sign, .instanceMethod yX8_sign, .selects RX8 yX8_sign yX8_sign, .code yX8_sign cX8_sign 1 (some .int), .fieldLink RX8 123 "ServiceGameModel" "taped" "I", .fieldLink RX8 7 "ServiceGameModel" "tape" "[I", .methodLink RX8 135 yX8_isDigit, .instanceMethod yX8_isDigit, .selects RX8 yX8_isDigit yX8_isDigit, .code yX8_isDigit cX8_isDigit 1 (some .boolean), .methodLink RX8 139 yX8_digits, .instanceMethod yX8_digits, .selects RX8 yX8_digits yX8_digits, .code yX8_digits cX8_digits 4 (some .int)] ++ wsX80)
def wsX8_patch_r1 : List Cond := [Cond.fieldLink RX8 123 "ServiceGameModel" "taped" "I", Cond.fieldLink RX8 143 "ServiceGameModel" "readMany" "I", Cond.fieldLink RX8 13 "ServiceGameModel" "step" "[I", Cond.fieldLink RX8 26 "ServiceGameModel" "readStep" "[I", Cond.fieldLink RX8 16 "ServiceGameModel" "number" "[I", Cond.fieldLink RX8 29 "ServiceGameModel" "readNumber" "[I", Cond.fieldLink RX8 19 "ServiceGameModel" "size" "[I", Cond.fieldLink RX8 22 "ServiceGameModel" "waits" "[Z", Cond.methodLink RX8 149 yX8_isPlace, Cond.instanceMethod yX8_isPlace, Cond.selects RX8 yX8_isPlace yX8_isPlace, Cond.initialized RX8, Cond.code yX8_isPlace cX8_isPlace 3 (some .boolean), Cond.constantLong RX8 112 (2), Cond.methodLink RX8 108 yX8_isTeam, Cond.instanceMethod yX8_isTeam, Cond.selects RX8 yX8_isTeam yX8_isTeam, Cond.code yX8_isTeam cX8_isTeam 2 (some .boolean), Cond.fieldLink RX8 104 "ServiceGameModel" "teams" "I", Cond.methodLink RX8 114 yX8_isIn, Cond.static yX8_isIn, Cond.code yX8_isIn cX8_isIn 6 (some .boolean), Cond.methodLink RX8 153 yX8_fault, Cond.instanceMethod yX8_fault]
def wsX8_patch_r2 : List Cond := [Cond.selects RX8 yX8_fault yX8_fault, Cond.code yX8_fault cX8_fault 2 (some .int), Cond.fieldLink RX8 128 "ServiceGameModel" "at" "I", Cond.methodLink RX8 146 yX8_readsStep, Cond.instanceMethod yX8_readsStep, Cond.selects RX8 yX8_readsStep yX8_readsStep, Cond.code yX8_readsStep cX8_readsStep 6 (some .boolean), Cond.methodLink RX8 131 yX8_sign, Cond.instanceMethod yX8_sign, Cond.selects RX8 yX8_sign yX8_sign, Cond.code yX8_sign cX8_sign 1 (some .int), Cond.fieldLink RX8 7 "ServiceGameModel" "tape" "[I", Cond.methodLink RX8 135 yX8_isDigit, Cond.instanceMethod yX8_isDigit, Cond.selects RX8 yX8_isDigit yX8_isDigit, Cond.code yX8_isDigit cX8_isDigit 1 (some .boolean), Cond.methodLink RX8 139 yX8_digits, Cond.instanceMethod yX8_digits, Cond.selects RX8 yX8_digits yX8_digits, Cond.code yX8_digits cX8_digits 4 (some .int)]
def wsX8_patch : List Cond := .code yX8_patch cX8_patch 6 (some .int) :: ((wsX8_patch_r1 ++ wsX8_patch_r2) ++ wsX80)
def wsX8_unpatch : List Cond := .code yX8_unpatch cX8_unpatch 4 (some .int) :: ([.fieldLink RX8 22 "ServiceGameModel" "waits" "[Z", .fieldLink RX8 19 "ServiceGameModel" "size" "[I", .methodLink RX8 149 yX8_isPlace, .instanceMethod yX8_isPlace, .selects RX8 yX8_isPlace yX8_isPlace, .initialized RX8, .code yX8_isPlace cX8_isPlace 3 (some .boolean), .constantLong RX8 112 (2), .methodLink RX8 108 yX8_isTeam, .instanceMethod yX8_isTeam, .selects RX8 yX8_isTeam yX8_isTeam, .code yX8_isTeam cX8_isTeam 2 (some .boolean), .fieldLink RX8 104 "ServiceGameModel" "teams" "I", .methodLink RX8 114 yX8_isIn, .static yX8_isIn, .code yX8_isIn cX8_isIn 6 (some .boolean)] ++ wsX80)
def wsX8_cell : List Cond := .code yX8_cell cX8_cell 4 (some .int) :: ([.constantLong RX8 156 (7), .fieldLink RX8 32 "ServiceGameModel" "cell" "[I", .methodLink RX8 149 yX8_isPlace, .instanceMethod yX8_isPlace, .selects RX8 yX8_isPlace yX8_isPlace, .initialized RX8, .code yX8_isPlace cX8_isPlace 3 (some .boolean), .constantLong RX8 112 (2), .methodLink RX8 108 yX8_isTeam, .instanceMethod yX8_isTeam, .selects RX8 yX8_isTeam yX8_isTeam, .code yX8_isTeam cX8_isTeam 2 (some .boolean), .fieldLink RX8 104 "ServiceGameModel" "teams" "I", .methodLink RX8 114 yX8_isIn, .static yX8_isIn, .code yX8_isIn cX8_isIn 6 (some .boolean)] ++ wsX80)
def wsX8_about : List Cond := .code yX8_about cX8_about 5 (some .int) :: ([.fieldLink RX8 19 "ServiceGameModel" "size" "[I", .fieldLink RX8 22 "ServiceGameModel" "waits" "[Z", .fieldLink RX8 44 "ServiceGameModel" "upMany" "[I", .fieldLink RX8 38 "ServiceGameModel" "brokeMany" "[I", .fieldLink RX8 41 "ServiceGameModel" "fuelMany" "[I", .methodLink RX8 149 yX8_isPlace, .instanceMethod yX8_isPlace, .selects RX8 yX8_isPlace yX8_isPlace, .initialized RX8, .code yX8_isPlace cX8_isPlace 3 (some .boolean), .constantLong RX8 112 (2), .methodLink RX8 108 yX8_isTeam, .instanceMethod yX8_isTeam, .selects RX8 yX8_isTeam yX8_isTeam, .code yX8_isTeam cX8_isTeam 2 (some .boolean), .fieldLink RX8 104 "ServiceGameModel" "teams" "I", .methodLink RX8 114 yX8_isIn, .static yX8_isIn, .code yX8_isIn cX8_isIn 6 (some .boolean)] ++ wsX80)
def wsX8_isSet : List Cond := .code yX8_isSet cX8_isSet 2 (some .boolean) :: ([.constantLong RX8 158 (500), .constantLong RX8 160 (999), .constantLong RX8 162 (9), .constantLong RX8 164 (100), .constantLong RX8 166 (9999), .methodLink RX8 114 yX8_isIn, .static yX8_isIn, .initialized RX8, .code yX8_isIn cX8_isIn 6 (some .boolean)])
def wsX8_set : List Cond := .code yX8_set cX8_set 4 (some .int) :: ([.constantLong RX8 168 (6), .fieldLink RX8 118 "ServiceGameModel" "rounds" "I", .fieldLink RX8 47 "ServiceGameModel" "set" "[I", .methodLink RX8 114 yX8_isIn, .static yX8_isIn, .initialized RX8, .code yX8_isIn cX8_isIn 6 (some .boolean), .methodLink RX8 170 yX8_isSet, .static yX8_isSet, .code yX8_isSet cX8_isSet 2 (some .boolean), .constantLong RX8 158 (500), .constantLong RX8 160 (999), .constantLong RX8 162 (9), .constantLong RX8 164 (100), .constantLong RX8 166 (9999)] ++ wsX80)
def wsX8_pushes : List Cond := .code yX8_pushes cX8_pushes 2 none :: ([.fieldLink RX8 50 "ServiceGameModel" "pile" "[I", .fieldLink RX8 173 "ServiceGameModel" "high" "I"] ++ wsX80)
def wsX8_of : List Cond := .code yX8_of cX8_of 3 (some .int) :: ([.constantLong RX8 176 (10000)])
def wsX8_needs : List Cond := .code yX8_needs cX8_needs 1 (some .int) :: ([])
def wsX8_isPush : List Cond := .code yX8_isPush cX8_isPush 1 (some .boolean) :: ([])
def wsX8_does : List Cond := .code yX8_does cX8_does 6 none :: ([.fieldLink RX8 178 "ServiceGameModel" "next" "I", .fieldLink RX8 32 "ServiceGameModel" "cell" "[I", .fieldLink RX8 173 "ServiceGameModel" "high" "I", .fieldLink RX8 50 "ServiceGameModel" "pile" "[I", .methodLink RX8 181 yX8_isPush, .static yX8_isPush, .initialized RX8, .code yX8_isPush cX8_isPush 1 (some .boolean), .methodLink RX8 184 yX8_pushes, .instanceMethod yX8_pushes, .selects RX8 yX8_pushes yX8_pushes, .code yX8_pushes cX8_pushes 2 none, .methodLink RX8 188 yX8_needs, .static yX8_needs, .code yX8_needs cX8_needs 1 (some .int), .methodLink RX8 191 yX8_of, .static yX8_of, .code yX8_of cX8_of 3 (some .int), .constantLong RX8 176 (10000)] ++ wsX80)
def wsX8_runs_r1 : List Cond := [Cond.fieldLink RX8 173 "ServiceGameModel" "high" "I", Cond.fieldLink RX8 178 "ServiceGameModel" "next" "I", Cond.fieldLink RX8 35 "ServiceGameModel" "kept" "[I", Cond.fieldLink RX8 32 "ServiceGameModel" "cell" "[I", Cond.fieldLink RX8 19 "ServiceGameModel" "size" "[I", Cond.fieldLink RX8 47 "ServiceGameModel" "set" "[I", Cond.fieldLink RX8 41 "ServiceGameModel" "fuelMany" "[I", Cond.fieldLink RX8 195 "ServiceGameModel" "fuelAll" "I", Cond.constant RX8 198 (1000000), Cond.fieldLink RX8 13 "ServiceGameModel" "step" "[I", Cond.fieldLink RX8 38 "ServiceGameModel" "brokeMany" "[I", Cond.fieldLink RX8 50 "ServiceGameModel" "pile" "[I", Cond.fieldLink RX8 16 "ServiceGameModel" "number" "[I", Cond.methodLink RX8 188 yX8_needs, Cond.static yX8_needs, Cond.initialized RX8, Cond.code yX8_needs cX8_needs 1 (some .int), Cond.methodLink RX8 181 yX8_isPush, Cond.static yX8_isPush, Cond.code yX8_isPush cX8_isPush 1 (some .boolean), Cond.methodLink RX8 199 yX8_does, Cond.instanceMethod yX8_does, Cond.selects RX8 yX8_does yX8_does, Cond.code yX8_does cX8_does 6 none]
def wsX8_runs_r2 : List Cond := [Cond.methodLink RX8 184 yX8_pushes, Cond.instanceMethod yX8_pushes, Cond.selects RX8 yX8_pushes yX8_pushes, Cond.code yX8_pushes cX8_pushes 2 none, Cond.methodLink RX8 191 yX8_of, Cond.static yX8_of, Cond.code yX8_of cX8_of 3 (some .int), Cond.constantLong RX8 176 (10000)]
def wsX8_runs : List Cond := .code yX8_runs cX8_runs 7 (some .int) :: ((wsX8_runs_r1 ++ wsX8_runs_r2) ++ wsX80)
def wsX8_letter_r1 : List Cond := [Cond.constantLong RX8 166 (9999), Cond.fieldLink RX8 203 "ServiceGameModel" "letters" "I", Cond.fieldLink RX8 53 "ServiceGameModel" "letterTo" "[I", Cond.fieldLink RX8 56 "ServiceGameModel" "letterA" "[I", Cond.fieldLink RX8 59 "ServiceGameModel" "letterB" "[I", Cond.fieldLink RX8 206 "ServiceGameModel" "lettersAll" "I", Cond.methodLink RX8 108 yX8_isTeam, Cond.instanceMethod yX8_isTeam, Cond.selects RX8 yX8_isTeam yX8_isTeam, Cond.initialized RX8, Cond.code yX8_isTeam cX8_isTeam 2 (some .boolean), Cond.fieldLink RX8 104 "ServiceGameModel" "teams" "I", Cond.methodLink RX8 149 yX8_isPlace, Cond.instanceMethod yX8_isPlace, Cond.selects RX8 yX8_isPlace yX8_isPlace, Cond.code yX8_isPlace cX8_isPlace 3 (some .boolean), Cond.constantLong RX8 112 (2), Cond.methodLink RX8 114 yX8_isIn, Cond.static yX8_isIn, Cond.code yX8_isIn cX8_isIn 6 (some .boolean), Cond.methodLink RX8 209 yX8_runs, Cond.instanceMethod yX8_runs, Cond.selects RX8 yX8_runs yX8_runs, Cond.code yX8_runs cX8_runs 7 (some .int)]
def wsX8_letter_r2 : List Cond := [Cond.fieldLink RX8 173 "ServiceGameModel" "high" "I", Cond.fieldLink RX8 178 "ServiceGameModel" "next" "I", Cond.fieldLink RX8 35 "ServiceGameModel" "kept" "[I", Cond.fieldLink RX8 32 "ServiceGameModel" "cell" "[I", Cond.fieldLink RX8 19 "ServiceGameModel" "size" "[I", Cond.fieldLink RX8 47 "ServiceGameModel" "set" "[I", Cond.fieldLink RX8 41 "ServiceGameModel" "fuelMany" "[I", Cond.fieldLink RX8 195 "ServiceGameModel" "fuelAll" "I", Cond.constant RX8 198 (1000000), Cond.fieldLink RX8 13 "ServiceGameModel" "step" "[I", Cond.fieldLink RX8 38 "ServiceGameModel" "brokeMany" "[I", Cond.fieldLink RX8 50 "ServiceGameModel" "pile" "[I", Cond.fieldLink RX8 16 "ServiceGameModel" "number" "[I", Cond.methodLink RX8 188 yX8_needs, Cond.static yX8_needs, Cond.code yX8_needs cX8_needs 1 (some .int), Cond.methodLink RX8 181 yX8_isPush, Cond.static yX8_isPush, Cond.code yX8_isPush cX8_isPush 1 (some .boolean), Cond.methodLink RX8 199 yX8_does, Cond.instanceMethod yX8_does, Cond.selects RX8 yX8_does yX8_does, Cond.code yX8_does cX8_does 6 none, Cond.methodLink RX8 184 yX8_pushes]
def wsX8_letter_r3 : List Cond := [Cond.instanceMethod yX8_pushes, Cond.selects RX8 yX8_pushes yX8_pushes, Cond.code yX8_pushes cX8_pushes 2 none, Cond.methodLink RX8 191 yX8_of, Cond.static yX8_of, Cond.code yX8_of cX8_of 3 (some .int), Cond.constantLong RX8 176 (10000)]
def wsX8_letter : List Cond := .code yX8_letter cX8_letter 6 (some .int) :: ((wsX8_letter_r1 ++ (wsX8_letter_r2 ++ wsX8_letter_r3)) ++ wsX80)
def wsX8_mix : List Cond := .code yX8_mix cX8_mix 3 (some .int) :: ([.fieldLink RX8 47 "ServiceGameModel" "set" "[I"] ++ wsX80)
def wsX8_flagOf : List Cond := .code yX8_flagOf cX8_flagOf 3 (some .int) :: ([.methodLink RX8 212 yX8_mix, .instanceMethod yX8_mix, .selects RX8 yX8_mix yX8_mix, .initialized RX8, .code yX8_mix cX8_mix 3 (some .int), .fieldLink RX8 47 "ServiceGameModel" "set" "[I"] ++ wsX80)
def wsX8_checks_r1 : List Cond := [Cond.fieldLink RX8 86 "ServiceGameModel" "order" "[I", Cond.fieldLink RX8 74 "ServiceGameModel" "which" "[I", Cond.fieldLink RX8 77 "ServiceGameModel" "second" "[I", Cond.fieldLink RX8 80 "ServiceGameModel" "answer" "[I", Cond.fieldLink RX8 47 "ServiceGameModel" "set" "[I", Cond.fieldLink RX8 83 "ServiceGameModel" "good" "[I", Cond.methodLink RX8 212 yX8_mix, Cond.instanceMethod yX8_mix, Cond.selects RX8 yX8_mix yX8_mix, Cond.initialized RX8, Cond.code yX8_mix cX8_mix 3 (some .int), Cond.methodLink RX8 216 yX8_flagOf, Cond.instanceMethod yX8_flagOf, Cond.selects RX8 yX8_flagOf yX8_flagOf, Cond.code yX8_flagOf cX8_flagOf 3 (some .int), Cond.methodLink RX8 209 yX8_runs, Cond.instanceMethod yX8_runs, Cond.selects RX8 yX8_runs yX8_runs, Cond.code yX8_runs cX8_runs 7 (some .int), Cond.fieldLink RX8 173 "ServiceGameModel" "high" "I", Cond.fieldLink RX8 178 "ServiceGameModel" "next" "I", Cond.fieldLink RX8 35 "ServiceGameModel" "kept" "[I", Cond.fieldLink RX8 32 "ServiceGameModel" "cell" "[I", Cond.fieldLink RX8 19 "ServiceGameModel" "size" "[I"]
def wsX8_checks_r2 : List Cond := [Cond.fieldLink RX8 41 "ServiceGameModel" "fuelMany" "[I", Cond.fieldLink RX8 195 "ServiceGameModel" "fuelAll" "I", Cond.constant RX8 198 (1000000), Cond.fieldLink RX8 13 "ServiceGameModel" "step" "[I", Cond.fieldLink RX8 38 "ServiceGameModel" "brokeMany" "[I", Cond.fieldLink RX8 50 "ServiceGameModel" "pile" "[I", Cond.fieldLink RX8 16 "ServiceGameModel" "number" "[I", Cond.methodLink RX8 188 yX8_needs, Cond.static yX8_needs, Cond.code yX8_needs cX8_needs 1 (some .int), Cond.methodLink RX8 181 yX8_isPush, Cond.static yX8_isPush, Cond.code yX8_isPush cX8_isPush 1 (some .boolean), Cond.methodLink RX8 199 yX8_does, Cond.instanceMethod yX8_does, Cond.selects RX8 yX8_does yX8_does, Cond.code yX8_does cX8_does 6 none, Cond.methodLink RX8 184 yX8_pushes, Cond.instanceMethod yX8_pushes, Cond.selects RX8 yX8_pushes yX8_pushes, Cond.code yX8_pushes cX8_pushes 2 none, Cond.methodLink RX8 191 yX8_of, Cond.static yX8_of, Cond.code yX8_of cX8_of 3 (some .int)]
def wsX8_checks_r3 : List Cond := [Cond.constantLong RX8 176 (10000)]
def wsX8_checks : List Cond := .code yX8_checks cX8_checks 10 (some .boolean) :: ((wsX8_checks_r1 ++ (wsX8_checks_r2 ++ wsX8_checks_r3)) ++ wsX80)
def wsX8_round_r1 : List Cond := [Cond.fieldLink RX8 104 "ServiceGameModel" "teams" "I", Cond.fieldLink RX8 118 "ServiceGameModel" "rounds" "I", Cond.fieldLink RX8 203 "ServiceGameModel" "letters" "I", Cond.fieldLink RX8 62 "ServiceGameModel" "aheadTo" "[I", Cond.fieldLink RX8 53 "ServiceGameModel" "letterTo" "[I", Cond.fieldLink RX8 65 "ServiceGameModel" "aheadA" "[I", Cond.fieldLink RX8 56 "ServiceGameModel" "letterA" "[I", Cond.fieldLink RX8 68 "ServiceGameModel" "aheadB" "[I", Cond.fieldLink RX8 59 "ServiceGameModel" "letterB" "[I", Cond.fieldLink RX8 219 "ServiceGameModel" "ahead" "I", Cond.fieldLink RX8 22 "ServiceGameModel" "waits" "[Z", Cond.fieldLink RX8 13 "ServiceGameModel" "step" "[I", Cond.fieldLink RX8 16 "ServiceGameModel" "number" "[I", Cond.fieldLink RX8 19 "ServiceGameModel" "size" "[I", Cond.fieldLink RX8 71 "ServiceGameModel" "isUp" "[Z", Cond.fieldLink RX8 44 "ServiceGameModel" "upMany" "[I", Cond.methodLink RX8 222 yX8_checks, Cond.instanceMethod yX8_checks, Cond.selects RX8 yX8_checks yX8_checks, Cond.initialized RX8, Cond.code yX8_checks cX8_checks 10 (some .boolean), Cond.fieldLink RX8 86 "ServiceGameModel" "order" "[I", Cond.fieldLink RX8 74 "ServiceGameModel" "which" "[I", Cond.fieldLink RX8 77 "ServiceGameModel" "second" "[I"]
def wsX8_round_r2 : List Cond := [Cond.fieldLink RX8 80 "ServiceGameModel" "answer" "[I", Cond.fieldLink RX8 47 "ServiceGameModel" "set" "[I", Cond.fieldLink RX8 83 "ServiceGameModel" "good" "[I", Cond.methodLink RX8 212 yX8_mix, Cond.instanceMethod yX8_mix, Cond.selects RX8 yX8_mix yX8_mix, Cond.code yX8_mix cX8_mix 3 (some .int), Cond.methodLink RX8 216 yX8_flagOf, Cond.instanceMethod yX8_flagOf, Cond.selects RX8 yX8_flagOf yX8_flagOf, Cond.code yX8_flagOf cX8_flagOf 3 (some .int), Cond.methodLink RX8 209 yX8_runs, Cond.instanceMethod yX8_runs, Cond.selects RX8 yX8_runs yX8_runs, Cond.code yX8_runs cX8_runs 7 (some .int), Cond.fieldLink RX8 173 "ServiceGameModel" "high" "I", Cond.fieldLink RX8 178 "ServiceGameModel" "next" "I", Cond.fieldLink RX8 35 "ServiceGameModel" "kept" "[I", Cond.fieldLink RX8 32 "ServiceGameModel" "cell" "[I", Cond.fieldLink RX8 41 "ServiceGameModel" "fuelMany" "[I", Cond.fieldLink RX8 195 "ServiceGameModel" "fuelAll" "I", Cond.constant RX8 198 (1000000), Cond.fieldLink RX8 38 "ServiceGameModel" "brokeMany" "[I", Cond.fieldLink RX8 50 "ServiceGameModel" "pile" "[I"]
def wsX8_round_r3 : List Cond := [Cond.methodLink RX8 188 yX8_needs, Cond.static yX8_needs, Cond.code yX8_needs cX8_needs 1 (some .int), Cond.methodLink RX8 181 yX8_isPush, Cond.static yX8_isPush, Cond.code yX8_isPush cX8_isPush 1 (some .boolean), Cond.methodLink RX8 199 yX8_does, Cond.instanceMethod yX8_does, Cond.selects RX8 yX8_does yX8_does, Cond.code yX8_does cX8_does 6 none, Cond.methodLink RX8 184 yX8_pushes, Cond.instanceMethod yX8_pushes, Cond.selects RX8 yX8_pushes yX8_pushes, Cond.code yX8_pushes cX8_pushes 2 none, Cond.methodLink RX8 191 yX8_of, Cond.static yX8_of, Cond.code yX8_of cX8_of 3 (some .int), Cond.constantLong RX8 176 (10000)]
def wsX8_round : List Cond := .code yX8_round cX8_round 4 (some .int) :: ((wsX8_round_r1 ++ (wsX8_round_r2 ++ wsX8_round_r3)) ++ wsX80)
def wsX8_up : List Cond := .code yX8_up cX8_up 4 (some .int) :: ([.fieldLink RX8 118 "ServiceGameModel" "rounds" "I", .fieldLink RX8 71 "ServiceGameModel" "isUp" "[Z", .methodLink RX8 149 yX8_isPlace, .instanceMethod yX8_isPlace, .selects RX8 yX8_isPlace yX8_isPlace, .initialized RX8, .code yX8_isPlace cX8_isPlace 3 (some .boolean), .constantLong RX8 112 (2), .methodLink RX8 108 yX8_isTeam, .instanceMethod yX8_isTeam, .selects RX8 yX8_isTeam yX8_isTeam, .code yX8_isTeam cX8_isTeam 2 (some .boolean), .fieldLink RX8 104 "ServiceGameModel" "teams" "I", .methodLink RX8 114 yX8_isIn, .static yX8_isIn, .code yX8_isIn cX8_isIn 6 (some .boolean)] ++ wsX80)
def wsX8_check : List Cond := .code yX8_check cX8_check 6 (some .int) :: ([.constantLong RX8 112 (2), .fieldLink RX8 118 "ServiceGameModel" "rounds" "I", .fieldLink RX8 74 "ServiceGameModel" "which" "[I", .fieldLink RX8 77 "ServiceGameModel" "second" "[I", .fieldLink RX8 80 "ServiceGameModel" "answer" "[I", .fieldLink RX8 83 "ServiceGameModel" "good" "[I", .methodLink RX8 149 yX8_isPlace, .instanceMethod yX8_isPlace, .selects RX8 yX8_isPlace yX8_isPlace, .initialized RX8, .code yX8_isPlace cX8_isPlace 3 (some .boolean), .methodLink RX8 108 yX8_isTeam, .instanceMethod yX8_isTeam, .selects RX8 yX8_isTeam yX8_isTeam, .code yX8_isTeam cX8_isTeam 2 (some .boolean), .fieldLink RX8 104 "ServiceGameModel" "teams" "I", .methodLink RX8 114 yX8_isIn, .static yX8_isIn, .code yX8_isIn cX8_isIn 6 (some .boolean)] ++ wsX80)
def wsX8_flag : List Cond := .code yX8_flag cX8_flag 4 (some .int) :: ([.fieldLink RX8 118 "ServiceGameModel" "rounds" "I", .methodLink RX8 149 yX8_isPlace, .instanceMethod yX8_isPlace, .selects RX8 yX8_isPlace yX8_isPlace, .initialized RX8, .code yX8_isPlace cX8_isPlace 3 (some .boolean), .constantLong RX8 112 (2), .methodLink RX8 108 yX8_isTeam, .instanceMethod yX8_isTeam, .selects RX8 yX8_isTeam yX8_isTeam, .code yX8_isTeam cX8_isTeam 2 (some .boolean), .fieldLink RX8 104 "ServiceGameModel" "teams" "I", .methodLink RX8 114 yX8_isIn, .static yX8_isIn, .code yX8_isIn cX8_isIn 6 (some .boolean), .methodLink RX8 216 yX8_flagOf, .instanceMethod yX8_flagOf, .selects RX8 yX8_flagOf yX8_flagOf, .code yX8_flagOf cX8_flagOf 3 (some .int), .methodLink RX8 212 yX8_mix, .instanceMethod yX8_mix, .selects RX8 yX8_mix yX8_mix, .code yX8_mix cX8_mix 3 (some .int), .fieldLink RX8 47 "ServiceGameModel" "set" "[I"] ++ wsX80)
def wsX8_handed : List Cond := .code yX8_handed cX8_handed 4 (some .int) :: ([.fieldLink RX8 89 "ServiceGameModel" "handedIn" "[I"] ++ wsX80)
def wsX8_hand_r1 : List Cond := [Cond.constantLong RX8 166 (9999), Cond.fieldLink RX8 118 "ServiceGameModel" "rounds" "I", Cond.fieldLink RX8 47 "ServiceGameModel" "set" "[I", Cond.fieldLink RX8 89 "ServiceGameModel" "handedIn" "[I", Cond.fieldLink RX8 228 "ServiceGameModel" "hands" "I", Cond.methodLink RX8 108 yX8_isTeam, Cond.instanceMethod yX8_isTeam, Cond.selects RX8 yX8_isTeam yX8_isTeam, Cond.initialized RX8, Cond.code yX8_isTeam cX8_isTeam 2 (some .boolean), Cond.fieldLink RX8 104 "ServiceGameModel" "teams" "I", Cond.methodLink RX8 149 yX8_isPlace, Cond.instanceMethod yX8_isPlace, Cond.selects RX8 yX8_isPlace yX8_isPlace, Cond.code yX8_isPlace cX8_isPlace 3 (some .boolean), Cond.constantLong RX8 112 (2), Cond.methodLink RX8 114 yX8_isIn, Cond.static yX8_isIn, Cond.code yX8_isIn cX8_isIn 6 (some .boolean), Cond.methodLink RX8 216 yX8_flagOf, Cond.instanceMethod yX8_flagOf, Cond.selects RX8 yX8_flagOf yX8_flagOf, Cond.code yX8_flagOf cX8_flagOf 3 (some .int), Cond.methodLink RX8 212 yX8_mix]
def wsX8_hand_r2 : List Cond := [Cond.instanceMethod yX8_mix, Cond.selects RX8 yX8_mix yX8_mix, Cond.code yX8_mix cX8_mix 3 (some .int), Cond.methodLink RX8 225 yX8_handed, Cond.instanceMethod yX8_handed, Cond.selects RX8 yX8_handed yX8_handed, Cond.code yX8_handed cX8_handed 4 (some .int)]
def wsX8_hand : List Cond := .code yX8_hand cX8_hand 7 (some .int) :: ((wsX8_hand_r1 ++ wsX8_hand_r2) ++ wsX80)
def wsX8_isHanded : List Cond := .code yX8_isHanded cX8_isHanded 6 (some .boolean) :: ([.methodLink RX8 225 yX8_handed, .instanceMethod yX8_handed, .selects RX8 yX8_handed yX8_handed, .initialized RX8, .code yX8_handed cX8_handed 4 (some .int), .fieldLink RX8 89 "ServiceGameModel" "handedIn" "[I"] ++ wsX80)
def wsX8_stolen : List Cond := .code yX8_stolen cX8_stolen 6 none :: ([.fieldLink RX8 104 "ServiceGameModel" "teams" "I", .fieldLink RX8 95 "ServiceGameModel" "pointsStolen" "[I", .fieldLink RX8 101 "ServiceGameModel" "flags" "[I", .fieldLink RX8 98 "ServiceGameModel" "pointsOff" "[I", .methodLink RX8 235 yX8_isHanded, .instanceMethod yX8_isHanded, .selects RX8 yX8_isHanded yX8_isHanded, .initialized RX8, .code yX8_isHanded cX8_isHanded 6 (some .boolean), .methodLink RX8 225 yX8_handed, .instanceMethod yX8_handed, .selects RX8 yX8_handed yX8_handed, .code yX8_handed cX8_handed 4 (some .int), .fieldLink RX8 89 "ServiceGameModel" "handedIn" "[I"] ++ wsX80)
def wsX8_findPoints : List Cond := .code yX8_findPoints cX8_findPoints 4 none :: ([.fieldLink RX8 92 "ServiceGameModel" "pointsUp" "[I", .fieldLink RX8 95 "ServiceGameModel" "pointsStolen" "[I", .fieldLink RX8 98 "ServiceGameModel" "pointsOff" "[I", .fieldLink RX8 101 "ServiceGameModel" "flags" "[I", .fieldLink RX8 118 "ServiceGameModel" "rounds" "I", .fieldLink RX8 104 "ServiceGameModel" "teams" "I", .fieldLink RX8 71 "ServiceGameModel" "isUp" "[Z", .methodLink RX8 231 yX8_stolen, .instanceMethod yX8_stolen, .selects RX8 yX8_stolen yX8_stolen, .initialized RX8, .code yX8_stolen cX8_stolen 6 none, .methodLink RX8 235 yX8_isHanded, .instanceMethod yX8_isHanded, .selects RX8 yX8_isHanded yX8_isHanded, .code yX8_isHanded cX8_isHanded 6 (some .boolean), .methodLink RX8 225 yX8_handed, .instanceMethod yX8_handed, .selects RX8 yX8_handed yX8_handed, .code yX8_handed cX8_handed 4 (some .int), .fieldLink RX8 89 "ServiceGameModel" "handedIn" "[I"] ++ wsX80)
def wsX8_sum : List Cond := .code yX8_sum cX8_sum 2 (some .int) :: ([.fieldLink RX8 92 "ServiceGameModel" "pointsUp" "[I", .fieldLink RX8 95 "ServiceGameModel" "pointsStolen" "[I", .fieldLink RX8 98 "ServiceGameModel" "pointsOff" "[I"] ++ wsX80)
def wsX8_points_r1 : List Cond := [Cond.constant RX8 239 (-1000000), Cond.fieldLink RX8 92 "ServiceGameModel" "pointsUp" "[I", Cond.fieldLink RX8 95 "ServiceGameModel" "pointsStolen" "[I", Cond.fieldLink RX8 98 "ServiceGameModel" "pointsOff" "[I", Cond.fieldLink RX8 101 "ServiceGameModel" "flags" "[I", Cond.methodLink RX8 108 yX8_isTeam, Cond.instanceMethod yX8_isTeam, Cond.selects RX8 yX8_isTeam yX8_isTeam, Cond.initialized RX8, Cond.code yX8_isTeam cX8_isTeam 2 (some .boolean), Cond.fieldLink RX8 104 "ServiceGameModel" "teams" "I", Cond.methodLink RX8 240 yX8_findPoints, Cond.instanceMethod yX8_findPoints, Cond.selects RX8 yX8_findPoints yX8_findPoints, Cond.code yX8_findPoints cX8_findPoints 4 none, Cond.fieldLink RX8 118 "ServiceGameModel" "rounds" "I", Cond.fieldLink RX8 71 "ServiceGameModel" "isUp" "[Z", Cond.methodLink RX8 231 yX8_stolen, Cond.instanceMethod yX8_stolen, Cond.selects RX8 yX8_stolen yX8_stolen, Cond.code yX8_stolen cX8_stolen 6 none, Cond.methodLink RX8 235 yX8_isHanded, Cond.instanceMethod yX8_isHanded, Cond.selects RX8 yX8_isHanded yX8_isHanded]
def wsX8_points_r2 : List Cond := [Cond.code yX8_isHanded cX8_isHanded 6 (some .boolean), Cond.methodLink RX8 225 yX8_handed, Cond.instanceMethod yX8_handed, Cond.selects RX8 yX8_handed yX8_handed, Cond.code yX8_handed cX8_handed 4 (some .int), Cond.fieldLink RX8 89 "ServiceGameModel" "handedIn" "[I", Cond.methodLink RX8 243 yX8_sum, Cond.instanceMethod yX8_sum, Cond.selects RX8 yX8_sum yX8_sum, Cond.code yX8_sum cX8_sum 2 (some .int)]
def wsX8_points : List Cond := .code yX8_points cX8_points 3 (some .int) :: ((wsX8_points_r1 ++ wsX8_points_r2) ++ wsX80)
def wsX8_board_r1 : List Cond := [Cond.constant RX8 239 (-1000000), Cond.fieldLink RX8 47 "ServiceGameModel" "set" "[I", Cond.fieldLink RX8 104 "ServiceGameModel" "teams" "I", Cond.methodLink RX8 108 yX8_isTeam, Cond.instanceMethod yX8_isTeam, Cond.selects RX8 yX8_isTeam yX8_isTeam, Cond.initialized RX8, Cond.code yX8_isTeam cX8_isTeam 2 (some .boolean), Cond.methodLink RX8 114 yX8_isIn, Cond.static yX8_isIn, Cond.code yX8_isIn cX8_isIn 6 (some .boolean), Cond.methodLink RX8 240 yX8_findPoints, Cond.instanceMethod yX8_findPoints, Cond.selects RX8 yX8_findPoints yX8_findPoints, Cond.code yX8_findPoints cX8_findPoints 4 none, Cond.fieldLink RX8 92 "ServiceGameModel" "pointsUp" "[I", Cond.fieldLink RX8 95 "ServiceGameModel" "pointsStolen" "[I", Cond.fieldLink RX8 98 "ServiceGameModel" "pointsOff" "[I", Cond.fieldLink RX8 101 "ServiceGameModel" "flags" "[I", Cond.fieldLink RX8 118 "ServiceGameModel" "rounds" "I", Cond.fieldLink RX8 71 "ServiceGameModel" "isUp" "[Z", Cond.methodLink RX8 231 yX8_stolen, Cond.instanceMethod yX8_stolen, Cond.selects RX8 yX8_stolen yX8_stolen]
def wsX8_board_r2 : List Cond := [Cond.code yX8_stolen cX8_stolen 6 none, Cond.methodLink RX8 235 yX8_isHanded, Cond.instanceMethod yX8_isHanded, Cond.selects RX8 yX8_isHanded yX8_isHanded, Cond.code yX8_isHanded cX8_isHanded 6 (some .boolean), Cond.methodLink RX8 225 yX8_handed, Cond.instanceMethod yX8_handed, Cond.selects RX8 yX8_handed yX8_handed, Cond.code yX8_handed cX8_handed 4 (some .int), Cond.fieldLink RX8 89 "ServiceGameModel" "handedIn" "[I", Cond.methodLink RX8 243 yX8_sum, Cond.instanceMethod yX8_sum, Cond.selects RX8 yX8_sum yX8_sum, Cond.code yX8_sum cX8_sum 2 (some .int)]
def wsX8_board : List Cond := .code yX8_board cX8_board 6 (some .int) :: ((wsX8_board_r1 ++ wsX8_board_r2) ++ wsX80)
def wsX8_sumOf_r1 : List Cond := [Cond.fieldLink RX8 104 "ServiceGameModel" "teams" "I", Cond.methodLink RX8 240 yX8_findPoints, Cond.instanceMethod yX8_findPoints, Cond.selects RX8 yX8_findPoints yX8_findPoints, Cond.initialized RX8, Cond.code yX8_findPoints cX8_findPoints 4 none, Cond.fieldLink RX8 92 "ServiceGameModel" "pointsUp" "[I", Cond.fieldLink RX8 95 "ServiceGameModel" "pointsStolen" "[I", Cond.fieldLink RX8 98 "ServiceGameModel" "pointsOff" "[I", Cond.fieldLink RX8 101 "ServiceGameModel" "flags" "[I", Cond.fieldLink RX8 118 "ServiceGameModel" "rounds" "I", Cond.fieldLink RX8 71 "ServiceGameModel" "isUp" "[Z", Cond.methodLink RX8 231 yX8_stolen, Cond.instanceMethod yX8_stolen, Cond.selects RX8 yX8_stolen yX8_stolen, Cond.code yX8_stolen cX8_stolen 6 none, Cond.methodLink RX8 235 yX8_isHanded, Cond.instanceMethod yX8_isHanded, Cond.selects RX8 yX8_isHanded yX8_isHanded, Cond.code yX8_isHanded cX8_isHanded 6 (some .boolean), Cond.methodLink RX8 225 yX8_handed, Cond.instanceMethod yX8_handed, Cond.selects RX8 yX8_handed yX8_handed, Cond.code yX8_handed cX8_handed 4 (some .int)]
def wsX8_sumOf_r2 : List Cond := [Cond.fieldLink RX8 89 "ServiceGameModel" "handedIn" "[I", Cond.methodLink RX8 243 yX8_sum, Cond.instanceMethod yX8_sum, Cond.selects RX8 yX8_sum yX8_sum, Cond.code yX8_sum cX8_sum 2 (some .int)]
def wsX8_sumOf : List Cond := .code yX8_sumOf cX8_sumOf 4 (some .int) :: ((wsX8_sumOf_r1 ++ wsX8_sumOf_r2) ++ wsX80)
def wsX8_helps : List Cond := .code yX8_helps cX8_helps 7 none :: ([.fieldLink RX8 104 "ServiceGameModel" "teams" "I", .fieldLink RX8 89 "ServiceGameModel" "handedIn" "[I"] ++ wsX80)
def wsX8_gain_r1 : List Cond := [Cond.fieldLink RX8 104 "ServiceGameModel" "teams" "I", Cond.constant RX8 239 (-1000000), Cond.fieldLink RX8 118 "ServiceGameModel" "rounds" "I", Cond.constant RX8 246 (-1000001), Cond.methodLink RX8 247 yX8_sumOf, Cond.instanceMethod yX8_sumOf, Cond.selects RX8 yX8_sumOf yX8_sumOf, Cond.initialized RX8, Cond.code yX8_sumOf cX8_sumOf 4 (some .int), Cond.methodLink RX8 240 yX8_findPoints, Cond.instanceMethod yX8_findPoints, Cond.selects RX8 yX8_findPoints yX8_findPoints, Cond.code yX8_findPoints cX8_findPoints 4 none, Cond.fieldLink RX8 92 "ServiceGameModel" "pointsUp" "[I", Cond.fieldLink RX8 95 "ServiceGameModel" "pointsStolen" "[I", Cond.fieldLink RX8 98 "ServiceGameModel" "pointsOff" "[I", Cond.fieldLink RX8 101 "ServiceGameModel" "flags" "[I", Cond.fieldLink RX8 71 "ServiceGameModel" "isUp" "[Z", Cond.methodLink RX8 231 yX8_stolen, Cond.instanceMethod yX8_stolen, Cond.selects RX8 yX8_stolen yX8_stolen, Cond.code yX8_stolen cX8_stolen 6 none, Cond.methodLink RX8 235 yX8_isHanded, Cond.instanceMethod yX8_isHanded]
def wsX8_gain_r2 : List Cond := [Cond.selects RX8 yX8_isHanded yX8_isHanded, Cond.code yX8_isHanded cX8_isHanded 6 (some .boolean), Cond.methodLink RX8 225 yX8_handed, Cond.instanceMethod yX8_handed, Cond.selects RX8 yX8_handed yX8_handed, Cond.code yX8_handed cX8_handed 4 (some .int), Cond.fieldLink RX8 89 "ServiceGameModel" "handedIn" "[I", Cond.methodLink RX8 243 yX8_sum, Cond.instanceMethod yX8_sum, Cond.selects RX8 yX8_sum yX8_sum, Cond.code yX8_sum cX8_sum 2 (some .int), Cond.methodLink RX8 250 yX8_helps, Cond.instanceMethod yX8_helps, Cond.selects RX8 yX8_helps yX8_helps, Cond.code yX8_helps cX8_helps 7 none]
def wsX8_gain : List Cond := .code yX8_gain cX8_gain 7 (some .int) :: ((wsX8_gain_r1 ++ wsX8_gain_r2) ++ wsX80)
def wsX8_alike : List Cond := .code yX8_alike cX8_alike 8 (some .int) :: ([.fieldLink RX8 118 "ServiceGameModel" "rounds" "I", .fieldLink RX8 219 "ServiceGameModel" "ahead" "I", .fieldLink RX8 65 "ServiceGameModel" "aheadA" "[I", .fieldLink RX8 74 "ServiceGameModel" "which" "[I", .fieldLink RX8 68 "ServiceGameModel" "aheadB" "[I", .fieldLink RX8 77 "ServiceGameModel" "second" "[I", .fieldLink RX8 62 "ServiceGameModel" "aheadTo" "[I", .methodLink RX8 149 yX8_isPlace, .instanceMethod yX8_isPlace, .selects RX8 yX8_isPlace yX8_isPlace, .initialized RX8, .code yX8_isPlace cX8_isPlace 3 (some .boolean), .constantLong RX8 112 (2), .methodLink RX8 108 yX8_isTeam, .instanceMethod yX8_isTeam, .selects RX8 yX8_isTeam yX8_isTeam, .code yX8_isTeam cX8_isTeam 2 (some .boolean), .fieldLink RX8 104 "ServiceGameModel" "teams" "I", .methodLink RX8 114 yX8_isIn, .static yX8_isIn, .code yX8_isIn cX8_isIn 6 (some .boolean)] ++ wsX80)
def wsX8_count : List Cond := .code yX8_count cX8_count 2 (some .int) :: ([.fieldLink RX8 104 "ServiceGameModel" "teams" "I", .fieldLink RX8 118 "ServiceGameModel" "rounds" "I", .fieldLink RX8 228 "ServiceGameModel" "hands" "I", .fieldLink RX8 206 "ServiceGameModel" "lettersAll" "I", .fieldLink RX8 123 "ServiceGameModel" "taped" "I", .fieldLink RX8 195 "ServiceGameModel" "fuelAll" "I"] ++ wsX80)
def wsJ9_max_7cf53 : List Cond := .code yJ9_max_7cf53 cJ9_max_7cf53 2 (some .int) :: ([])
def wsJ9_min_7cf53 : List Cond := .code yJ9_min_7cf53 cJ9_min_7cf53 2 (some .int) :: ([])
def wsL_law_r1 : List Cond := [Cond.classLink RL 7 RX7, Cond.instantiable RX7 10, Cond.initialized RX7, Cond.classLink RL 10 RX8, Cond.instantiable RX8 43, Cond.initialized RX8, Cond.constantLong RL 18 (4294967295), Cond.methodLink RL 9 yX7_init, Cond.instanceMethod yX7_init, Cond.code yX7_init cX7_init 1 none, Cond.methodLink RX7 1 objectInit, Cond.instanceMethod objectInit, Cond.code objectInit ⟨#[0xb1]⟩ 1 none, Cond.arrayClass .int, Cond.fieldLink RX7 7 "ServiceGame" "settings" "[I", Cond.classLink RX7 13 RJx4a65c, Cond.instantiable RJx4a65c 3, Cond.initialized RJx4a65c, Cond.fieldLink RX7 16 "ServiceGame" "services" "Ljava/util/ArrayList;", Cond.fieldLink RX7 20 "ServiceGame" "log" "Ljava/util/ArrayList;", Cond.classLink RX7 23 RX6, Cond.instantiable RX6 2, Cond.initialized RX6, Cond.fieldLink RX7 26 "ServiceGame" "tape" "LServiceGame$Tape;"]
def wsL_law_r2 : List Cond := [Cond.classLink RX7 30 RX4, Cond.instantiable RX4 4, Cond.initialized RX4, Cond.fieldLink RX7 33 "ServiceGame" "reader" "LServiceGame$Reader;", Cond.classLink RX7 37 RX1, Cond.instantiable RX1 6, Cond.initialized RX1, Cond.fieldLink RX7 40 "ServiceGame" "machine" "LServiceGame$Machine;", Cond.classLink RX7 44 RX2, Cond.instantiable RX2 4, Cond.initialized RX2, Cond.fieldLink RX7 47 "ServiceGame" "mail" "LServiceGame$Mail;", Cond.fieldLink RX7 51 "ServiceGame" "boardPoints" "[I", Cond.methodLink RX7 15 yJx4a65c_init_da8c8, Cond.instanceMethod yJx4a65c_init_da8c8, Cond.code yJx4a65c_init_da8c8 cJx4a65c_init_da8c8 1 none, Cond.fieldLink RJx4a65c 39 "java/util/ArrayList" "DEFAULTCAPACITY_EMPTY_ELEMENTDATA" "[Ljava/lang/Object;", Cond.fieldLink RJx4a65c 9 "java/util/ArrayList" "elementData" "[Ljava/lang/Object;", Cond.methodLink RJx4a65c 1 yJxc12de_init_da8c8, Cond.instanceMethod yJxc12de_init_da8c8, Cond.initialized RJxc12de, Cond.code yJxc12de_init_da8c8 cJxc12de_init_da8c8 1 none, Cond.fieldLink RJxc12de 7 "java/util/AbstractList" "modCount" "I", Cond.methodLink RJxc12de 1 yJxa1e45_init_da8c8]
def wsL_law_r3 : List Cond := [Cond.instanceMethod yJxa1e45_init_da8c8, Cond.initialized RJxa1e45, Cond.code yJxa1e45_init_da8c8 cJxa1e45_init_da8c8 1 none, Cond.methodLink RJxa1e45 1 objectInit, Cond.instanceMethod yX6_init, Cond.code yX6_init cX6_init 1 none, Cond.methodLink RX6 3 objectInit, Cond.fieldLink RX6 9 "ServiceGame$Tape" "bytes" "[I", Cond.instanceMethod yX4_init, Cond.code yX4_init cX4_init 1 none, Cond.methodLink RX4 3 objectInit, Cond.fieldLink RX4 9 "ServiceGame$Reader" "signs" "[I", Cond.fieldLink RX4 15 "ServiceGame$Reader" "numbers" "[I", Cond.instanceMethod yX1_init, Cond.code yX1_init cX1_init 1 none, Cond.methodLink RX1 3 objectInit, Cond.fieldLink RX1 9 "ServiceGame$Machine" "pile" "[I", Cond.fieldLink RX1 15 "ServiceGame$Machine" "cellsAhead" "[I", Cond.instanceMethod yX2_init, Cond.code yX2_init cX2_init 1 none, Cond.methodLink RX2 3 objectInit, Cond.fieldLink RX2 9 "ServiceGame$Mail" "places" "[I", Cond.fieldLink RX2 15 "ServiceGame$Mail" "firsts" "[I", Cond.fieldLink RX2 18 "ServiceGame$Mail" "seconds" "[I"]
def wsL_law_r4 : List Cond := [Cond.methodLink RL 12 yX8_init, Cond.instanceMethod yX8_init, Cond.code yX8_init cX8_init 1 none, Cond.methodLink RX8 1 objectInit, Cond.fieldLink RX8 7 "ServiceGameModel" "tape" "[I", Cond.fieldLink RX8 13 "ServiceGameModel" "step" "[I", Cond.fieldLink RX8 16 "ServiceGameModel" "number" "[I", Cond.fieldLink RX8 19 "ServiceGameModel" "size" "[I", Cond.arrayClass .boolean, Cond.fieldLink RX8 22 "ServiceGameModel" "waits" "[Z", Cond.fieldLink RX8 26 "ServiceGameModel" "readStep" "[I", Cond.fieldLink RX8 29 "ServiceGameModel" "readNumber" "[I", Cond.fieldLink RX8 32 "ServiceGameModel" "cell" "[I", Cond.fieldLink RX8 35 "ServiceGameModel" "kept" "[I", Cond.fieldLink RX8 38 "ServiceGameModel" "brokeMany" "[I", Cond.fieldLink RX8 41 "ServiceGameModel" "fuelMany" "[I", Cond.fieldLink RX8 44 "ServiceGameModel" "upMany" "[I", Cond.fieldLink RX8 47 "ServiceGameModel" "set" "[I", Cond.fieldLink RX8 50 "ServiceGameModel" "pile" "[I", Cond.fieldLink RX8 53 "ServiceGameModel" "letterTo" "[I", Cond.fieldLink RX8 56 "ServiceGameModel" "letterA" "[I", Cond.fieldLink RX8 59 "ServiceGameModel" "letterB" "[I", Cond.fieldLink RX8 62 "ServiceGameModel" "aheadTo" "[I", Cond.fieldLink RX8 65 "ServiceGameModel" "aheadA" "[I"]
def wsL_law_r5 : List Cond := [Cond.fieldLink RX8 68 "ServiceGameModel" "aheadB" "[I", Cond.fieldLink RX8 71 "ServiceGameModel" "isUp" "[Z", Cond.fieldLink RX8 74 "ServiceGameModel" "which" "[I", Cond.fieldLink RX8 77 "ServiceGameModel" "second" "[I", Cond.fieldLink RX8 80 "ServiceGameModel" "answer" "[I", Cond.fieldLink RX8 83 "ServiceGameModel" "good" "[I", Cond.fieldLink RX8 86 "ServiceGameModel" "order" "[I", Cond.fieldLink RX8 89 "ServiceGameModel" "handedIn" "[I", Cond.fieldLink RX8 92 "ServiceGameModel" "pointsUp" "[I", Cond.fieldLink RX8 95 "ServiceGameModel" "pointsStolen" "[I", Cond.fieldLink RX8 98 "ServiceGameModel" "pointsOff" "[I", Cond.fieldLink RX8 101 "ServiceGameModel" "flags" "[I", Cond.methodLink RL 13 yX7_team, Cond.instanceMethod yX7_team, Cond.selects RX7 yX7_team yX7_team, Cond.code yX7_team cX7_team 3 (some .int), Cond.fieldLink RX7 54 "ServiceGame" "rounds" "I", Cond.classLink RX7 62 RX5, Cond.instantiable RX5 14, Cond.initialized RX5, Cond.methodLink RX7 58 yX7_teams, Cond.instanceMethod yX7_teams, Cond.selects RX7 yX7_teams yX7_teams, Cond.code yX7_teams cX7_teams 1 (some .int)]
def wsL_law_r6 : List Cond := [Cond.methodLink RX7 140 yJx4a65c_size_8abf5, Cond.instanceMethod yJx4a65c_size_8abf5, Cond.selects RJx4a65c yJx4a65c_size_8abf5 yJx4a65c_size_8abf5, Cond.code yJx4a65c_size_8abf5 cJx4a65c_size_8abf5 1 (some .int), Cond.fieldLink RJx4a65c 48 "java/util/ArrayList" "size" "I", Cond.instanceMethod yX5_init, Cond.code yX5_init cX5_init 3 none, Cond.methodLink RX5 3 objectInit, Cond.fieldLink RX5 9 "ServiceGame$Service" "cells" "[I", Cond.fieldLink RX5 15 "ServiceGame$Service" "upAhead" "[I", Cond.fieldLink RX5 18 "ServiceGame$Service" "takenAfter" "[I", Cond.fieldLink RX5 21 "ServiceGame$Service" "checkKinds" "[I", Cond.fieldLink RX5 24 "ServiceGame$Service" "checkNumbers" "[I", Cond.fieldLink RX5 27 "ServiceGame$Service" "checkAnswers" "[I", Cond.fieldLink RX5 30 "ServiceGame$Service" "checkRights" "[I", Cond.fieldLink RX5 33 "ServiceGame$Service" "team" "I", Cond.fieldLink RX5 37 "ServiceGame$Service" "number" "I", Cond.methodLink RX7 67 yJx4a65c_add_9ea2d, Cond.instanceMethod yJx4a65c_add_9ea2d, Cond.selects RJx4a65c yJx4a65c_add_9ea2d yJx4a65c_add_9ea2d, Cond.code yJx4a65c_add_9ea2d cJx4a65c_add_9ea2d 2 (some .boolean), Cond.fieldLink RJx4a65c 63 "java/util/ArrayList" "modCount" "I", Cond.sameField "java/util/ArrayList" "java/util/AbstractList" "modCount" "I", Cond.methodLink RJx4a65c 131 yJx4a65c_add_72be8]
def wsL_law_r7 : List Cond := [Cond.instanceMethod yJx4a65c_add_72be8, Cond.selects RJx4a65c yJx4a65c_add_72be8 yJx4a65c_add_72be8, Cond.code yJx4a65c_add_72be8 cJx4a65c_add_72be8 4 none, Cond.methodLink RJx4a65c 129 yJx4a65c_grow_d5877, Cond.instanceMethod yJx4a65c_grow_d5877, Cond.selects RJx4a65c yJx4a65c_grow_d5877 yJx4a65c_grow_d5877, Cond.code yJx4a65c_grow_d5877 cJx4a65c_grow_d5877 1 (some (.array (.object "java/lang/Object"))), Cond.methodLink RJx4a65c 69 yJx4a65c_grow_92f84, Cond.instanceMethod yJx4a65c_grow_92f84, Cond.selects RJx4a65c yJx4a65c_grow_92f84 yJx4a65c_grow_92f84, Cond.code yJx4a65c_grow_92f84 cJx4a65c_grow_92f84 4 (some (.array (.object "java/lang/Object"))), Cond.methodLink RJx4a65c 79 Lib.Math.max.name, Cond.static Lib.Math.max.name, Cond.initialized "java/lang/Math", Cond.code Lib.Math.max.name Lib.Math.max.code 2 (some .int), Cond.classLink RJx4a65c 7 "java/lang/Object", Cond.methodLink RJx4a65c 73 yJ8_newLength_cabcc, Cond.static yJ8_newLength_cabcc, Cond.initialized RJ8, Cond.code yJ8_newLength_cabcc cJ8_newLength_cabcc 4 (some .int), Cond.methodLink RJ8 194 Lib.Math.max.name, Cond.constant RJ8 200 (2147483639), Cond.methodLink RJ8 201 yJ8_hugeLength_7cf53, Cond.static yJ8_hugeLength_7cf53]
def wsL_law_r8 : List Cond := [Cond.code yJ8_hugeLength_7cf53 cJ8_hugeLength_7cf53 3 (some .int), Cond.methodLink RJx4a65c 66 yJ7_copyOf_1904c, Cond.static yJ7_copyOf_1904c, Cond.initialized RJ7, Cond.code yJ7_copyOf_1904c cJ7_copyOf_1904c 2 (some (.array (.object "java/lang/Object"))), Cond.methodLink RJ7 86 ⟨"java/lang/Object", "getClass", "()Ljava/lang/Class;"⟩, Cond.selects "[Ljava/lang/Object;" ⟨"java/lang/Object", "getClass", "()Ljava/lang/Class;"⟩ ⟨"java/lang/Object", "getClass", "()Ljava/lang/Class;"⟩, Cond.instanceMethod ⟨"java/lang/Object", "getClass", "()Ljava/lang/Class;"⟩, Cond.native ⟨"java/lang/Object", "getClass", "()Ljava/lang/Class;"⟩, Cond.methodLink RJ7 300 yJ7_copyOf_6403c, Cond.static yJ7_copyOf_6403c, Cond.code yJ7_copyOf_6403c cJ7_copyOf_6403c 4 (some (.array (.object "java/lang/Object"))), Cond.classLink RJ7 110 "[Ljava/lang/Object;", Cond.classLink RJ7 2 "java/lang/Object", Cond.methodLink RJ7 304 Lib.Math.min.name, Cond.static Lib.Math.min.name, Cond.code Lib.Math.min.name Lib.Math.min.code 2 (some .int), Cond.methodLink RJ7 150 arraycopyName, Cond.native arraycopyName, Cond.static arraycopyName, Cond.initialized "java/lang/System", Cond.methodLink RL 17 yX8_team, Cond.instanceMethod yX8_team, Cond.selects RX8 yX8_team yX8_team]
def wsL_law_r9 : List Cond := [Cond.code yX8_team cX8_team 1 (some .int), Cond.fieldLink RX8 118 "ServiceGameModel" "rounds" "I", Cond.fieldLink RX8 104 "ServiceGameModel" "teams" "I", Cond.methodLink RL 20 yX7_feed, Cond.instanceMethod yX7_feed, Cond.selects RX7 yX7_feed yX7_feed, Cond.code yX7_feed cX7_feed 4 (some .int), Cond.instanceMethod yX6_append, Cond.selects RX6 yX6_append yX6_append, Cond.code yX6_append cX6_append 5 none, Cond.fieldLink RX6 15 "ServiceGame$Tape" "size" "I", Cond.constantLong RX6 19 (255), Cond.methodLink RL 24 yX8_feed, Cond.instanceMethod yX8_feed, Cond.selects RX8 yX8_feed yX8_feed, Cond.code yX8_feed cX8_feed 5 (some .int), Cond.constantLong RX8 121 (8), Cond.fieldLink RX8 123 "ServiceGameModel" "taped" "I", Cond.constantLong RX8 126 (255), Cond.methodLink RX8 114 yX8_isIn, Cond.static yX8_isIn, Cond.code yX8_isIn cX8_isIn 6 (some .boolean), Cond.methodLink RL 25 yX7_patch, Cond.instanceMethod yX7_patch]
def wsL_law_r10 : List Cond := [Cond.selects RX7 yX7_patch yX7_patch, Cond.code yX7_patch cX7_patch 6 (some .int), Cond.methodLink RX7 78 yX7_find, Cond.instanceMethod yX7_find, Cond.selects RX7 yX7_find yX7_find, Cond.code yX7_find cX7_find 3 (some (.object "ServiceGame$Service")), Cond.classLink RX7 62 "ServiceGame$Service", Cond.methodLink RX7 117 yX7_isTeam, Cond.instanceMethod yX7_isTeam, Cond.selects RX7 yX7_isTeam yX7_isTeam, Cond.code yX7_isTeam cX7_isTeam 2 (some .boolean), Cond.methodLink RX7 142 yJx4a65c_get_915e3, Cond.instanceMethod yJx4a65c_get_915e3, Cond.selects RJx4a65c yJx4a65c_get_915e3 yJx4a65c_get_915e3, Cond.code yJx4a65c_get_915e3 cJx4a65c_get_915e3 2 (some (.object "java/lang/Object")), Cond.methodLink RJx4a65c 118 yJ15_checkIndex_7cf53, Cond.static yJ15_checkIndex_7cf53, Cond.initialized RJ15, Cond.code yJ15_checkIndex_7cf53 cJ15_checkIndex_7cf53 2 (some .int), Cond.methodLink RJ15 105 yJ3_checkIndex_8e157, Cond.static yJ3_checkIndex_8e157, Cond.initialized RJ3, Cond.code yJ3_checkIndex_8e157 cJ3_checkIndex_8e157 3 (some .int), Cond.methodLink RJx4a65c 123 yJx4a65c_elementData_915e3]
def wsL_law_r11 : List Cond := [Cond.instanceMethod yJx4a65c_elementData_915e3, Cond.selects RJx4a65c yJx4a65c_elementData_915e3 yJx4a65c_elementData_915e3, Cond.code yJx4a65c_elementData_915e3 cJx4a65c_elementData_915e3 2 (some (.object "java/lang/Object")), Cond.instanceMethod yX4_read, Cond.selects RX4 yX4_read yX4_read, Cond.code yX4_read cX4_read 3 (some .int), Cond.fieldLink RX4 18 "ServiceGame$Reader" "place" "I", Cond.fieldLink RX4 22 "ServiceGame$Reader" "size" "I", Cond.methodLink RX4 25 yX4_readStep, Cond.instanceMethod yX4_readStep, Cond.selects RX4 yX4_readStep yX4_readStep, Cond.code yX4_readStep cX4_readStep 3 (some .boolean), Cond.instanceMethod yX6_at, Cond.selects RX6 yX6_at yX6_at, Cond.code yX6_at cX6_at 2 (some .int), Cond.methodLink RX4 40 yX4_readNumber, Cond.instanceMethod yX4_readNumber, Cond.selects RX4 yX4_readNumber yX4_readNumber, Cond.code yX4_readNumber cX4_readNumber 5 (some .boolean), Cond.methodLink RX4 47 yX4_isDigit, Cond.static yX4_isDigit, Cond.code yX4_isDigit cX4_isDigit 1 (some .boolean), Cond.methodLink RX4 44 yX4_readCell, Cond.instanceMethod yX4_readCell]
def wsL_law_r12 : List Cond := [Cond.selects RX4 yX4_readCell yX4_readCell, Cond.code yX4_readCell cX4_readCell 3 (some .boolean), Cond.methodLink RX4 36 yX4_lostStep, Cond.instanceMethod yX4_lostStep, Cond.selects RX4 yX4_lostStep yX4_lostStep, Cond.code yX4_lostStep cX4_lostStep 3 (some .int), Cond.instanceMethod yX4_program, Cond.selects RX4 yX4_program yX4_program, Cond.code yX4_program cX4_program 1 (some (.object "ServiceGame$Program")), Cond.classLink RX4 51 RX3, Cond.instantiable RX3 3, Cond.initialized RX3, Cond.instanceMethod yX3_init, Cond.code yX3_init cX3_init 4 none, Cond.methodLink RX3 1 objectInit, Cond.fieldLink RX3 7 "ServiceGame$Program" "size" "I", Cond.fieldLink RX3 13 "ServiceGame$Program" "signs" "[I", Cond.fieldLink RX3 17 "ServiceGame$Program" "numbers" "[I", Cond.methodLink RX3 20 arraycopyName, Cond.methodLink RL 29 yX8_patch, Cond.instanceMethod yX8_patch, Cond.selects RX8 yX8_patch yX8_patch, Cond.code yX8_patch cX8_patch 6 (some .int), Cond.fieldLink RX8 143 "ServiceGameModel" "readMany" "I"]
def wsL_law_r13 : List Cond := [Cond.methodLink RX8 149 yX8_isPlace, Cond.instanceMethod yX8_isPlace, Cond.selects RX8 yX8_isPlace yX8_isPlace, Cond.code yX8_isPlace cX8_isPlace 3 (some .boolean), Cond.constantLong RX8 112 (2), Cond.methodLink RX8 108 yX8_isTeam, Cond.instanceMethod yX8_isTeam, Cond.selects RX8 yX8_isTeam yX8_isTeam, Cond.code yX8_isTeam cX8_isTeam 2 (some .boolean), Cond.methodLink RX8 153 yX8_fault, Cond.instanceMethod yX8_fault, Cond.selects RX8 yX8_fault yX8_fault, Cond.code yX8_fault cX8_fault 2 (some .int), Cond.fieldLink RX8 128 "ServiceGameModel" "at" "I", Cond.methodLink RX8 146 yX8_readsStep, Cond.instanceMethod yX8_readsStep, Cond.selects RX8 yX8_readsStep yX8_readsStep, Cond.code yX8_readsStep cX8_readsStep 6 (some .boolean), Cond.methodLink RX8 131 yX8_sign, Cond.instanceMethod yX8_sign, Cond.selects RX8 yX8_sign yX8_sign, Cond.code yX8_sign cX8_sign 1 (some .int), Cond.methodLink RX8 135 yX8_isDigit, Cond.instanceMethod yX8_isDigit]
def wsL_law_r14 : List Cond := [Cond.selects RX8 yX8_isDigit yX8_isDigit, Cond.code yX8_isDigit cX8_isDigit 1 (some .boolean), Cond.methodLink RX8 139 yX8_digits, Cond.instanceMethod yX8_digits, Cond.selects RX8 yX8_digits yX8_digits, Cond.code yX8_digits cX8_digits 4 (some .int), Cond.methodLink RL 30 yX7_unpatch, Cond.instanceMethod yX7_unpatch, Cond.selects RX7 yX7_unpatch yX7_unpatch, Cond.code yX7_unpatch cX7_unpatch 5 (some .int), Cond.methodLink RL 33 yX8_unpatch, Cond.instanceMethod yX8_unpatch, Cond.selects RX8 yX8_unpatch yX8_unpatch, Cond.code yX8_unpatch cX8_unpatch 4 (some .int), Cond.methodLink RL 34 yX7_cell, Cond.instanceMethod yX7_cell, Cond.selects RX7 yX7_cell yX7_cell, Cond.code yX7_cell cX7_cell 5 (some .int), Cond.methodLink RL 38 yX8_cell, Cond.instanceMethod yX8_cell, Cond.selects RX8 yX8_cell yX8_cell, Cond.code yX8_cell cX8_cell 4 (some .int), Cond.constantLong RX8 156 (7), Cond.methodLink RL 39 yX7_about]
def wsL_law_r15 : List Cond := [Cond.instanceMethod yX7_about, Cond.selects RX7 yX7_about yX7_about, Cond.code yX7_about cX7_about 5 (some .int), Cond.methodLink RL 42 yX8_about, Cond.instanceMethod yX8_about, Cond.selects RX8 yX8_about yX8_about, Cond.code yX8_about cX8_about 5 (some .int), Cond.methodLink RL 43 yX7_set, Cond.instanceMethod yX7_set, Cond.selects RX7 yX7_set yX7_set, Cond.code yX7_set cX7_set 4 (some .int), Cond.fieldLink RX7 111 "ServiceGame" "LEAST" "[I", Cond.fieldLink RX7 114 "ServiceGame" "MOST" "[I", Cond.methodLink RL 46 yX8_set, Cond.instanceMethod yX8_set, Cond.selects RX8 yX8_set yX8_set, Cond.code yX8_set cX8_set 4 (some .int), Cond.constantLong RX8 168 (6), Cond.methodLink RX8 170 yX8_isSet, Cond.static yX8_isSet, Cond.code yX8_isSet cX8_isSet 2 (some .boolean), Cond.constantLong RX8 158 (500), Cond.constantLong RX8 160 (999), Cond.constantLong RX8 162 (9)]
def wsL_law_r16 : List Cond := [Cond.constantLong RX8 164 (100), Cond.constantLong RX8 166 (9999), Cond.methodLink RL 47 yX7_letter, Cond.instanceMethod yX7_letter, Cond.selects RX7 yX7_letter yX7_letter, Cond.code yX7_letter cX7_letter 7 (some .int), Cond.fieldLink RX7 129 "ServiceGame" "lettersInAll" "I", Cond.methodLink RX7 121 yX7_isNumber, Cond.static yX7_isNumber, Cond.code yX7_isNumber cX7_isNumber 1 (some .boolean), Cond.instanceMethod yX2_keep, Cond.selects RX2 yX2_keep yX2_keep, Cond.code yX2_keep cX2_keep 4 none, Cond.fieldLink RX2 21 "ServiceGame$Mail" "size" "I", Cond.instanceMethod yX1_deliver, Cond.selects RX1 yX1_deliver yX1_deliver, Cond.code yX1_deliver cX1_deliver 6 (some .int), Cond.methodLink RX1 27 arraycopyName, Cond.fieldLink RX1 33 "ServiceGame$Machine" "first" "I", Cond.fieldLink RX1 37 "ServiceGame$Machine" "second" "I", Cond.fieldLink RX1 40 "ServiceGame$Machine" "height" "I", Cond.methodLink RX1 43 yX1_run, Cond.instanceMethod yX1_run, Cond.selects RX1 yX1_run yX1_run]
def wsL_law_r17 : List Cond := [Cond.code yX1_run cX1_run 9 (some .int), Cond.fieldLink RX1 64 "ServiceGame$Machine" "fuelUsed" "I", Cond.constant RX1 67 (1000000), Cond.methodLink RX1 68 yX1_pileSuits, Cond.instanceMethod yX1_pileSuits, Cond.selects RX1 yX1_pileSuits yX1_pileSuits, Cond.code yX1_pileSuits cX1_pileSuits 2 (some .boolean), Cond.methodLink RX1 72 yX1_pull, Cond.instanceMethod yX1_pull, Cond.selects RX1 yX1_pull yX1_pull, Cond.code yX1_pull cX1_pull 1 (some .int), Cond.methodLink RX1 76 yX1_act, Cond.instanceMethod yX1_act, Cond.selects RX1 yX1_act yX1_act, Cond.code yX1_act cX1_act 4 none, Cond.methodLink RX1 80 yX1_push, Cond.instanceMethod yX1_push, Cond.selects RX1 yX1_push yX1_push, Cond.code yX1_push cX1_push 2 none, Cond.methodLink RX1 84 yX1_joinTwo, Cond.instanceMethod yX1_joinTwo, Cond.selects RX1 yX1_joinTwo yX1_joinTwo, Cond.code yX1_joinTwo cX1_joinTwo 4 none, Cond.methodLink RX1 87 yX1_joined]
def wsL_law_r18 : List Cond := [Cond.static yX1_joined, Cond.code yX1_joined cX1_joined 3 (some .int), Cond.methodLink RL 51 yX8_letter, Cond.instanceMethod yX8_letter, Cond.selects RX8 yX8_letter yX8_letter, Cond.code yX8_letter cX8_letter 6 (some .int), Cond.fieldLink RX8 203 "ServiceGameModel" "letters" "I", Cond.fieldLink RX8 206 "ServiceGameModel" "lettersAll" "I", Cond.methodLink RX8 209 yX8_runs, Cond.instanceMethod yX8_runs, Cond.selects RX8 yX8_runs yX8_runs, Cond.code yX8_runs cX8_runs 7 (some .int), Cond.fieldLink RX8 173 "ServiceGameModel" "high" "I", Cond.fieldLink RX8 178 "ServiceGameModel" "next" "I", Cond.fieldLink RX8 195 "ServiceGameModel" "fuelAll" "I", Cond.constant RX8 198 (1000000), Cond.methodLink RX8 188 yX8_needs, Cond.static yX8_needs, Cond.code yX8_needs cX8_needs 1 (some .int), Cond.methodLink RX8 181 yX8_isPush, Cond.static yX8_isPush, Cond.code yX8_isPush cX8_isPush 1 (some .boolean), Cond.methodLink RX8 199 yX8_does, Cond.instanceMethod yX8_does]
def wsL_law_r19 : List Cond := [Cond.selects RX8 yX8_does yX8_does, Cond.code yX8_does cX8_does 6 none, Cond.methodLink RX8 184 yX8_pushes, Cond.instanceMethod yX8_pushes, Cond.selects RX8 yX8_pushes yX8_pushes, Cond.code yX8_pushes cX8_pushes 2 none, Cond.methodLink RX8 191 yX8_of, Cond.static yX8_of, Cond.code yX8_of cX8_of 3 (some .int), Cond.constantLong RX8 176 (10000), Cond.methodLink RL 52 yX7_round, Cond.instanceMethod yX7_round, Cond.selects RX7 yX7_round yX7_round, Cond.code yX7_round cX7_round 5 (some .int), Cond.methodLink RX7 136 yJx4a65c_isEmpty_aae02, Cond.instanceMethod yJx4a65c_isEmpty_aae02, Cond.selects RJx4a65c yJx4a65c_isEmpty_aae02 yJx4a65c_isEmpty_aae02, Cond.code yJx4a65c_isEmpty_aae02 cJx4a65c_isEmpty_aae02 1 (some .boolean), Cond.instanceMethod yX5_takePatch, Cond.selects RX5 yX5_takePatch yX5_takePatch, Cond.code yX5_takePatch cX5_takePatch 1 none, Cond.fieldLink RX5 40 "ServiceGame$Service" "patch" "LServiceGame$Program;", Cond.fieldLink RX5 44 "ServiceGame$Service" "program" "LServiceGame$Program;", Cond.methodLink RX7 149 yX7_writeChecks]
def wsL_law_r20 : List Cond := [Cond.instanceMethod yX7_writeChecks, Cond.selects RX7 yX7_writeChecks yX7_writeChecks, Cond.code yX7_writeChecks cX7_writeChecks 12 (some .boolean), Cond.fieldLink RX7 235 "ServiceGame" "ORDERS" "[I", Cond.methodLink RX7 175 yX7_mix, Cond.instanceMethod yX7_mix, Cond.selects RX7 yX7_mix yX7_mix, Cond.code yX7_mix cX7_mix 3 (some .int), Cond.methodLink RX7 238 yX7_checkNumber, Cond.static yX7_checkNumber, Cond.code yX7_checkNumber cX7_checkNumber 2 (some .int), Cond.methodLink RX7 179 yX7_flagOf, Cond.static yX7_flagOf, Cond.code yX7_flagOf cX7_flagOf 1 (some .int), Cond.methodLink RX7 241 yX7_dueAnswer, Cond.instanceMethod yX7_dueAnswer, Cond.selects RX7 yX7_dueAnswer yX7_dueAnswer, Cond.code yX7_dueAnswer cX7_dueAnswer 5 (some .int), Cond.instanceMethod yX5_keepCheck, Cond.selects RX5 yX5_keepCheck yX5_keepCheck, Cond.code yX5_keepCheck cX5_keepCheck 6 none, Cond.instanceMethod yX2_countLikeChecks, Cond.selects RX2 yX2_countLikeChecks yX2_countLikeChecks, Cond.code yX2_countLikeChecks cX2_countLikeChecks 4 none]
def wsL_law_r21 : List Cond := [Cond.classLink RX2 26 "ServiceGame$Service", Cond.methodLink RX2 33 yJx4a65c_size_8abf5, Cond.methodLink RX2 38 yJx4a65c_get_915e3, Cond.instanceMethod yX5_isLikeCheck, Cond.selects RX5 yX5_isLikeCheck yX5_isLikeCheck, Cond.code yX5_isLikeCheck cX5_isLikeCheck 4 (some .boolean), Cond.methodLink RL 55 yX8_round, Cond.instanceMethod yX8_round, Cond.selects RX8 yX8_round yX8_round, Cond.code yX8_round cX8_round 4 (some .int), Cond.fieldLink RX8 219 "ServiceGameModel" "ahead" "I", Cond.methodLink RX8 222 yX8_checks, Cond.instanceMethod yX8_checks, Cond.selects RX8 yX8_checks yX8_checks, Cond.code yX8_checks cX8_checks 10 (some .boolean), Cond.methodLink RX8 212 yX8_mix, Cond.instanceMethod yX8_mix, Cond.selects RX8 yX8_mix yX8_mix, Cond.code yX8_mix cX8_mix 3 (some .int), Cond.methodLink RX8 216 yX8_flagOf, Cond.instanceMethod yX8_flagOf, Cond.selects RX8 yX8_flagOf yX8_flagOf, Cond.code yX8_flagOf cX8_flagOf 3 (some .int), Cond.methodLink RL 56 yX7_up]
def wsL_law_r22 : List Cond := [Cond.instanceMethod yX7_up, Cond.selects RX7 yX7_up yX7_up, Cond.code yX7_up cX7_up 5 (some .int), Cond.methodLink RX7 160 yX7_wasRound, Cond.instanceMethod yX7_wasRound, Cond.selects RX7 yX7_wasRound yX7_wasRound, Cond.code yX7_wasRound cX7_wasRound 2 (some .boolean), Cond.methodLink RL 59 yX8_up, Cond.instanceMethod yX8_up, Cond.selects RX8 yX8_up yX8_up, Cond.code yX8_up cX8_up 4 (some .int), Cond.methodLink RL 60 yX7_check, Cond.instanceMethod yX7_check, Cond.selects RX7 yX7_check yX7_check, Cond.code yX7_check cX7_check 6 (some .int), Cond.methodLink RL 64 yX8_check, Cond.instanceMethod yX8_check, Cond.selects RX8 yX8_check yX8_check, Cond.code yX8_check cX8_check 6 (some .int), Cond.methodLink RL 65 yX7_flag, Cond.instanceMethod yX7_flag, Cond.selects RX7 yX7_flag yX7_flag, Cond.code yX7_flag cX7_flag 5 (some .int), Cond.methodLink RL 68 yX8_flag]
def wsL_law_r23 : List Cond := [Cond.instanceMethod yX8_flag, Cond.selects RX8 yX8_flag yX8_flag, Cond.code yX8_flag cX8_flag 4 (some .int), Cond.methodLink RL 69 yX7_hand, Cond.instanceMethod yX7_hand, Cond.selects RX7 yX7_hand yX7_hand, Cond.code yX7_hand cX7_hand 7 (some .int), Cond.classLink RX7 191 RX0, Cond.instantiable RX0 3, Cond.initialized RX0, Cond.methodLink RX7 183 yX7_roundThatCounts, Cond.instanceMethod yX7_roundThatCounts, Cond.selects RX7 yX7_roundThatCounts yX7_roundThatCounts, Cond.code yX7_roundThatCounts cX7_roundThatCounts 6 (some .int), Cond.methodLink RX7 249 Lib.Math.max.name, Cond.instanceMethod yX5_isTaken, Cond.selects RX5 yX5_isTaken yX5_isTaken, Cond.code yX5_isTaken cX5_isTaken 5 (some .boolean), Cond.instanceMethod yX5_take, Cond.selects RX5 yX5_take yX5_take, Cond.code yX5_take cX5_take 4 none, Cond.instanceMethod yX0_init, Cond.code yX0_init cX0_init 4 none, Cond.methodLink RX0 1 objectInit]
def wsL_law_r24 : List Cond := [Cond.fieldLink RX0 7 "ServiceGame$HandIn" "by" "I", Cond.fieldLink RX0 13 "ServiceGame$HandIn" "service" "LServiceGame$Service;", Cond.fieldLink RX0 17 "ServiceGame$HandIn" "put" "I", Cond.methodLink RL 72 yX8_hand, Cond.instanceMethod yX8_hand, Cond.selects RX8 yX8_hand yX8_hand, Cond.code yX8_hand cX8_hand 7 (some .int), Cond.fieldLink RX8 228 "ServiceGameModel" "hands" "I", Cond.methodLink RX8 225 yX8_handed, Cond.instanceMethod yX8_handed, Cond.selects RX8 yX8_handed yX8_handed, Cond.code yX8_handed cX8_handed 4 (some .int), Cond.methodLink RL 73 yX7_points, Cond.instanceMethod yX7_points, Cond.selects RX7 yX7_points yX7_points, Cond.code yX7_points cX7_points 3 (some .int), Cond.constant RX7 196 (-1000000), Cond.methodLink RX7 197 yX7_pointsAhead, Cond.instanceMethod yX7_pointsAhead, Cond.selects RX7 yX7_pointsAhead yX7_pointsAhead, Cond.code yX7_pointsAhead cX7_pointsAhead 3 (some .int), Cond.methodLink RX7 201 yX7_upPoints, Cond.instanceMethod yX7_upPoints, Cond.selects RX7 yX7_upPoints yX7_upPoints]
def wsL_law_r25 : List Cond := [Cond.code yX7_upPoints cX7_upPoints 7 (some .int), Cond.methodLink RX7 258 Lib.Math.min.name, Cond.methodLink RX7 204 yX7_stolenPoints, Cond.instanceMethod yX7_stolenPoints, Cond.selects RX7 yX7_stolenPoints yX7_stolenPoints, Cond.code yX7_stolenPoints cX7_stolenPoints 6 (some .int), Cond.classLink RX7 191 "ServiceGame$HandIn", Cond.instanceMethod yX5_takers, Cond.selects RX5 yX5_takers yX5_takers, Cond.code yX5_takers cX5_takers 5 (some .int), Cond.methodLink RX5 47 yX5_isTaken, Cond.methodLink RX7 274 yX7_share, Cond.static yX7_share, Cond.code yX7_share cX7_share 1 (some .int), Cond.methodLink RX7 207 yX7_takenOff, Cond.instanceMethod yX7_takenOff, Cond.selects RX7 yX7_takenOff yX7_takenOff, Cond.code yX7_takenOff cX7_takenOff 6 (some .int), Cond.methodLink RX7 210 yX7_handInsBy, Cond.instanceMethod yX7_handInsBy, Cond.selects RX7 yX7_handInsBy yX7_handInsBy, Cond.code yX7_handInsBy cX7_handInsBy 4 (some .int), Cond.methodLink RL 76 yX8_points, Cond.instanceMethod yX8_points]
def wsL_law_r26 : List Cond := [Cond.selects RX8 yX8_points yX8_points, Cond.code yX8_points cX8_points 3 (some .int), Cond.constant RX8 239 (-1000000), Cond.methodLink RX8 240 yX8_findPoints, Cond.instanceMethod yX8_findPoints, Cond.selects RX8 yX8_findPoints yX8_findPoints, Cond.code yX8_findPoints cX8_findPoints 4 none, Cond.methodLink RX8 231 yX8_stolen, Cond.instanceMethod yX8_stolen, Cond.selects RX8 yX8_stolen yX8_stolen, Cond.code yX8_stolen cX8_stolen 6 none, Cond.methodLink RX8 235 yX8_isHanded, Cond.instanceMethod yX8_isHanded, Cond.selects RX8 yX8_isHanded yX8_isHanded, Cond.code yX8_isHanded cX8_isHanded 6 (some .boolean), Cond.methodLink RX8 243 yX8_sum, Cond.instanceMethod yX8_sum, Cond.selects RX8 yX8_sum yX8_sum, Cond.code yX8_sum cX8_sum 2 (some .int), Cond.methodLink RL 77 yX7_board, Cond.instanceMethod yX7_board, Cond.selects RX7 yX7_board yX7_board, Cond.code yX7_board cX7_board 5 (some .int), Cond.methodLink RX7 213 yX7_placeOnBoard]
def wsL_law_r27 : List Cond := [Cond.instanceMethod yX7_placeOnBoard, Cond.selects RX7 yX7_placeOnBoard yX7_placeOnBoard, Cond.code yX7_placeOnBoard cX7_placeOnBoard 7 (some .int), Cond.methodLink RL 80 yX8_board, Cond.instanceMethod yX8_board, Cond.selects RX8 yX8_board yX8_board, Cond.code yX8_board cX8_board 6 (some .int), Cond.methodLink RL 81 yX7_gain, Cond.instanceMethod yX7_gain, Cond.selects RX7 yX7_gain yX7_gain, Cond.code yX7_gain cX7_gain 5 (some .int), Cond.constant RX7 221 (-1000001), Cond.methodLink RX7 216 yJ6_bitCount_0f7a4, Cond.static yJ6_bitCount_0f7a4, Cond.initialized RJ6, Cond.code yJ6_bitCount_0f7a4 cJ6_bitCount_0f7a4 1 (some .int), Cond.constant RJ6 265 (1431655765), Cond.constant RJ6 266 (858993459), Cond.constant RJ6 267 (252645135), Cond.methodLink RX7 225 yX7_gainFromFlag, Cond.instanceMethod yX7_gainFromFlag, Cond.selects RX7 yX7_gainFromFlag yX7_gainFromFlag, Cond.code yX7_gainFromFlag cX7_gainFromFlag 10 (some .int), Cond.methodLink RL 85 yX8_gain]
def wsL_law_r28 : List Cond := [Cond.instanceMethod yX8_gain, Cond.selects RX8 yX8_gain yX8_gain, Cond.code yX8_gain cX8_gain 7 (some .int), Cond.constant RX8 246 (-1000001), Cond.methodLink RX8 247 yX8_sumOf, Cond.instanceMethod yX8_sumOf, Cond.selects RX8 yX8_sumOf yX8_sumOf, Cond.code yX8_sumOf cX8_sumOf 4 (some .int), Cond.methodLink RX8 250 yX8_helps, Cond.instanceMethod yX8_helps, Cond.selects RX8 yX8_helps yX8_helps, Cond.code yX8_helps cX8_helps 7 none, Cond.methodLink RL 86 yX7_alike, Cond.instanceMethod yX7_alike, Cond.selects RX7 yX7_alike yX7_alike, Cond.code yX7_alike cX7_alike 4 (some .int), Cond.methodLink RL 89 yX8_alike, Cond.instanceMethod yX8_alike, Cond.selects RX8 yX8_alike yX8_alike, Cond.code yX8_alike cX8_alike 8 (some .int), Cond.methodLink RL 90 yX7_count, Cond.instanceMethod yX7_count, Cond.selects RX7 yX7_count yX7_count, Cond.code yX7_count cX7_count 2 (some .int)]
def wsL_law_r29 : List Cond := [Cond.methodLink RL 93 yX8_count, Cond.instanceMethod yX8_count, Cond.selects RX8 yX8_count yX8_count, Cond.code yX8_count cX8_count 2 (some .int)]
def wsL_law : List Cond := (wsL_law_r1 ++ (wsL_law_r2 ++ (wsL_law_r3 ++ (wsL_law_r4 ++ (wsL_law_r5 ++ (wsL_law_r6 ++ (wsL_law_r7 ++ (wsL_law_r8 ++ (wsL_law_r9 ++ (wsL_law_r10 ++ (wsL_law_r11 ++ (wsL_law_r12 ++ (wsL_law_r13 ++ (wsL_law_r14 ++ (wsL_law_r15 ++ (wsL_law_r16 ++ (wsL_law_r17 ++ (wsL_law_r18 ++ (wsL_law_r19 ++ (wsL_law_r20 ++ (wsL_law_r21 ++ (wsL_law_r22 ++ (wsL_law_r23 ++ (wsL_law_r24 ++ (wsL_law_r25 ++ (wsL_law_r26 ++ (wsL_law_r27 ++ (wsL_law_r28 ++ wsL_law_r29)))))))))))))))))))))))))))) ++ wsX70 ++ wsX80 ++ wsJx4a65c0 ++ wsX60 ++ wsX40 ++ wsX10 ++ wsX20 ++ wsX50 ++ wsX30 ++ wsX00 ++ ([] : List Cond)
abbrev vwCl : List vw_C := [(RJx4a65c, TJx4a65c, 3), (RX0, TX0, 3), (RX1, TX1, 6), (RX2, TX2, 4), (RX3, TX3, 3), (RX4, TX4, 4), (RX5, TX5, 14), (RX6, TX6, 2), (RX7, TX7, 10), (RX8, TX8, 43)]
end
section
theorem dX0_init_0 : decode cX0_init 0 = .ok (.aload_n 0, 1) := by decide +kernel
theorem dX0_init_1 : decode cX0_init 1 = .ok (.invokespecial 1, 3) := by decide +kernel
theorem dX0_init_4 : decode cX0_init 4 = .ok (.aload_n 0, 1) := by decide +kernel
theorem dX0_init_5 : decode cX0_init 5 = .ok (.iload_n 1, 1) := by decide +kernel
theorem dX0_init_6 : decode cX0_init 6 = .ok (.putfield 7, 3) := by decide +kernel
theorem dX0_init_9 : decode cX0_init 9 = .ok (.aload_n 0, 1) := by decide +kernel
theorem dX0_init_10 : decode cX0_init 10 = .ok (.aload_n 2, 1) := by decide +kernel
theorem dX0_init_11 : decode cX0_init 11 = .ok (.putfield 13, 3) := by decide +kernel
theorem dX0_init_14 : decode cX0_init 14 = .ok (.aload_n 0, 1) := by decide +kernel
theorem dX0_init_15 : decode cX0_init 15 = .ok (.iload_n 3, 1) := by decide +kernel
theorem dX0_init_16 : decode cX0_init 16 = .ok (.putfield 17, 3) := by decide +kernel
theorem dX0_init_19 : decode cX0_init 19 = .ok (.return_, 1) := by decide +kernel
theorem dX1_init_0 : decode cX1_init 0 = .ok (.aload_n 0, 1) := by decide +kernel
theorem dX1_init_1 : decode cX1_init 1 = .ok (.invokespecial 3, 3) := by decide +kernel
theorem dX1_init_4 : decode cX1_init 4 = .ok (.aload_n 0, 1) := by decide +kernel
theorem dX1_init_5 : decode cX1_init 5 = .ok (.bipush 8, 2) := by decide +kernel
theorem dX1_init_7 : decode cX1_init 7 = .ok (.newarray .int, 2) := by decide +kernel
theorem dX1_init_9 : decode cX1_init 9 = .ok (.putfield 9, 3) := by decide +kernel
theorem dX1_init_12 : decode cX1_init 12 = .ok (.aload_n 0, 1) := by decide +kernel
theorem dX1_init_13 : decode cX1_init 13 = .ok (.bipush 8, 2) := by decide +kernel
theorem dX1_init_15 : decode cX1_init 15 = .ok (.newarray .int, 2) := by decide +kernel
theorem dX1_init_17 : decode cX1_init 17 = .ok (.putfield 15, 3) := by decide +kernel
theorem dX1_init_20 : decode cX1_init 20 = .ok (.return_, 1) := by decide +kernel
set_option maxRecDepth 20000 in
theorem ggX1_deliver_X1_run : GoodIn wsX1_deliver wsX1_run := goodIn_r _ [13, 14, 15, 16, 8, 17, 18, 19, 12, 20, 21, 22, 23, 24, 25, 26, 27, 28, 6, 7, 29, 30, 31, 32, 33, 34, 35, 36, 37, 38, 39, 60, 61, 62, 54, 55, 56, 57, 58, 59] (by decide +kernel) (by decide +kernel)
set_option maxRecDepth 20000 in
theorem gX1_deliver_X1_run : GoodIn wsX1_deliver (wsV RX1 43 RX1 yX1_run wsX1_run) := goodIn_app (goodIn_of _ (by decide +kernel)) ggX1_deliver_X1_run
theorem dX1_deliver_0 : decode cX1_deliver 0 = .ok (.aload_n 1, 1) := by decide +kernel
theorem dX1_deliver_1 : decode cX1_deliver 1 = .ok (.getfield 18, 3) := by decide +kernel
theorem dX1_deliver_4 : decode cX1_deliver 4 = .ok (.ifnonnull 7, 3) := by decide +kernel
theorem dX1_deliver_7 : decode cX1_deliver 7 = .ok (.sipush 10000, 3) := by decide +kernel
theorem dX1_deliver_10 : decode cX1_deliver 10 = .ok (.ireturn, 1) := by decide +kernel
theorem dX1_deliver_11 : decode cX1_deliver 11 = .ok (.aload_n 1, 1) := by decide +kernel
theorem dX1_deliver_12 : decode cX1_deliver 12 = .ok (.getfield 24, 3) := by decide +kernel
theorem dX1_deliver_15 : decode cX1_deliver 15 = .ok (.iconst 0, 1) := by decide +kernel
theorem dX1_deliver_16 : decode cX1_deliver 16 = .ok (.aload_n 0, 1) := by decide +kernel
theorem dX1_deliver_17 : decode cX1_deliver 17 = .ok (.getfield 15, 3) := by decide +kernel
theorem dX1_deliver_20 : decode cX1_deliver 20 = .ok (.iconst 0, 1) := by decide +kernel
theorem dX1_deliver_21 : decode cX1_deliver 21 = .ok (.bipush 8, 2) := by decide +kernel
theorem dX1_deliver_23 : decode cX1_deliver 23 = .ok (.invokestatic 27, 3) := by decide +kernel
theorem dX1_deliver_26 : decode cX1_deliver 26 = .ok (.aload_n 0, 1) := by decide +kernel
theorem dX1_deliver_27 : decode cX1_deliver 27 = .ok (.iload_n 2, 1) := by decide +kernel
theorem dX1_deliver_28 : decode cX1_deliver 28 = .ok (.putfield 33, 3) := by decide +kernel
theorem dX1_deliver_31 : decode cX1_deliver 31 = .ok (.aload_n 0, 1) := by decide +kernel
theorem dX1_deliver_32 : decode cX1_deliver 32 = .ok (.iload_n 3, 1) := by decide +kernel
theorem dX1_deliver_33 : decode cX1_deliver 33 = .ok (.putfield 37, 3) := by decide +kernel
theorem dX1_deliver_36 : decode cX1_deliver 36 = .ok (.aload_n 0, 1) := by decide +kernel
theorem dX1_deliver_37 : decode cX1_deliver 37 = .ok (.iconst 0, 1) := by decide +kernel
theorem dX1_deliver_38 : decode cX1_deliver 38 = .ok (.putfield 40, 3) := by decide +kernel
theorem dX1_deliver_41 : decode cX1_deliver 41 = .ok (.aload_n 0, 1) := by decide +kernel
theorem dX1_deliver_42 : decode cX1_deliver 42 = .ok (.aload_n 1, 1) := by decide +kernel
theorem dX1_deliver_43 : decode cX1_deliver 43 = .ok (.getfield 18, 3) := by decide +kernel
theorem dX1_deliver_46 : decode cX1_deliver 46 = .ok (.aload_n 1, 1) := by decide +kernel
theorem dX1_deliver_47 : decode cX1_deliver 47 = .ok (.getfield 24, 3) := by decide +kernel
theorem dX1_deliver_50 : decode cX1_deliver 50 = .ok (.iload 4, 2) := by decide +kernel
theorem dX1_deliver_52 : decode cX1_deliver 52 = .ok (.invokevirtual 43, 3) := by decide +kernel
theorem dX1_deliver_55 : decode cX1_deliver 55 = .ok (.istore 5, 2) := by decide +kernel
theorem dX1_deliver_57 : decode cX1_deliver 57 = .ok (.iload 5, 2) := by decide +kernel
theorem dX1_deliver_59 : decode cX1_deliver 59 = .ok (.sipush 10002, 3) := by decide +kernel
theorem dX1_deliver_62 : decode cX1_deliver 62 = .ok (.if_icmp .ne 31, 3) := by decide +kernel
theorem dX1_deliver_65 : decode cX1_deliver 65 = .ok (.aload_n 0, 1) := by decide +kernel
theorem dX1_deliver_66 : decode cX1_deliver 66 = .ok (.getfield 15, 3) := by decide +kernel
theorem dX1_deliver_69 : decode cX1_deliver 69 = .ok (.iconst 0, 1) := by decide +kernel
theorem dX1_deliver_70 : decode cX1_deliver 70 = .ok (.aload_n 1, 1) := by decide +kernel
theorem dX1_deliver_71 : decode cX1_deliver 71 = .ok (.getfield 24, 3) := by decide +kernel
theorem dX1_deliver_74 : decode cX1_deliver 74 = .ok (.iconst 0, 1) := by decide +kernel
theorem dX1_deliver_75 : decode cX1_deliver 75 = .ok (.bipush 8, 2) := by decide +kernel
theorem dX1_deliver_77 : decode cX1_deliver 77 = .ok (.invokestatic 27, 3) := by decide +kernel
theorem dX1_deliver_80 : decode cX1_deliver 80 = .ok (.aload_n 1, 1) := by decide +kernel
theorem dX1_deliver_81 : decode cX1_deliver 81 = .ok (.dup, 1) := by decide +kernel
theorem dX1_deliver_82 : decode cX1_deliver 82 = .ok (.getfield 47, 3) := by decide +kernel
theorem dX1_deliver_85 : decode cX1_deliver 85 = .ok (.iconst 1, 1) := by decide +kernel
theorem dX1_deliver_86 : decode cX1_deliver 86 = .ok (.iadd, 1) := by decide +kernel
theorem dX1_deliver_87 : decode cX1_deliver 87 = .ok (.putfield 47, 3) := by decide +kernel
theorem dX1_deliver_90 : decode cX1_deliver 90 = .ok (.goto 21, 3) := by decide +kernel
theorem dX1_deliver_93 : decode cX1_deliver 93 = .ok (.iload 5, 2) := by decide +kernel
theorem dX1_deliver_95 : decode cX1_deliver 95 = .ok (.sipush 10001, 3) := by decide +kernel
theorem dX1_deliver_98 : decode cX1_deliver 98 = .ok (.if_icmp .ne 13, 3) := by decide +kernel
theorem dX1_deliver_101 : decode cX1_deliver 101 = .ok (.aload_n 1, 1) := by decide +kernel
theorem dX1_deliver_102 : decode cX1_deliver 102 = .ok (.dup, 1) := by decide +kernel
theorem dX1_deliver_103 : decode cX1_deliver 103 = .ok (.getfield 50, 3) := by decide +kernel
theorem dX1_deliver_106 : decode cX1_deliver 106 = .ok (.iconst 1, 1) := by decide +kernel
theorem dX1_deliver_107 : decode cX1_deliver 107 = .ok (.iadd, 1) := by decide +kernel
theorem dX1_deliver_108 : decode cX1_deliver 108 = .ok (.putfield 50, 3) := by decide +kernel
theorem dX1_deliver_111 : decode cX1_deliver 111 = .ok (.iload 5, 2) := by decide +kernel
theorem dX1_deliver_113 : decode cX1_deliver 113 = .ok (.ireturn, 1) := by decide +kernel
set_option maxRecDepth 20000 in
theorem ggX1_run_X1_pileSuits : GoodIn wsX1_run wsX1_pileSuits := goodIn_r _ [9, 4, 34, 35, 36, 37, 38, 39] (by decide +kernel) (by decide +kernel)
set_option maxRecDepth 20000 in
theorem gX1_run_X1_pileSuits : GoodIn wsX1_run (wsV RX1 68 RX1 yX1_pileSuits wsX1_pileSuits) := goodIn_app (goodIn_of _ (by decide +kernel)) ggX1_run_X1_pileSuits
set_option maxRecDepth 20000 in
theorem ggX1_run_X1_pull : GoodIn wsX1_run wsX1_pull := goodIn_r _ [13, 4, 3, 34, 35, 36, 37, 38, 39] (by decide +kernel) (by decide +kernel)
set_option maxRecDepth 20000 in
theorem gX1_run_X1_pull : GoodIn wsX1_run (wsV RX1 72 RX1 yX1_pull wsX1_pull) := goodIn_app (goodIn_of _ (by decide +kernel)) ggX1_run_X1_pull
set_option maxRecDepth 20000 in
theorem ggX1_run_X1_act : GoodIn wsX1_run wsX1_act := goodIn_r _ [17, 18, 19, 20, 21, 22, 8, 23, 4, 3, 10, 11, 12, 13, 24, 25, 26, 27, 28, 29, 30, 34, 35, 36, 37, 38, 39] (by decide +kernel) (by decide +kernel)
set_option maxRecDepth 20000 in
theorem gX1_run_X1_act : GoodIn wsX1_run (wsV RX1 76 RX1 yX1_act wsX1_act) := goodIn_app (goodIn_of _ (by decide +kernel)) ggX1_run_X1_act
theorem dX1_run_0 : decode cX1_run 0 = .ok (.iconst 0, 1) := by decide +kernel
theorem dX1_run_1 : decode cX1_run 1 = .ok (.istore 4, 2) := by decide +kernel
theorem dX1_run_3 : decode cX1_run 3 = .ok (.iconst 0, 1) := by decide +kernel
theorem dX1_run_4 : decode cX1_run 4 = .ok (.istore 5, 2) := by decide +kernel
theorem dX1_run_6 : decode cX1_run 6 = .ok (.iload 5, 2) := by decide +kernel
theorem dX1_run_8 : decode cX1_run 8 = .ok (.iload_n 3, 1) := by decide +kernel
theorem dX1_run_9 : decode cX1_run 9 = .ok (.if_icmp .ge 145, 3) := by decide +kernel
theorem dX1_run_12 : decode cX1_run 12 = .ok (.iload 4, 2) := by decide +kernel
theorem dX1_run_14 : decode cX1_run 14 = .ok (.aload_n 1, 1) := by decide +kernel
theorem dX1_run_15 : decode cX1_run 15 = .ok (.getfield 53, 3) := by decide +kernel
theorem dX1_run_18 : decode cX1_run 18 = .ok (.if_icmp .ge 136, 3) := by decide +kernel
theorem dX1_run_21 : decode cX1_run 21 = .ok (.aload_n 1, 1) := by decide +kernel
theorem dX1_run_22 : decode cX1_run 22 = .ok (.getfield 58, 3) := by decide +kernel
theorem dX1_run_25 : decode cX1_run 25 = .ok (.iload 4, 2) := by decide +kernel
theorem dX1_run_27 : decode cX1_run 27 = .ok (.iaload, 1) := by decide +kernel
theorem dX1_run_28 : decode cX1_run 28 = .ok (.istore 6, 2) := by decide +kernel
theorem dX1_run_30 : decode cX1_run 30 = .ok (.aload_n 1, 1) := by decide +kernel
theorem dX1_run_31 : decode cX1_run 31 = .ok (.getfield 61, 3) := by decide +kernel
theorem dX1_run_34 : decode cX1_run 34 = .ok (.iload 4, 2) := by decide +kernel
theorem dX1_run_36 : decode cX1_run 36 = .ok (.iaload, 1) := by decide +kernel
theorem dX1_run_37 : decode cX1_run 37 = .ok (.istore 7, 2) := by decide +kernel
theorem dX1_run_39 : decode cX1_run 39 = .ok (.aload_n 0, 1) := by decide +kernel
theorem dX1_run_40 : decode cX1_run 40 = .ok (.aload_n 0, 1) := by decide +kernel
theorem dX1_run_41 : decode cX1_run 41 = .ok (.getfield 64, 3) := by decide +kernel
theorem dX1_run_44 : decode cX1_run 44 = .ok (.iconst 1, 1) := by decide +kernel
theorem dX1_run_45 : decode cX1_run 45 = .ok (.iadd, 1) := by decide +kernel
theorem dX1_run_46 : decode cX1_run 46 = .ok (.ldc 67, 2) := by decide +kernel
theorem dX1_run_48 : decode cX1_run 48 = .ok (.irem, 1) := by decide +kernel
theorem dX1_run_49 : decode cX1_run 49 = .ok (.putfield 64, 3) := by decide +kernel
theorem dX1_run_52 : decode cX1_run 52 = .ok (.aload_n 0, 1) := by decide +kernel
theorem dX1_run_53 : decode cX1_run 53 = .ok (.iload 6, 2) := by decide +kernel
theorem dX1_run_55 : decode cX1_run 55 = .ok (.invokevirtual 68, 3) := by decide +kernel
theorem dX1_run_58 : decode cX1_run 58 = .ok (.ifCond .ne 7, 3) := by decide +kernel
theorem dX1_run_61 : decode cX1_run 61 = .ok (.sipush 10002, 3) := by decide +kernel
theorem dX1_run_64 : decode cX1_run 64 = .ok (.ireturn, 1) := by decide +kernel
theorem dX1_run_65 : decode cX1_run 65 = .ok (.iload 6, 2) := by decide +kernel
theorem dX1_run_67 : decode cX1_run 67 = .ok (.bipush 111, 2) := by decide +kernel
theorem dX1_run_69 : decode cX1_run 69 = .ok (.if_icmp .ne 15, 3) := by decide +kernel
theorem dX1_run_72 : decode cX1_run 72 = .ok (.aload_n 0, 1) := by decide +kernel
theorem dX1_run_73 : decode cX1_run 73 = .ok (.getfield 9, 3) := by decide +kernel
theorem dX1_run_76 : decode cX1_run 76 = .ok (.aload_n 0, 1) := by decide +kernel
theorem dX1_run_77 : decode cX1_run 77 = .ok (.getfield 40, 3) := by decide +kernel
theorem dX1_run_80 : decode cX1_run 80 = .ok (.iconst 1, 1) := by decide +kernel
theorem dX1_run_81 : decode cX1_run 81 = .ok (.isub, 1) := by decide +kernel
theorem dX1_run_82 : decode cX1_run 82 = .ok (.iaload, 1) := by decide +kernel
theorem dX1_run_83 : decode cX1_run 83 = .ok (.ireturn, 1) := by decide +kernel
theorem dX1_run_84 : decode cX1_run 84 = .ok (.iload 6, 2) := by decide +kernel
theorem dX1_run_86 : decode cX1_run 86 = .ok (.bipush 104, 2) := by decide +kernel
theorem dX1_run_88 : decode cX1_run 88 = .ok (.if_icmp .ne 7, 3) := by decide +kernel
theorem dX1_run_91 : decode cX1_run 91 = .ok (.sipush 10000, 3) := by decide +kernel
theorem dX1_run_94 : decode cX1_run 94 = .ok (.ireturn, 1) := by decide +kernel
theorem dX1_run_95 : decode cX1_run 95 = .ok (.iload 6, 2) := by decide +kernel
theorem dX1_run_97 : decode cX1_run 97 = .ok (.bipush 103, 2) := by decide +kernel
theorem dX1_run_99 : decode cX1_run 99 = .ok (.if_icmp .eq 17, 3) := by decide +kernel
theorem dX1_run_102 : decode cX1_run 102 = .ok (.iload 6, 2) := by decide +kernel
theorem dX1_run_104 : decode cX1_run 104 = .ok (.bipush 106, 2) := by decide +kernel
theorem dX1_run_106 : decode cX1_run 106 = .ok (.if_icmp .ne 14, 3) := by decide +kernel
theorem dX1_run_109 : decode cX1_run 109 = .ok (.aload_n 0, 1) := by decide +kernel
theorem dX1_run_110 : decode cX1_run 110 = .ok (.invokevirtual 72, 3) := by decide +kernel
theorem dX1_run_113 : decode cX1_run 113 = .ok (.ifCond .ne 7, 3) := by decide +kernel
theorem dX1_run_116 : decode cX1_run 116 = .ok (.iconst 1, 1) := by decide +kernel
theorem dX1_run_117 : decode cX1_run 117 = .ok (.goto 4, 3) := by decide +kernel
theorem dX1_run_120 : decode cX1_run 120 = .ok (.iconst 0, 1) := by decide +kernel
theorem dX1_run_121 : decode cX1_run 121 = .ok (.istore 8, 2) := by decide +kernel
theorem dX1_run_123 : decode cX1_run 123 = .ok (.iload 8, 2) := by decide +kernel
theorem dX1_run_125 : decode cX1_run 125 = .ok (.ifCond .eq 8, 3) := by decide +kernel
theorem dX1_run_128 : decode cX1_run 128 = .ok (.iload 7, 2) := by decide +kernel
theorem dX1_run_130 : decode cX1_run 130 = .ok (.goto 7, 3) := by decide +kernel
theorem dX1_run_133 : decode cX1_run 133 = .ok (.iload 4, 2) := by decide +kernel
theorem dX1_run_135 : decode cX1_run 135 = .ok (.iconst 1, 1) := by decide +kernel
theorem dX1_run_136 : decode cX1_run 136 = .ok (.iadd, 1) := by decide +kernel
theorem dX1_run_137 : decode cX1_run 137 = .ok (.istore 4, 2) := by decide +kernel
theorem dX1_run_139 : decode cX1_run 139 = .ok (.aload_n 0, 1) := by decide +kernel
theorem dX1_run_140 : decode cX1_run 140 = .ok (.iload 6, 2) := by decide +kernel
theorem dX1_run_142 : decode cX1_run 142 = .ok (.iload 7, 2) := by decide +kernel
theorem dX1_run_144 : decode cX1_run 144 = .ok (.aload_n 2, 1) := by decide +kernel
theorem dX1_run_145 : decode cX1_run 145 = .ok (.invokevirtual 76, 3) := by decide +kernel
theorem dX1_run_148 : decode cX1_run 148 = .ok (.iinc 5 1, 3) := by decide +kernel
theorem dX1_run_151 : decode cX1_run 151 = .ok (.goto (-145), 3) := by decide +kernel
theorem dX1_run_154 : decode cX1_run 154 = .ok (.iload 4, 2) := by decide +kernel
theorem dX1_run_156 : decode cX1_run 156 = .ok (.aload_n 1, 1) := by decide +kernel
theorem dX1_run_157 : decode cX1_run 157 = .ok (.getfield 53, 3) := by decide +kernel
theorem dX1_run_160 : decode cX1_run 160 = .ok (.if_icmp .ge 9, 3) := by decide +kernel
theorem dX1_run_163 : decode cX1_run 163 = .ok (.sipush 10001, 3) := by decide +kernel
theorem dX1_run_166 : decode cX1_run 166 = .ok (.goto 6, 3) := by decide +kernel
theorem dX1_run_169 : decode cX1_run 169 = .ok (.sipush 10000, 3) := by decide +kernel
theorem dX1_run_172 : decode cX1_run 172 = .ok (.ireturn, 1) := by decide +kernel
theorem dX1_pileSuits_0 : decode cX1_pileSuits 0 = .ok (.iload_n 1, 1) := by decide +kernel
theorem dX1_pileSuits_1 : decode cX1_pileSuits 1 = .ok (.lookupswitch 150 #[(42, 136), (43, 136), (45, 136), (60, 136), (61, 136), (97, 107), (98, 107), (106, 122), (108, 107), (111, 122), (112, 107), (115, 122)], 107) := by decide +kernel
theorem dX1_pileSuits_108 : decode cX1_pileSuits 108 = .ok (.aload_n 0, 1) := by decide +kernel
theorem dX1_pileSuits_109 : decode cX1_pileSuits 109 = .ok (.getfield 40, 3) := by decide +kernel
theorem dX1_pileSuits_112 : decode cX1_pileSuits 112 = .ok (.bipush 8, 2) := by decide +kernel
theorem dX1_pileSuits_114 : decode cX1_pileSuits 114 = .ok (.if_icmp .ge 7, 3) := by decide +kernel
theorem dX1_pileSuits_117 : decode cX1_pileSuits 117 = .ok (.iconst 1, 1) := by decide +kernel
theorem dX1_pileSuits_118 : decode cX1_pileSuits 118 = .ok (.goto 4, 3) := by decide +kernel
theorem dX1_pileSuits_121 : decode cX1_pileSuits 121 = .ok (.iconst 0, 1) := by decide +kernel
theorem dX1_pileSuits_122 : decode cX1_pileSuits 122 = .ok (.ireturn, 1) := by decide +kernel
theorem dX1_pileSuits_123 : decode cX1_pileSuits 123 = .ok (.aload_n 0, 1) := by decide +kernel
theorem dX1_pileSuits_124 : decode cX1_pileSuits 124 = .ok (.getfield 40, 3) := by decide +kernel
theorem dX1_pileSuits_127 : decode cX1_pileSuits 127 = .ok (.iconst 1, 1) := by decide +kernel
theorem dX1_pileSuits_128 : decode cX1_pileSuits 128 = .ok (.if_icmp .lt 7, 3) := by decide +kernel
theorem dX1_pileSuits_131 : decode cX1_pileSuits 131 = .ok (.iconst 1, 1) := by decide +kernel
theorem dX1_pileSuits_132 : decode cX1_pileSuits 132 = .ok (.goto 4, 3) := by decide +kernel
theorem dX1_pileSuits_135 : decode cX1_pileSuits 135 = .ok (.iconst 0, 1) := by decide +kernel
theorem dX1_pileSuits_136 : decode cX1_pileSuits 136 = .ok (.ireturn, 1) := by decide +kernel
theorem dX1_pileSuits_137 : decode cX1_pileSuits 137 = .ok (.aload_n 0, 1) := by decide +kernel
theorem dX1_pileSuits_138 : decode cX1_pileSuits 138 = .ok (.getfield 40, 3) := by decide +kernel
theorem dX1_pileSuits_141 : decode cX1_pileSuits 141 = .ok (.iconst 2, 1) := by decide +kernel
theorem dX1_pileSuits_142 : decode cX1_pileSuits 142 = .ok (.if_icmp .lt 7, 3) := by decide +kernel
theorem dX1_pileSuits_145 : decode cX1_pileSuits 145 = .ok (.iconst 1, 1) := by decide +kernel
theorem dX1_pileSuits_146 : decode cX1_pileSuits 146 = .ok (.goto 4, 3) := by decide +kernel
theorem dX1_pileSuits_149 : decode cX1_pileSuits 149 = .ok (.iconst 0, 1) := by decide +kernel
theorem dX1_pileSuits_150 : decode cX1_pileSuits 150 = .ok (.ireturn, 1) := by decide +kernel
theorem dX1_pileSuits_151 : decode cX1_pileSuits 151 = .ok (.iconst 1, 1) := by decide +kernel
theorem dX1_pileSuits_152 : decode cX1_pileSuits 152 = .ok (.ireturn, 1) := by decide +kernel
set_option maxRecDepth 20000 in
theorem ggX1_act_X1_push : GoodIn wsX1_act wsX1_push := goodIn_r _ [7, 8, 9, 21, 22, 23, 24, 25, 26] (by decide +kernel) (by decide +kernel)
set_option maxRecDepth 20000 in
theorem gX1_act_X1_push : GoodIn wsX1_act (wsV RX1 80 RX1 yX1_push wsX1_push) := goodIn_app (goodIn_of _ (by decide +kernel)) ggX1_act_X1_push
set_option maxRecDepth 20000 in
theorem ggX1_act_X1_pull : GoodIn wsX1_act wsX1_pull := goodIn_r _ [13, 8, 9, 21, 22, 23, 24, 25, 26] (by decide +kernel) (by decide +kernel)
set_option maxRecDepth 20000 in
theorem gX1_act_X1_pull : GoodIn wsX1_act (wsV RX1 72 RX1 yX1_pull wsX1_pull) := goodIn_app (goodIn_of _ (by decide +kernel)) ggX1_act_X1_pull
set_option maxRecDepth 20000 in
theorem ggX1_act_X1_joinTwo : GoodIn wsX1_act wsX1_joinTwo := goodIn_r _ [17, 10, 11, 12, 6, 13, 8, 9, 18, 19, 20, 3, 4, 5, 7, 21, 22, 23, 24, 25, 26] (by decide +kernel) (by decide +kernel)
set_option maxRecDepth 20000 in
theorem gX1_act_X1_joinTwo : GoodIn wsX1_act (wsV RX1 84 RX1 yX1_joinTwo wsX1_joinTwo) := goodIn_app (goodIn_of _ (by decide +kernel)) ggX1_act_X1_joinTwo
theorem dX1_act_0 : decode cX1_act 0 = .ok (.iload_n 1, 1) := by decide +kernel
theorem dX1_act_1 : decode cX1_act 1 = .ok (.lookupswitch 149 #[(42, 141), (43, 141), (45, 141), (60, 141), (61, 141), (97, 99), (98, 110), (108, 121), (112, 91), (115, 131)], 91) := by decide +kernel
theorem dX1_act_92 : decode cX1_act 92 = .ok (.aload_n 0, 1) := by decide +kernel
theorem dX1_act_93 : decode cX1_act 93 = .ok (.iload_n 2, 1) := by decide +kernel
theorem dX1_act_94 : decode cX1_act 94 = .ok (.invokevirtual 80, 3) := by decide +kernel
theorem dX1_act_97 : decode cX1_act 97 = .ok (.goto 53, 3) := by decide +kernel
theorem dX1_act_100 : decode cX1_act 100 = .ok (.aload_n 0, 1) := by decide +kernel
theorem dX1_act_101 : decode cX1_act 101 = .ok (.aload_n 0, 1) := by decide +kernel
theorem dX1_act_102 : decode cX1_act 102 = .ok (.getfield 33, 3) := by decide +kernel
theorem dX1_act_105 : decode cX1_act 105 = .ok (.invokevirtual 80, 3) := by decide +kernel
theorem dX1_act_108 : decode cX1_act 108 = .ok (.goto 42, 3) := by decide +kernel
theorem dX1_act_111 : decode cX1_act 111 = .ok (.aload_n 0, 1) := by decide +kernel
theorem dX1_act_112 : decode cX1_act 112 = .ok (.aload_n 0, 1) := by decide +kernel
theorem dX1_act_113 : decode cX1_act 113 = .ok (.getfield 37, 3) := by decide +kernel
theorem dX1_act_116 : decode cX1_act 116 = .ok (.invokevirtual 80, 3) := by decide +kernel
theorem dX1_act_119 : decode cX1_act 119 = .ok (.goto 31, 3) := by decide +kernel
theorem dX1_act_122 : decode cX1_act 122 = .ok (.aload_n 0, 1) := by decide +kernel
theorem dX1_act_123 : decode cX1_act 123 = .ok (.aload_n 3, 1) := by decide +kernel
theorem dX1_act_124 : decode cX1_act 124 = .ok (.iload_n 2, 1) := by decide +kernel
theorem dX1_act_125 : decode cX1_act 125 = .ok (.iaload, 1) := by decide +kernel
theorem dX1_act_126 : decode cX1_act 126 = .ok (.invokevirtual 80, 3) := by decide +kernel
theorem dX1_act_129 : decode cX1_act 129 = .ok (.goto 21, 3) := by decide +kernel
theorem dX1_act_132 : decode cX1_act 132 = .ok (.aload_n 3, 1) := by decide +kernel
theorem dX1_act_133 : decode cX1_act 133 = .ok (.iload_n 2, 1) := by decide +kernel
theorem dX1_act_134 : decode cX1_act 134 = .ok (.aload_n 0, 1) := by decide +kernel
theorem dX1_act_135 : decode cX1_act 135 = .ok (.invokevirtual 72, 3) := by decide +kernel
theorem dX1_act_138 : decode cX1_act 138 = .ok (.iastore, 1) := by decide +kernel
theorem dX1_act_139 : decode cX1_act 139 = .ok (.goto 11, 3) := by decide +kernel
theorem dX1_act_142 : decode cX1_act 142 = .ok (.aload_n 0, 1) := by decide +kernel
theorem dX1_act_143 : decode cX1_act 143 = .ok (.iload_n 1, 1) := by decide +kernel
theorem dX1_act_144 : decode cX1_act 144 = .ok (.invokevirtual 84, 3) := by decide +kernel
theorem dX1_act_147 : decode cX1_act 147 = .ok (.goto 3, 3) := by decide +kernel
theorem dX1_act_150 : decode cX1_act 150 = .ok (.return_, 1) := by decide +kernel
set_option maxRecDepth 20000 in
theorem ggX1_joinTwo_X1_pull : GoodIn wsX1_joinTwo wsX1_pull := goodIn_r _ [5, 6, 7, 15, 16, 17, 18, 19, 20] (by decide +kernel) (by decide +kernel)
set_option maxRecDepth 20000 in
theorem gX1_joinTwo_X1_pull : GoodIn wsX1_joinTwo (wsV RX1 72 RX1 yX1_pull wsX1_pull) := goodIn_app (goodIn_of _ (by decide +kernel)) ggX1_joinTwo_X1_pull
set_option maxRecDepth 20000 in
theorem ggX1_joinTwo_X1_joined : GoodIn wsX1_joinTwo wsX1_joined := goodIn_r _ [10] (by decide +kernel) (by decide +kernel)
set_option maxRecDepth 20000 in
theorem gX1_joinTwo_X1_joined : GoodIn wsX1_joinTwo (va_wsS RX1 87 yX1_joined wsX1_joined) := goodIn_app (goodIn_of _ (by decide +kernel)) ggX1_joinTwo_X1_joined
set_option maxRecDepth 20000 in
theorem ggX1_joinTwo_X1_push : GoodIn wsX1_joinTwo wsX1_push := goodIn_r _ [14, 6, 7, 15, 16, 17, 18, 19, 20] (by decide +kernel) (by decide +kernel)
set_option maxRecDepth 20000 in
theorem gX1_joinTwo_X1_push : GoodIn wsX1_joinTwo (wsV RX1 80 RX1 yX1_push wsX1_push) := goodIn_app (goodIn_of _ (by decide +kernel)) ggX1_joinTwo_X1_push
theorem dX1_joinTwo_0 : decode cX1_joinTwo 0 = .ok (.aload_n 0, 1) := by decide +kernel
theorem dX1_joinTwo_1 : decode cX1_joinTwo 1 = .ok (.invokevirtual 72, 3) := by decide +kernel
theorem dX1_joinTwo_4 : decode cX1_joinTwo 4 = .ok (.istore_n 2, 1) := by decide +kernel
theorem dX1_joinTwo_5 : decode cX1_joinTwo 5 = .ok (.aload_n 0, 1) := by decide +kernel
theorem dX1_joinTwo_6 : decode cX1_joinTwo 6 = .ok (.invokevirtual 72, 3) := by decide +kernel
theorem dX1_joinTwo_9 : decode cX1_joinTwo 9 = .ok (.istore_n 3, 1) := by decide +kernel
theorem dX1_joinTwo_10 : decode cX1_joinTwo 10 = .ok (.aload_n 0, 1) := by decide +kernel
theorem dX1_joinTwo_11 : decode cX1_joinTwo 11 = .ok (.iload_n 1, 1) := by decide +kernel
theorem dX1_joinTwo_12 : decode cX1_joinTwo 12 = .ok (.iload_n 3, 1) := by decide +kernel
theorem dX1_joinTwo_13 : decode cX1_joinTwo 13 = .ok (.iload_n 2, 1) := by decide +kernel
theorem dX1_joinTwo_14 : decode cX1_joinTwo 14 = .ok (.invokestatic 87, 3) := by decide +kernel
theorem dX1_joinTwo_17 : decode cX1_joinTwo 17 = .ok (.invokevirtual 80, 3) := by decide +kernel
theorem dX1_joinTwo_20 : decode cX1_joinTwo 20 = .ok (.return_, 1) := by decide +kernel
theorem dX1_joined_0 : decode cX1_joined 0 = .ok (.iload_n 0, 1) := by decide +kernel
theorem dX1_joined_1 : decode cX1_joined 1 = .ok (.lookupswitch 82 #[(42, 63), (43, 43), (45, 51), (61, 71)], 43) := by decide +kernel
theorem dX1_joined_44 : decode cX1_joined 44 = .ok (.iload_n 1, 1) := by decide +kernel
theorem dX1_joined_45 : decode cX1_joined 45 = .ok (.iload_n 2, 1) := by decide +kernel
theorem dX1_joined_46 : decode cX1_joined 46 = .ok (.iadd, 1) := by decide +kernel
theorem dX1_joined_47 : decode cX1_joined 47 = .ok (.sipush 10000, 3) := by decide +kernel
theorem dX1_joined_50 : decode cX1_joined 50 = .ok (.irem, 1) := by decide +kernel
theorem dX1_joined_51 : decode cX1_joined 51 = .ok (.ireturn, 1) := by decide +kernel
theorem dX1_joined_52 : decode cX1_joined 52 = .ok (.iload_n 1, 1) := by decide +kernel
theorem dX1_joined_53 : decode cX1_joined 53 = .ok (.iload_n 2, 1) := by decide +kernel
theorem dX1_joined_54 : decode cX1_joined 54 = .ok (.isub, 1) := by decide +kernel
theorem dX1_joined_55 : decode cX1_joined 55 = .ok (.sipush 10000, 3) := by decide +kernel
theorem dX1_joined_58 : decode cX1_joined 58 = .ok (.iadd, 1) := by decide +kernel
theorem dX1_joined_59 : decode cX1_joined 59 = .ok (.sipush 10000, 3) := by decide +kernel
theorem dX1_joined_62 : decode cX1_joined 62 = .ok (.irem, 1) := by decide +kernel
theorem dX1_joined_63 : decode cX1_joined 63 = .ok (.ireturn, 1) := by decide +kernel
theorem dX1_joined_64 : decode cX1_joined 64 = .ok (.iload_n 1, 1) := by decide +kernel
theorem dX1_joined_65 : decode cX1_joined 65 = .ok (.iload_n 2, 1) := by decide +kernel
theorem dX1_joined_66 : decode cX1_joined 66 = .ok (.imul, 1) := by decide +kernel
theorem dX1_joined_67 : decode cX1_joined 67 = .ok (.sipush 10000, 3) := by decide +kernel
theorem dX1_joined_70 : decode cX1_joined 70 = .ok (.irem, 1) := by decide +kernel
theorem dX1_joined_71 : decode cX1_joined 71 = .ok (.ireturn, 1) := by decide +kernel
theorem dX1_joined_72 : decode cX1_joined 72 = .ok (.iload_n 1, 1) := by decide +kernel
theorem dX1_joined_73 : decode cX1_joined 73 = .ok (.iload_n 2, 1) := by decide +kernel
theorem dX1_joined_74 : decode cX1_joined 74 = .ok (.if_icmp .ne 7, 3) := by decide +kernel
theorem dX1_joined_77 : decode cX1_joined 77 = .ok (.iconst 1, 1) := by decide +kernel
theorem dX1_joined_78 : decode cX1_joined 78 = .ok (.goto 4, 3) := by decide +kernel
theorem dX1_joined_81 : decode cX1_joined 81 = .ok (.iconst 0, 1) := by decide +kernel
theorem dX1_joined_82 : decode cX1_joined 82 = .ok (.ireturn, 1) := by decide +kernel
theorem dX1_joined_83 : decode cX1_joined 83 = .ok (.iload_n 1, 1) := by decide +kernel
theorem dX1_joined_84 : decode cX1_joined 84 = .ok (.iload_n 2, 1) := by decide +kernel
theorem dX1_joined_85 : decode cX1_joined 85 = .ok (.if_icmp .ge 7, 3) := by decide +kernel
theorem dX1_joined_88 : decode cX1_joined 88 = .ok (.iconst 1, 1) := by decide +kernel
theorem dX1_joined_89 : decode cX1_joined 89 = .ok (.goto 4, 3) := by decide +kernel
theorem dX1_joined_92 : decode cX1_joined 92 = .ok (.iconst 0, 1) := by decide +kernel
theorem dX1_joined_93 : decode cX1_joined 93 = .ok (.ireturn, 1) := by decide +kernel
theorem dX1_push_0 : decode cX1_push 0 = .ok (.aload_n 0, 1) := by decide +kernel
theorem dX1_push_1 : decode cX1_push 1 = .ok (.getfield 40, 3) := by decide +kernel
theorem dX1_push_4 : decode cX1_push 4 = .ok (.bipush 8, 2) := by decide +kernel
theorem dX1_push_6 : decode cX1_push 6 = .ok (.if_icmp .ge 23, 3) := by decide +kernel
theorem dX1_push_9 : decode cX1_push 9 = .ok (.aload_n 0, 1) := by decide +kernel
theorem dX1_push_10 : decode cX1_push 10 = .ok (.getfield 9, 3) := by decide +kernel
theorem dX1_push_13 : decode cX1_push 13 = .ok (.aload_n 0, 1) := by decide +kernel
theorem dX1_push_14 : decode cX1_push 14 = .ok (.getfield 40, 3) := by decide +kernel
theorem dX1_push_17 : decode cX1_push 17 = .ok (.iload_n 1, 1) := by decide +kernel
theorem dX1_push_18 : decode cX1_push 18 = .ok (.iastore, 1) := by decide +kernel
theorem dX1_push_19 : decode cX1_push 19 = .ok (.aload_n 0, 1) := by decide +kernel
theorem dX1_push_20 : decode cX1_push 20 = .ok (.dup, 1) := by decide +kernel
theorem dX1_push_21 : decode cX1_push 21 = .ok (.getfield 40, 3) := by decide +kernel
theorem dX1_push_24 : decode cX1_push 24 = .ok (.iconst 1, 1) := by decide +kernel
theorem dX1_push_25 : decode cX1_push 25 = .ok (.iadd, 1) := by decide +kernel
theorem dX1_push_26 : decode cX1_push 26 = .ok (.putfield 40, 3) := by decide +kernel
theorem dX1_push_29 : decode cX1_push 29 = .ok (.return_, 1) := by decide +kernel
theorem dX1_pull_0 : decode cX1_pull 0 = .ok (.aload_n 0, 1) := by decide +kernel
theorem dX1_pull_1 : decode cX1_pull 1 = .ok (.getfield 40, 3) := by decide +kernel
theorem dX1_pull_4 : decode cX1_pull 4 = .ok (.iconst 1, 1) := by decide +kernel
theorem dX1_pull_5 : decode cX1_pull 5 = .ok (.if_icmp .ge 5, 3) := by decide +kernel
theorem dX1_pull_8 : decode cX1_pull 8 = .ok (.iconst 0, 1) := by decide +kernel
theorem dX1_pull_9 : decode cX1_pull 9 = .ok (.ireturn, 1) := by decide +kernel
theorem dX1_pull_10 : decode cX1_pull 10 = .ok (.aload_n 0, 1) := by decide +kernel
theorem dX1_pull_11 : decode cX1_pull 11 = .ok (.dup, 1) := by decide +kernel
theorem dX1_pull_12 : decode cX1_pull 12 = .ok (.getfield 40, 3) := by decide +kernel
theorem dX1_pull_15 : decode cX1_pull 15 = .ok (.iconst 1, 1) := by decide +kernel
theorem dX1_pull_16 : decode cX1_pull 16 = .ok (.isub, 1) := by decide +kernel
theorem dX1_pull_17 : decode cX1_pull 17 = .ok (.putfield 40, 3) := by decide +kernel
theorem dX1_pull_20 : decode cX1_pull 20 = .ok (.aload_n 0, 1) := by decide +kernel
theorem dX1_pull_21 : decode cX1_pull 21 = .ok (.getfield 9, 3) := by decide +kernel
theorem dX1_pull_24 : decode cX1_pull 24 = .ok (.aload_n 0, 1) := by decide +kernel
theorem dX1_pull_25 : decode cX1_pull 25 = .ok (.getfield 40, 3) := by decide +kernel
theorem dX1_pull_28 : decode cX1_pull 28 = .ok (.iaload, 1) := by decide +kernel
theorem dX1_pull_29 : decode cX1_pull 29 = .ok (.ireturn, 1) := by decide +kernel
theorem dX2_init_0 : decode cX2_init 0 = .ok (.aload_n 0, 1) := by decide +kernel
theorem dX2_init_1 : decode cX2_init 1 = .ok (.invokespecial 3, 3) := by decide +kernel
theorem dX2_init_4 : decode cX2_init 4 = .ok (.aload_n 0, 1) := by decide +kernel
theorem dX2_init_5 : decode cX2_init 5 = .ok (.sipush 400, 3) := by decide +kernel
theorem dX2_init_8 : decode cX2_init 8 = .ok (.newarray .int, 2) := by decide +kernel
theorem dX2_init_10 : decode cX2_init 10 = .ok (.putfield 9, 3) := by decide +kernel
theorem dX2_init_13 : decode cX2_init 13 = .ok (.aload_n 0, 1) := by decide +kernel
theorem dX2_init_14 : decode cX2_init 14 = .ok (.sipush 400, 3) := by decide +kernel
theorem dX2_init_17 : decode cX2_init 17 = .ok (.newarray .int, 2) := by decide +kernel
theorem dX2_init_19 : decode cX2_init 19 = .ok (.putfield 15, 3) := by decide +kernel
theorem dX2_init_22 : decode cX2_init 22 = .ok (.aload_n 0, 1) := by decide +kernel
theorem dX2_init_23 : decode cX2_init 23 = .ok (.sipush 400, 3) := by decide +kernel
theorem dX2_init_26 : decode cX2_init 26 = .ok (.newarray .int, 2) := by decide +kernel
theorem dX2_init_28 : decode cX2_init 28 = .ok (.putfield 18, 3) := by decide +kernel
theorem dX2_init_31 : decode cX2_init 31 = .ok (.return_, 1) := by decide +kernel
theorem dX2_keep_0 : decode cX2_keep 0 = .ok (.aload_n 0, 1) := by decide +kernel
theorem dX2_keep_1 : decode cX2_keep 1 = .ok (.getfield 9, 3) := by decide +kernel
theorem dX2_keep_4 : decode cX2_keep 4 = .ok (.aload_n 0, 1) := by decide +kernel
theorem dX2_keep_5 : decode cX2_keep 5 = .ok (.getfield 21, 3) := by decide +kernel
theorem dX2_keep_8 : decode cX2_keep 8 = .ok (.aload_n 1, 1) := by decide +kernel
theorem dX2_keep_9 : decode cX2_keep 9 = .ok (.getfield 25, 3) := by decide +kernel
theorem dX2_keep_12 : decode cX2_keep 12 = .ok (.iconst 3, 1) := by decide +kernel
theorem dX2_keep_13 : decode cX2_keep 13 = .ok (.imul, 1) := by decide +kernel
theorem dX2_keep_14 : decode cX2_keep 14 = .ok (.aload_n 1, 1) := by decide +kernel
theorem dX2_keep_15 : decode cX2_keep 15 = .ok (.getfield 30, 3) := by decide +kernel
theorem dX2_keep_18 : decode cX2_keep 18 = .ok (.iadd, 1) := by decide +kernel
theorem dX2_keep_19 : decode cX2_keep 19 = .ok (.iastore, 1) := by decide +kernel
theorem dX2_keep_20 : decode cX2_keep 20 = .ok (.aload_n 0, 1) := by decide +kernel
theorem dX2_keep_21 : decode cX2_keep 21 = .ok (.getfield 15, 3) := by decide +kernel
theorem dX2_keep_24 : decode cX2_keep 24 = .ok (.aload_n 0, 1) := by decide +kernel
theorem dX2_keep_25 : decode cX2_keep 25 = .ok (.getfield 21, 3) := by decide +kernel
theorem dX2_keep_28 : decode cX2_keep 28 = .ok (.iload_n 2, 1) := by decide +kernel
theorem dX2_keep_29 : decode cX2_keep 29 = .ok (.iastore, 1) := by decide +kernel
theorem dX2_keep_30 : decode cX2_keep 30 = .ok (.aload_n 0, 1) := by decide +kernel
theorem dX2_keep_31 : decode cX2_keep 31 = .ok (.getfield 18, 3) := by decide +kernel
theorem dX2_keep_34 : decode cX2_keep 34 = .ok (.aload_n 0, 1) := by decide +kernel
theorem dX2_keep_35 : decode cX2_keep 35 = .ok (.getfield 21, 3) := by decide +kernel
theorem dX2_keep_38 : decode cX2_keep 38 = .ok (.iload_n 3, 1) := by decide +kernel
theorem dX2_keep_39 : decode cX2_keep 39 = .ok (.iastore, 1) := by decide +kernel
theorem dX2_keep_40 : decode cX2_keep 40 = .ok (.aload_n 0, 1) := by decide +kernel
theorem dX2_keep_41 : decode cX2_keep 41 = .ok (.dup, 1) := by decide +kernel
theorem dX2_keep_42 : decode cX2_keep 42 = .ok (.getfield 21, 3) := by decide +kernel
theorem dX2_keep_45 : decode cX2_keep 45 = .ok (.iconst 1, 1) := by decide +kernel
theorem dX2_keep_46 : decode cX2_keep 46 = .ok (.iadd, 1) := by decide +kernel
theorem dX2_keep_47 : decode cX2_keep 47 = .ok (.putfield 21, 3) := by decide +kernel
theorem dX2_keep_50 : decode cX2_keep 50 = .ok (.return_, 1) := by decide +kernel
set_option maxRecDepth 20000 in
theorem ggX2_countLikeChecks_Jx4a65c_size_8abf5 : GoodIn wsX2_countLikeChecks wsJx4a65c_size_8abf5 := goodIn_r _ [10, 11, 53, 54, 55] (by decide +kernel) (by decide +kernel)
set_option maxRecDepth 20000 in
theorem gX2_countLikeChecks_Jx4a65c_size_8abf5 : GoodIn wsX2_countLikeChecks (wsV RX2 33 RJx4a65c yJx4a65c_size_8abf5 wsJx4a65c_size_8abf5) := goodIn_app (goodIn_of _ (by decide +kernel)) ggX2_countLikeChecks_Jx4a65c_size_8abf5
set_option maxRecDepth 20000 in
theorem ggX2_countLikeChecks_Jx4a65c_get_915e3 : GoodIn wsX2_countLikeChecks wsJx4a65c_get_915e3 := goodIn_r _ [15, 11, 16, 17, 18, 19, 20, 21, 22, 23, 24, 25, 26, 9, 27, 28, 53, 54, 55] (by decide +kernel) (by decide +kernel)
set_option maxRecDepth 20000 in
theorem gX2_countLikeChecks_Jx4a65c_get_915e3 : GoodIn wsX2_countLikeChecks (wsV RX2 38 RJx4a65c yJx4a65c_get_915e3 wsJx4a65c_get_915e3) := goodIn_app (goodIn_of _ (by decide +kernel)) ggX2_countLikeChecks_Jx4a65c_get_915e3
set_option maxRecDepth 20000 in
theorem ggX2_countLikeChecks_X5_isLikeCheck : GoodIn wsX2_countLikeChecks wsX5_isLikeCheck := goodIn_r _ [32, 33, 34, 39, 40, 41, 42, 43, 44, 45, 46, 47, 48, 49, 50, 51, 52] (by decide +kernel) (by decide +kernel)
set_option maxRecDepth 20000 in
theorem gX2_countLikeChecks_X5_isLikeCheck_n45 : GoodIn wsX2_countLikeChecks (wsX5_isLikeCheck) := ggX2_countLikeChecks_X5_isLikeCheck
theorem dX2_countLikeChecks_0 : decode cX2_countLikeChecks 0 = .ok (.iconst 0, 1) := by decide +kernel
theorem dX2_countLikeChecks_1 : decode cX2_countLikeChecks 1 = .ok (.istore_n 2, 1) := by decide +kernel
theorem dX2_countLikeChecks_2 : decode cX2_countLikeChecks 2 = .ok (.iload_n 2, 1) := by decide +kernel
theorem dX2_countLikeChecks_3 : decode cX2_countLikeChecks 3 = .ok (.aload_n 0, 1) := by decide +kernel
theorem dX2_countLikeChecks_4 : decode cX2_countLikeChecks 4 = .ok (.getfield 21, 3) := by decide +kernel
theorem dX2_countLikeChecks_7 : decode cX2_countLikeChecks 7 = .ok (.if_icmp .ge 69, 3) := by decide +kernel
theorem dX2_countLikeChecks_10 : decode cX2_countLikeChecks 10 = .ok (.aload_n 0, 1) := by decide +kernel
theorem dX2_countLikeChecks_11 : decode cX2_countLikeChecks 11 = .ok (.getfield 9, 3) := by decide +kernel
theorem dX2_countLikeChecks_14 : decode cX2_countLikeChecks 14 = .ok (.iload_n 2, 1) := by decide +kernel
theorem dX2_countLikeChecks_15 : decode cX2_countLikeChecks 15 = .ok (.iaload, 1) := by decide +kernel
theorem dX2_countLikeChecks_16 : decode cX2_countLikeChecks 16 = .ok (.aload_n 1, 1) := by decide +kernel
theorem dX2_countLikeChecks_17 : decode cX2_countLikeChecks 17 = .ok (.invokevirtual 33, 3) := by decide +kernel
theorem dX2_countLikeChecks_20 : decode cX2_countLikeChecks 20 = .ok (.if_icmp .ge 50, 3) := by decide +kernel
theorem dX2_countLikeChecks_23 : decode cX2_countLikeChecks 23 = .ok (.aload_n 1, 1) := by decide +kernel
theorem dX2_countLikeChecks_24 : decode cX2_countLikeChecks 24 = .ok (.aload_n 0, 1) := by decide +kernel
theorem dX2_countLikeChecks_25 : decode cX2_countLikeChecks 25 = .ok (.getfield 9, 3) := by decide +kernel
theorem dX2_countLikeChecks_28 : decode cX2_countLikeChecks 28 = .ok (.iload_n 2, 1) := by decide +kernel
theorem dX2_countLikeChecks_29 : decode cX2_countLikeChecks 29 = .ok (.iaload, 1) := by decide +kernel
theorem dX2_countLikeChecks_30 : decode cX2_countLikeChecks 30 = .ok (.invokevirtual 38, 3) := by decide +kernel
theorem dX2_countLikeChecks_33 : decode cX2_countLikeChecks 33 = .ok (.checkcast 26, 3) := by decide +kernel
theorem dX2_countLikeChecks_36 : decode cX2_countLikeChecks 36 = .ok (.astore_n 3, 1) := by decide +kernel
theorem dX2_countLikeChecks_37 : decode cX2_countLikeChecks 37 = .ok (.aload_n 3, 1) := by decide +kernel
theorem dX2_countLikeChecks_38 : decode cX2_countLikeChecks 38 = .ok (.dup, 1) := by decide +kernel
theorem dX2_countLikeChecks_39 : decode cX2_countLikeChecks 39 = .ok (.getfield 42, 3) := by decide +kernel
theorem dX2_countLikeChecks_42 : decode cX2_countLikeChecks 42 = .ok (.aload_n 3, 1) := by decide +kernel
theorem dX2_countLikeChecks_43 : decode cX2_countLikeChecks 43 = .ok (.aload_n 0, 1) := by decide +kernel
theorem dX2_countLikeChecks_44 : decode cX2_countLikeChecks 44 = .ok (.getfield 15, 3) := by decide +kernel
theorem dX2_countLikeChecks_47 : decode cX2_countLikeChecks 47 = .ok (.iload_n 2, 1) := by decide +kernel
theorem dX2_countLikeChecks_48 : decode cX2_countLikeChecks 48 = .ok (.iaload, 1) := by decide +kernel
theorem dX2_countLikeChecks_49 : decode cX2_countLikeChecks 49 = .ok (.aload_n 0, 1) := by decide +kernel
theorem dX2_countLikeChecks_50 : decode cX2_countLikeChecks 50 = .ok (.getfield 18, 3) := by decide +kernel
theorem dX2_countLikeChecks_53 : decode cX2_countLikeChecks 53 = .ok (.iload_n 2, 1) := by decide +kernel
theorem dX2_countLikeChecks_54 : decode cX2_countLikeChecks 54 = .ok (.iaload, 1) := by decide +kernel
theorem dX2_countLikeChecks_55 : decode cX2_countLikeChecks 55 = .ok (.invokevirtual 45, 3) := by decide +kernel
theorem dX2_countLikeChecks_58 : decode cX2_countLikeChecks 58 = .ok (.ifCond .eq 7, 3) := by decide +kernel
theorem dX2_countLikeChecks_61 : decode cX2_countLikeChecks 61 = .ok (.iconst 1, 1) := by decide +kernel
theorem dX2_countLikeChecks_62 : decode cX2_countLikeChecks 62 = .ok (.goto 4, 3) := by decide +kernel
theorem dX2_countLikeChecks_65 : decode cX2_countLikeChecks 65 = .ok (.iconst 0, 1) := by decide +kernel
theorem dX2_countLikeChecks_66 : decode cX2_countLikeChecks 66 = .ok (.iadd, 1) := by decide +kernel
theorem dX2_countLikeChecks_67 : decode cX2_countLikeChecks 67 = .ok (.putfield 42, 3) := by decide +kernel
theorem dX2_countLikeChecks_70 : decode cX2_countLikeChecks 70 = .ok (.iinc 2 1, 3) := by decide +kernel
theorem dX2_countLikeChecks_73 : decode cX2_countLikeChecks 73 = .ok (.goto (-71), 3) := by decide +kernel
theorem dX2_countLikeChecks_76 : decode cX2_countLikeChecks 76 = .ok (.return_, 1) := by decide +kernel
theorem dX3_init_0 : decode cX3_init 0 = .ok (.aload_n 0, 1) := by decide +kernel
theorem dX3_init_1 : decode cX3_init 1 = .ok (.invokespecial 1, 3) := by decide +kernel
theorem dX3_init_4 : decode cX3_init 4 = .ok (.aload_n 0, 1) := by decide +kernel
theorem dX3_init_5 : decode cX3_init 5 = .ok (.iload_n 3, 1) := by decide +kernel
theorem dX3_init_6 : decode cX3_init 6 = .ok (.putfield 7, 3) := by decide +kernel
theorem dX3_init_9 : decode cX3_init 9 = .ok (.aload_n 0, 1) := by decide +kernel
theorem dX3_init_10 : decode cX3_init 10 = .ok (.iload_n 3, 1) := by decide +kernel
theorem dX3_init_11 : decode cX3_init 11 = .ok (.newarray .int, 2) := by decide +kernel
theorem dX3_init_13 : decode cX3_init 13 = .ok (.putfield 13, 3) := by decide +kernel
theorem dX3_init_16 : decode cX3_init 16 = .ok (.aload_n 0, 1) := by decide +kernel
theorem dX3_init_17 : decode cX3_init 17 = .ok (.iload_n 3, 1) := by decide +kernel
theorem dX3_init_18 : decode cX3_init 18 = .ok (.newarray .int, 2) := by decide +kernel
theorem dX3_init_20 : decode cX3_init 20 = .ok (.putfield 17, 3) := by decide +kernel
theorem dX3_init_23 : decode cX3_init 23 = .ok (.aload_n 1, 1) := by decide +kernel
theorem dX3_init_24 : decode cX3_init 24 = .ok (.iconst 0, 1) := by decide +kernel
theorem dX3_init_25 : decode cX3_init 25 = .ok (.aload_n 0, 1) := by decide +kernel
theorem dX3_init_26 : decode cX3_init 26 = .ok (.getfield 13, 3) := by decide +kernel
theorem dX3_init_29 : decode cX3_init 29 = .ok (.iconst 0, 1) := by decide +kernel
theorem dX3_init_30 : decode cX3_init 30 = .ok (.iload_n 3, 1) := by decide +kernel
theorem dX3_init_31 : decode cX3_init 31 = .ok (.invokestatic 20, 3) := by decide +kernel
theorem dX3_init_34 : decode cX3_init 34 = .ok (.aload_n 2, 1) := by decide +kernel
theorem dX3_init_35 : decode cX3_init 35 = .ok (.iconst 0, 1) := by decide +kernel
theorem dX3_init_36 : decode cX3_init 36 = .ok (.aload_n 0, 1) := by decide +kernel
theorem dX3_init_37 : decode cX3_init 37 = .ok (.getfield 17, 3) := by decide +kernel
theorem dX3_init_40 : decode cX3_init 40 = .ok (.iconst 0, 1) := by decide +kernel
theorem dX3_init_41 : decode cX3_init 41 = .ok (.iload_n 3, 1) := by decide +kernel
theorem dX3_init_42 : decode cX3_init 42 = .ok (.invokestatic 20, 3) := by decide +kernel
theorem dX3_init_45 : decode cX3_init 45 = .ok (.return_, 1) := by decide +kernel
theorem dX4_init_0 : decode cX4_init 0 = .ok (.aload_n 0, 1) := by decide +kernel
theorem dX4_init_1 : decode cX4_init 1 = .ok (.invokespecial 3, 3) := by decide +kernel
theorem dX4_init_4 : decode cX4_init 4 = .ok (.aload_n 0, 1) := by decide +kernel
theorem dX4_init_5 : decode cX4_init 5 = .ok (.bipush 24, 2) := by decide +kernel
theorem dX4_init_7 : decode cX4_init 7 = .ok (.newarray .int, 2) := by decide +kernel
theorem dX4_init_9 : decode cX4_init 9 = .ok (.putfield 9, 3) := by decide +kernel
theorem dX4_init_12 : decode cX4_init 12 = .ok (.aload_n 0, 1) := by decide +kernel
theorem dX4_init_13 : decode cX4_init 13 = .ok (.bipush 24, 2) := by decide +kernel
theorem dX4_init_15 : decode cX4_init 15 = .ok (.newarray .int, 2) := by decide +kernel
theorem dX4_init_17 : decode cX4_init 17 = .ok (.putfield 15, 3) := by decide +kernel
theorem dX4_init_20 : decode cX4_init 20 = .ok (.return_, 1) := by decide +kernel
set_option maxRecDepth 20000 in
theorem ggX4_read_X4_readStep : GoodIn wsX4_read wsX4_readStep := goodIn_r _ [7, 1, 8, 2, 9, 10, 11, 12, 13, 14, 15, 16, 17, 18, 6, 19, 20, 21, 22, 23, 24, 25, 26, 31, 32, 33, 34, 35, 36] (by decide +kernel) (by decide +kernel)
set_option maxRecDepth 20000 in
theorem gX4_read_X4_readStep : GoodIn wsX4_read (wsV RX4 25 RX4 yX4_readStep wsX4_readStep) := goodIn_app (goodIn_of _ (by decide +kernel)) ggX4_read_X4_readStep
set_option maxRecDepth 20000 in
theorem ggX4_read_X6_at : GoodIn wsX4_read wsX6_at := goodIn_r _ [13, 14, 15, 35, 36] (by decide +kernel) (by decide +kernel)
set_option maxRecDepth 20000 in
theorem gX4_read_X6_at_n29 : GoodIn wsX4_read (wsX6_at) := ggX4_read_X6_at
set_option maxRecDepth 20000 in
theorem ggX4_read_X4_lostStep : GoodIn wsX4_read wsX4_lostStep := goodIn_r _ [30, 2, 8, 9, 31, 32, 33, 34] (by decide +kernel) (by decide +kernel)
set_option maxRecDepth 20000 in
theorem gX4_read_X4_lostStep : GoodIn wsX4_read (wsV RX4 36 RX4 yX4_lostStep wsX4_lostStep) := goodIn_app (goodIn_of _ (by decide +kernel)) ggX4_read_X4_lostStep
theorem dX4_read_0 : decode cX4_read 0 = .ok (.aload_n 0, 1) := by decide +kernel
theorem dX4_read_1 : decode cX4_read 1 = .ok (.iconst 0, 1) := by decide +kernel
theorem dX4_read_2 : decode cX4_read 2 = .ok (.putfield 18, 3) := by decide +kernel
theorem dX4_read_5 : decode cX4_read 5 = .ok (.aload_n 0, 1) := by decide +kernel
theorem dX4_read_6 : decode cX4_read 6 = .ok (.iconst 0, 1) := by decide +kernel
theorem dX4_read_7 : decode cX4_read 7 = .ok (.putfield 22, 3) := by decide +kernel
theorem dX4_read_10 : decode cX4_read 10 = .ok (.iconst 1, 1) := by decide +kernel
theorem dX4_read_11 : decode cX4_read 11 = .ok (.istore_n 2, 1) := by decide +kernel
theorem dX4_read_12 : decode cX4_read 12 = .ok (.iload_n 2, 1) := by decide +kernel
theorem dX4_read_13 : decode cX4_read 13 = .ok (.ifCond .eq 80, 3) := by decide +kernel
theorem dX4_read_16 : decode cX4_read 16 = .ok (.aload_n 0, 1) := by decide +kernel
theorem dX4_read_17 : decode cX4_read 17 = .ok (.getfield 22, 3) := by decide +kernel
theorem dX4_read_20 : decode cX4_read 20 = .ok (.bipush 24, 2) := by decide +kernel
theorem dX4_read_22 : decode cX4_read 22 = .ok (.if_icmp .ge 71, 3) := by decide +kernel
theorem dX4_read_25 : decode cX4_read 25 = .ok (.aload_n 0, 1) := by decide +kernel
theorem dX4_read_26 : decode cX4_read 26 = .ok (.aload_n 1, 1) := by decide +kernel
theorem dX4_read_27 : decode cX4_read 27 = .ok (.invokevirtual 25, 3) := by decide +kernel
theorem dX4_read_30 : decode cX4_read 30 = .ok (.ifCond .ne 8, 3) := by decide +kernel
theorem dX4_read_33 : decode cX4_read 33 = .ok (.aload_n 0, 1) := by decide +kernel
theorem dX4_read_34 : decode cX4_read 34 = .ok (.getfield 18, 3) := by decide +kernel
theorem dX4_read_37 : decode cX4_read 37 = .ok (.ireturn, 1) := by decide +kernel
theorem dX4_read_38 : decode cX4_read 38 = .ok (.aload_n 0, 1) := by decide +kernel
theorem dX4_read_39 : decode cX4_read 39 = .ok (.dup, 1) := by decide +kernel
theorem dX4_read_40 : decode cX4_read 40 = .ok (.getfield 22, 3) := by decide +kernel
theorem dX4_read_43 : decode cX4_read 43 = .ok (.iconst 1, 1) := by decide +kernel
theorem dX4_read_44 : decode cX4_read 44 = .ok (.iadd, 1) := by decide +kernel
theorem dX4_read_45 : decode cX4_read 45 = .ok (.putfield 22, 3) := by decide +kernel
theorem dX4_read_48 : decode cX4_read 48 = .ok (.aload_n 1, 1) := by decide +kernel
theorem dX4_read_49 : decode cX4_read 49 = .ok (.aload_n 0, 1) := by decide +kernel
theorem dX4_read_50 : decode cX4_read 50 = .ok (.getfield 18, 3) := by decide +kernel
theorem dX4_read_53 : decode cX4_read 53 = .ok (.invokevirtual 29, 3) := by decide +kernel
theorem dX4_read_56 : decode cX4_read 56 = .ok (.bipush 59, 2) := by decide +kernel
theorem dX4_read_58 : decode cX4_read 58 = .ok (.if_icmp .ne 16, 3) := by decide +kernel
theorem dX4_read_61 : decode cX4_read 61 = .ok (.aload_n 0, 1) := by decide +kernel
theorem dX4_read_62 : decode cX4_read 62 = .ok (.getfield 22, 3) := by decide +kernel
theorem dX4_read_65 : decode cX4_read 65 = .ok (.bipush 24, 2) := by decide +kernel
theorem dX4_read_67 : decode cX4_read 67 = .ok (.if_icmp .ge 7, 3) := by decide +kernel
theorem dX4_read_70 : decode cX4_read 70 = .ok (.iconst 1, 1) := by decide +kernel
theorem dX4_read_71 : decode cX4_read 71 = .ok (.goto 4, 3) := by decide +kernel
theorem dX4_read_74 : decode cX4_read 74 = .ok (.iconst 0, 1) := by decide +kernel
theorem dX4_read_75 : decode cX4_read 75 = .ok (.istore_n 2, 1) := by decide +kernel
theorem dX4_read_76 : decode cX4_read 76 = .ok (.iload_n 2, 1) := by decide +kernel
theorem dX4_read_77 : decode cX4_read 77 = .ok (.ifCond .eq (-65), 3) := by decide +kernel
theorem dX4_read_80 : decode cX4_read 80 = .ok (.aload_n 0, 1) := by decide +kernel
theorem dX4_read_81 : decode cX4_read 81 = .ok (.dup, 1) := by decide +kernel
theorem dX4_read_82 : decode cX4_read 82 = .ok (.getfield 18, 3) := by decide +kernel
theorem dX4_read_85 : decode cX4_read 85 = .ok (.iconst 1, 1) := by decide +kernel
theorem dX4_read_86 : decode cX4_read 86 = .ok (.iadd, 1) := by decide +kernel
theorem dX4_read_87 : decode cX4_read 87 = .ok (.putfield 18, 3) := by decide +kernel
theorem dX4_read_90 : decode cX4_read 90 = .ok (.goto (-78), 3) := by decide +kernel
theorem dX4_read_93 : decode cX4_read 93 = .ok (.aload_n 0, 1) := by decide +kernel
theorem dX4_read_94 : decode cX4_read 94 = .ok (.getfield 18, 3) := by decide +kernel
theorem dX4_read_97 : decode cX4_read 97 = .ok (.aload_n 1, 1) := by decide +kernel
theorem dX4_read_98 : decode cX4_read 98 = .ok (.getfield 35, 3) := by decide +kernel
theorem dX4_read_101 : decode cX4_read 101 = .ok (.if_icmp .ge 10, 3) := by decide +kernel
theorem dX4_read_104 : decode cX4_read 104 = .ok (.aload_n 0, 1) := by decide +kernel
theorem dX4_read_105 : decode cX4_read 105 = .ok (.getfield 18, 3) := by decide +kernel
theorem dX4_read_108 : decode cX4_read 108 = .ok (.goto 7, 3) := by decide +kernel
theorem dX4_read_111 : decode cX4_read 111 = .ok (.aload_n 0, 1) := by decide +kernel
theorem dX4_read_112 : decode cX4_read 112 = .ok (.invokevirtual 36, 3) := by decide +kernel
theorem dX4_read_115 : decode cX4_read 115 = .ok (.ireturn, 1) := by decide +kernel
set_option maxRecDepth 20000 in
theorem ggX4_readStep_X6_at : GoodIn wsX4_readStep wsX6_at := goodIn_r _ [8, 9, 10, 27, 28] (by decide +kernel) (by decide +kernel)
set_option maxRecDepth 20000 in
theorem gX4_readStep_X6_at_n29 : GoodIn wsX4_readStep (wsX6_at) := ggX4_readStep_X6_at
set_option maxRecDepth 20000 in
theorem ggX4_readStep_X4_readNumber : GoodIn wsX4_readStep wsX4_readNumber := goodIn_r _ [15, 1, 4, 3, 5, 6, 7, 8, 9, 10, 16, 17, 14, 18, 23, 24, 25, 26, 27, 28] (by decide +kernel) (by decide +kernel)
set_option maxRecDepth 20000 in
theorem gX4_readStep_X4_readNumber : GoodIn wsX4_readStep (wsV RX4 40 RX4 yX4_readNumber wsX4_readNumber) := goodIn_app (goodIn_of _ (by decide +kernel)) ggX4_readStep_X4_readNumber
set_option maxRecDepth 20000 in
theorem ggX4_readStep_X4_readCell : GoodIn wsX4_readStep wsX4_readCell := goodIn_r _ [22, 1, 4, 3, 5, 6, 7, 8, 9, 10, 23, 24, 25, 26, 27, 28] (by decide +kernel) (by decide +kernel)
set_option maxRecDepth 20000 in
theorem gX4_readStep_X4_readCell : GoodIn wsX4_readStep (wsV RX4 44 RX4 yX4_readCell wsX4_readCell) := goodIn_app (goodIn_of _ (by decide +kernel)) ggX4_readStep_X4_readCell
theorem dX4_readStep_0 : decode cX4_readStep 0 = .ok (.aload_n 1, 1) := by decide +kernel
theorem dX4_readStep_1 : decode cX4_readStep 1 = .ok (.aload_n 0, 1) := by decide +kernel
theorem dX4_readStep_2 : decode cX4_readStep 2 = .ok (.getfield 18, 3) := by decide +kernel
theorem dX4_readStep_5 : decode cX4_readStep 5 = .ok (.invokevirtual 29, 3) := by decide +kernel
theorem dX4_readStep_8 : decode cX4_readStep 8 = .ok (.istore_n 2, 1) := by decide +kernel
theorem dX4_readStep_9 : decode cX4_readStep 9 = .ok (.aload_n 0, 1) := by decide +kernel
theorem dX4_readStep_10 : decode cX4_readStep 10 = .ok (.getfield 9, 3) := by decide +kernel
theorem dX4_readStep_13 : decode cX4_readStep 13 = .ok (.aload_n 0, 1) := by decide +kernel
theorem dX4_readStep_14 : decode cX4_readStep 14 = .ok (.getfield 22, 3) := by decide +kernel
theorem dX4_readStep_17 : decode cX4_readStep 17 = .ok (.iload_n 2, 1) := by decide +kernel
theorem dX4_readStep_18 : decode cX4_readStep 18 = .ok (.iastore, 1) := by decide +kernel
theorem dX4_readStep_19 : decode cX4_readStep 19 = .ok (.aload_n 0, 1) := by decide +kernel
theorem dX4_readStep_20 : decode cX4_readStep 20 = .ok (.getfield 15, 3) := by decide +kernel
theorem dX4_readStep_23 : decode cX4_readStep 23 = .ok (.aload_n 0, 1) := by decide +kernel
theorem dX4_readStep_24 : decode cX4_readStep 24 = .ok (.getfield 22, 3) := by decide +kernel
theorem dX4_readStep_27 : decode cX4_readStep 27 = .ok (.iconst 0, 1) := by decide +kernel
theorem dX4_readStep_28 : decode cX4_readStep 28 = .ok (.iastore, 1) := by decide +kernel
theorem dX4_readStep_29 : decode cX4_readStep 29 = .ok (.iload_n 2, 1) := by decide +kernel
theorem dX4_readStep_30 : decode cX4_readStep 30 = .ok (.lookupswitch 184 #[(42, 122), (43, 122), (45, 122), (60, 122), (61, 122), (97, 122), (98, 122), (103, 151), (104, 122), (106, 151), (108, 168), (111, 122), (112, 134), (115, 168)], 122) := by decide +kernel
theorem dX4_readStep_152 : decode cX4_readStep 152 = .ok (.aload_n 0, 1) := by decide +kernel
theorem dX4_readStep_153 : decode cX4_readStep 153 = .ok (.dup, 1) := by decide +kernel
theorem dX4_readStep_154 : decode cX4_readStep 154 = .ok (.getfield 18, 3) := by decide +kernel
theorem dX4_readStep_157 : decode cX4_readStep 157 = .ok (.iconst 1, 1) := by decide +kernel
theorem dX4_readStep_158 : decode cX4_readStep 158 = .ok (.iadd, 1) := by decide +kernel
theorem dX4_readStep_159 : decode cX4_readStep 159 = .ok (.putfield 18, 3) := by decide +kernel
theorem dX4_readStep_162 : decode cX4_readStep 162 = .ok (.iconst 1, 1) := by decide +kernel
theorem dX4_readStep_163 : decode cX4_readStep 163 = .ok (.ireturn, 1) := by decide +kernel
theorem dX4_readStep_164 : decode cX4_readStep 164 = .ok (.aload_n 0, 1) := by decide +kernel
theorem dX4_readStep_165 : decode cX4_readStep 165 = .ok (.dup, 1) := by decide +kernel
theorem dX4_readStep_166 : decode cX4_readStep 166 = .ok (.getfield 18, 3) := by decide +kernel
theorem dX4_readStep_169 : decode cX4_readStep 169 = .ok (.iconst 1, 1) := by decide +kernel
theorem dX4_readStep_170 : decode cX4_readStep 170 = .ok (.iadd, 1) := by decide +kernel
theorem dX4_readStep_171 : decode cX4_readStep 171 = .ok (.putfield 18, 3) := by decide +kernel
theorem dX4_readStep_174 : decode cX4_readStep 174 = .ok (.aload_n 0, 1) := by decide +kernel
theorem dX4_readStep_175 : decode cX4_readStep 175 = .ok (.aload_n 1, 1) := by decide +kernel
theorem dX4_readStep_176 : decode cX4_readStep 176 = .ok (.iconst 4, 1) := by decide +kernel
theorem dX4_readStep_177 : decode cX4_readStep 177 = .ok (.invokevirtual 40, 3) := by decide +kernel
theorem dX4_readStep_180 : decode cX4_readStep 180 = .ok (.ireturn, 1) := by decide +kernel
theorem dX4_readStep_181 : decode cX4_readStep 181 = .ok (.aload_n 0, 1) := by decide +kernel
theorem dX4_readStep_182 : decode cX4_readStep 182 = .ok (.dup, 1) := by decide +kernel
theorem dX4_readStep_183 : decode cX4_readStep 183 = .ok (.getfield 18, 3) := by decide +kernel
theorem dX4_readStep_186 : decode cX4_readStep 186 = .ok (.iconst 1, 1) := by decide +kernel
theorem dX4_readStep_187 : decode cX4_readStep 187 = .ok (.iadd, 1) := by decide +kernel
theorem dX4_readStep_188 : decode cX4_readStep 188 = .ok (.putfield 18, 3) := by decide +kernel
theorem dX4_readStep_191 : decode cX4_readStep 191 = .ok (.aload_n 0, 1) := by decide +kernel
theorem dX4_readStep_192 : decode cX4_readStep 192 = .ok (.aload_n 1, 1) := by decide +kernel
theorem dX4_readStep_193 : decode cX4_readStep 193 = .ok (.iconst 2, 1) := by decide +kernel
theorem dX4_readStep_194 : decode cX4_readStep 194 = .ok (.invokevirtual 40, 3) := by decide +kernel
theorem dX4_readStep_197 : decode cX4_readStep 197 = .ok (.ireturn, 1) := by decide +kernel
theorem dX4_readStep_198 : decode cX4_readStep 198 = .ok (.aload_n 0, 1) := by decide +kernel
theorem dX4_readStep_199 : decode cX4_readStep 199 = .ok (.dup, 1) := by decide +kernel
theorem dX4_readStep_200 : decode cX4_readStep 200 = .ok (.getfield 18, 3) := by decide +kernel
theorem dX4_readStep_203 : decode cX4_readStep 203 = .ok (.iconst 1, 1) := by decide +kernel
theorem dX4_readStep_204 : decode cX4_readStep 204 = .ok (.iadd, 1) := by decide +kernel
theorem dX4_readStep_205 : decode cX4_readStep 205 = .ok (.putfield 18, 3) := by decide +kernel
theorem dX4_readStep_208 : decode cX4_readStep 208 = .ok (.aload_n 0, 1) := by decide +kernel
theorem dX4_readStep_209 : decode cX4_readStep 209 = .ok (.aload_n 1, 1) := by decide +kernel
theorem dX4_readStep_210 : decode cX4_readStep 210 = .ok (.invokevirtual 44, 3) := by decide +kernel
theorem dX4_readStep_213 : decode cX4_readStep 213 = .ok (.ireturn, 1) := by decide +kernel
theorem dX4_readStep_214 : decode cX4_readStep 214 = .ok (.iconst 0, 1) := by decide +kernel
theorem dX4_readStep_215 : decode cX4_readStep 215 = .ok (.ireturn, 1) := by decide +kernel
set_option maxRecDepth 20000 in
theorem ggX4_readNumber_X6_at : GoodIn wsX4_readNumber wsX6_at := goodIn_r _ [7, 8, 9, 18, 19] (by decide +kernel) (by decide +kernel)
set_option maxRecDepth 20000 in
theorem gX4_readNumber_X6_at_n29 : GoodIn wsX4_readNumber (wsX6_at) := ggX4_readNumber_X6_at
set_option maxRecDepth 20000 in
theorem ggX4_readNumber_X4_isDigit : GoodIn wsX4_readNumber wsX4_isDigit := goodIn_r _ [13] (by decide +kernel) (by decide +kernel)
set_option maxRecDepth 20000 in
theorem gX4_readNumber_X4_isDigit : GoodIn wsX4_readNumber (va_wsS RX4 47 yX4_isDigit wsX4_isDigit) := goodIn_app (goodIn_of _ (by decide +kernel)) ggX4_readNumber_X4_isDigit
theorem dX4_readNumber_0 : decode cX4_readNumber 0 = .ok (.iconst 0, 1) := by decide +kernel
theorem dX4_readNumber_1 : decode cX4_readNumber 1 = .ok (.istore_n 3, 1) := by decide +kernel
theorem dX4_readNumber_2 : decode cX4_readNumber 2 = .ok (.iconst 0, 1) := by decide +kernel
theorem dX4_readNumber_3 : decode cX4_readNumber 3 = .ok (.istore 4, 2) := by decide +kernel
theorem dX4_readNumber_5 : decode cX4_readNumber 5 = .ok (.iload 4, 2) := by decide +kernel
theorem dX4_readNumber_7 : decode cX4_readNumber 7 = .ok (.iload_n 2, 1) := by decide +kernel
theorem dX4_readNumber_8 : decode cX4_readNumber 8 = .ok (.if_icmp .ge 59, 3) := by decide +kernel
theorem dX4_readNumber_11 : decode cX4_readNumber 11 = .ok (.aload_n 1, 1) := by decide +kernel
theorem dX4_readNumber_12 : decode cX4_readNumber 12 = .ok (.aload_n 0, 1) := by decide +kernel
theorem dX4_readNumber_13 : decode cX4_readNumber 13 = .ok (.getfield 18, 3) := by decide +kernel
theorem dX4_readNumber_16 : decode cX4_readNumber 16 = .ok (.invokevirtual 29, 3) := by decide +kernel
theorem dX4_readNumber_19 : decode cX4_readNumber 19 = .ok (.invokestatic 47, 3) := by decide +kernel
theorem dX4_readNumber_22 : decode cX4_readNumber 22 = .ok (.ifCond .eq 45, 3) := by decide +kernel
theorem dX4_readNumber_25 : decode cX4_readNumber 25 = .ok (.iload 4, 2) := by decide +kernel
theorem dX4_readNumber_27 : decode cX4_readNumber 27 = .ok (.ifCond .eq 7, 3) := by decide +kernel
theorem dX4_readNumber_30 : decode cX4_readNumber 30 = .ok (.iload_n 3, 1) := by decide +kernel
theorem dX4_readNumber_31 : decode cX4_readNumber 31 = .ok (.ifCond .le 36, 3) := by decide +kernel
theorem dX4_readNumber_34 : decode cX4_readNumber 34 = .ok (.iload_n 3, 1) := by decide +kernel
theorem dX4_readNumber_35 : decode cX4_readNumber 35 = .ok (.bipush 10, 2) := by decide +kernel
theorem dX4_readNumber_37 : decode cX4_readNumber 37 = .ok (.imul, 1) := by decide +kernel
theorem dX4_readNumber_38 : decode cX4_readNumber 38 = .ok (.aload_n 1, 1) := by decide +kernel
theorem dX4_readNumber_39 : decode cX4_readNumber 39 = .ok (.aload_n 0, 1) := by decide +kernel
theorem dX4_readNumber_40 : decode cX4_readNumber 40 = .ok (.getfield 18, 3) := by decide +kernel
theorem dX4_readNumber_43 : decode cX4_readNumber 43 = .ok (.invokevirtual 29, 3) := by decide +kernel
theorem dX4_readNumber_46 : decode cX4_readNumber 46 = .ok (.iadd, 1) := by decide +kernel
theorem dX4_readNumber_47 : decode cX4_readNumber 47 = .ok (.bipush 48, 2) := by decide +kernel
theorem dX4_readNumber_49 : decode cX4_readNumber 49 = .ok (.isub, 1) := by decide +kernel
theorem dX4_readNumber_50 : decode cX4_readNumber 50 = .ok (.istore_n 3, 1) := by decide +kernel
theorem dX4_readNumber_51 : decode cX4_readNumber 51 = .ok (.iinc 4 1, 3) := by decide +kernel
theorem dX4_readNumber_54 : decode cX4_readNumber 54 = .ok (.aload_n 0, 1) := by decide +kernel
theorem dX4_readNumber_55 : decode cX4_readNumber 55 = .ok (.dup, 1) := by decide +kernel
theorem dX4_readNumber_56 : decode cX4_readNumber 56 = .ok (.getfield 18, 3) := by decide +kernel
theorem dX4_readNumber_59 : decode cX4_readNumber 59 = .ok (.iconst 1, 1) := by decide +kernel
theorem dX4_readNumber_60 : decode cX4_readNumber 60 = .ok (.iadd, 1) := by decide +kernel
theorem dX4_readNumber_61 : decode cX4_readNumber 61 = .ok (.putfield 18, 3) := by decide +kernel
theorem dX4_readNumber_64 : decode cX4_readNumber 64 = .ok (.goto (-59), 3) := by decide +kernel
theorem dX4_readNumber_67 : decode cX4_readNumber 67 = .ok (.aload_n 0, 1) := by decide +kernel
theorem dX4_readNumber_68 : decode cX4_readNumber 68 = .ok (.getfield 15, 3) := by decide +kernel
theorem dX4_readNumber_71 : decode cX4_readNumber 71 = .ok (.aload_n 0, 1) := by decide +kernel
theorem dX4_readNumber_72 : decode cX4_readNumber 72 = .ok (.getfield 22, 3) := by decide +kernel
theorem dX4_readNumber_75 : decode cX4_readNumber 75 = .ok (.iload_n 3, 1) := by decide +kernel
theorem dX4_readNumber_76 : decode cX4_readNumber 76 = .ok (.iastore, 1) := by decide +kernel
theorem dX4_readNumber_77 : decode cX4_readNumber 77 = .ok (.iload 4, 2) := by decide +kernel
theorem dX4_readNumber_79 : decode cX4_readNumber 79 = .ok (.ifCond .le 7, 3) := by decide +kernel
theorem dX4_readNumber_82 : decode cX4_readNumber 82 = .ok (.iconst 1, 1) := by decide +kernel
theorem dX4_readNumber_83 : decode cX4_readNumber 83 = .ok (.goto 4, 3) := by decide +kernel
theorem dX4_readNumber_86 : decode cX4_readNumber 86 = .ok (.iconst 0, 1) := by decide +kernel
theorem dX4_readNumber_87 : decode cX4_readNumber 87 = .ok (.ireturn, 1) := by decide +kernel
set_option maxRecDepth 20000 in
theorem ggX4_readCell_X6_at : GoodIn wsX4_readCell wsX6_at := goodIn_r _ [7, 8, 9, 14, 15] (by decide +kernel) (by decide +kernel)
set_option maxRecDepth 20000 in
theorem gX4_readCell_X6_at_n29 : GoodIn wsX4_readCell (wsX6_at) := ggX4_readCell_X6_at
theorem dX4_readCell_0 : decode cX4_readCell 0 = .ok (.aload_n 1, 1) := by decide +kernel
theorem dX4_readCell_1 : decode cX4_readCell 1 = .ok (.aload_n 0, 1) := by decide +kernel
theorem dX4_readCell_2 : decode cX4_readCell 2 = .ok (.getfield 18, 3) := by decide +kernel
theorem dX4_readCell_5 : decode cX4_readCell 5 = .ok (.invokevirtual 29, 3) := by decide +kernel
theorem dX4_readCell_8 : decode cX4_readCell 8 = .ok (.bipush 48, 2) := by decide +kernel
theorem dX4_readCell_10 : decode cX4_readCell 10 = .ok (.isub, 1) := by decide +kernel
theorem dX4_readCell_11 : decode cX4_readCell 11 = .ok (.istore_n 2, 1) := by decide +kernel
theorem dX4_readCell_12 : decode cX4_readCell 12 = .ok (.iload_n 2, 1) := by decide +kernel
theorem dX4_readCell_13 : decode cX4_readCell 13 = .ok (.ifCond .lt 9, 3) := by decide +kernel
theorem dX4_readCell_16 : decode cX4_readCell 16 = .ok (.iload_n 2, 1) := by decide +kernel
theorem dX4_readCell_17 : decode cX4_readCell 17 = .ok (.bipush 8, 2) := by decide +kernel
theorem dX4_readCell_19 : decode cX4_readCell 19 = .ok (.if_icmp .lt 5, 3) := by decide +kernel
theorem dX4_readCell_22 : decode cX4_readCell 22 = .ok (.iconst 0, 1) := by decide +kernel
theorem dX4_readCell_23 : decode cX4_readCell 23 = .ok (.ireturn, 1) := by decide +kernel
theorem dX4_readCell_24 : decode cX4_readCell 24 = .ok (.aload_n 0, 1) := by decide +kernel
theorem dX4_readCell_25 : decode cX4_readCell 25 = .ok (.getfield 15, 3) := by decide +kernel
theorem dX4_readCell_28 : decode cX4_readCell 28 = .ok (.aload_n 0, 1) := by decide +kernel
theorem dX4_readCell_29 : decode cX4_readCell 29 = .ok (.getfield 22, 3) := by decide +kernel
theorem dX4_readCell_32 : decode cX4_readCell 32 = .ok (.iload_n 2, 1) := by decide +kernel
theorem dX4_readCell_33 : decode cX4_readCell 33 = .ok (.iastore, 1) := by decide +kernel
theorem dX4_readCell_34 : decode cX4_readCell 34 = .ok (.aload_n 0, 1) := by decide +kernel
theorem dX4_readCell_35 : decode cX4_readCell 35 = .ok (.dup, 1) := by decide +kernel
theorem dX4_readCell_36 : decode cX4_readCell 36 = .ok (.getfield 18, 3) := by decide +kernel
theorem dX4_readCell_39 : decode cX4_readCell 39 = .ok (.iconst 1, 1) := by decide +kernel
theorem dX4_readCell_40 : decode cX4_readCell 40 = .ok (.iadd, 1) := by decide +kernel
theorem dX4_readCell_41 : decode cX4_readCell 41 = .ok (.putfield 18, 3) := by decide +kernel
theorem dX4_readCell_44 : decode cX4_readCell 44 = .ok (.iconst 1, 1) := by decide +kernel
theorem dX4_readCell_45 : decode cX4_readCell 45 = .ok (.ireturn, 1) := by decide +kernel
theorem dX4_isDigit_0 : decode cX4_isDigit 0 = .ok (.iload_n 0, 1) := by decide +kernel
theorem dX4_isDigit_1 : decode cX4_isDigit 1 = .ok (.bipush 48, 2) := by decide +kernel
theorem dX4_isDigit_3 : decode cX4_isDigit 3 = .ok (.if_icmp .lt 13, 3) := by decide +kernel
theorem dX4_isDigit_6 : decode cX4_isDigit 6 = .ok (.iload_n 0, 1) := by decide +kernel
theorem dX4_isDigit_7 : decode cX4_isDigit 7 = .ok (.bipush 57, 2) := by decide +kernel
theorem dX4_isDigit_9 : decode cX4_isDigit 9 = .ok (.if_icmp .gt 7, 3) := by decide +kernel
theorem dX4_isDigit_12 : decode cX4_isDigit 12 = .ok (.iconst 1, 1) := by decide +kernel
theorem dX4_isDigit_13 : decode cX4_isDigit 13 = .ok (.goto 4, 3) := by decide +kernel
theorem dX4_isDigit_16 : decode cX4_isDigit 16 = .ok (.iconst 0, 1) := by decide +kernel
theorem dX4_isDigit_17 : decode cX4_isDigit 17 = .ok (.ireturn, 1) := by decide +kernel
theorem dX4_lostStep_0 : decode cX4_lostStep 0 = .ok (.iconst 0, 1) := by decide +kernel
theorem dX4_lostStep_1 : decode cX4_lostStep 1 = .ok (.istore_n 1, 1) := by decide +kernel
theorem dX4_lostStep_2 : decode cX4_lostStep 2 = .ok (.iload_n 1, 1) := by decide +kernel
theorem dX4_lostStep_3 : decode cX4_lostStep 3 = .ok (.aload_n 0, 1) := by decide +kernel
theorem dX4_lostStep_4 : decode cX4_lostStep 4 = .ok (.getfield 22, 3) := by decide +kernel
theorem dX4_lostStep_7 : decode cX4_lostStep 7 = .ok (.if_icmp .ge 60, 3) := by decide +kernel
theorem dX4_lostStep_10 : decode cX4_lostStep 10 = .ok (.aload_n 0, 1) := by decide +kernel
theorem dX4_lostStep_11 : decode cX4_lostStep 11 = .ok (.getfield 9, 3) := by decide +kernel
theorem dX4_lostStep_14 : decode cX4_lostStep 14 = .ok (.iload_n 1, 1) := by decide +kernel
theorem dX4_lostStep_15 : decode cX4_lostStep 15 = .ok (.iaload, 1) := by decide +kernel
theorem dX4_lostStep_16 : decode cX4_lostStep 16 = .ok (.bipush 106, 2) := by decide +kernel
theorem dX4_lostStep_18 : decode cX4_lostStep 18 = .ok (.if_icmp .eq 14, 3) := by decide +kernel
theorem dX4_lostStep_21 : decode cX4_lostStep 21 = .ok (.aload_n 0, 1) := by decide +kernel
theorem dX4_lostStep_22 : decode cX4_lostStep 22 = .ok (.getfield 9, 3) := by decide +kernel
theorem dX4_lostStep_25 : decode cX4_lostStep 25 = .ok (.iload_n 1, 1) := by decide +kernel
theorem dX4_lostStep_26 : decode cX4_lostStep 26 = .ok (.iaload, 1) := by decide +kernel
theorem dX4_lostStep_27 : decode cX4_lostStep 27 = .ok (.bipush 103, 2) := by decide +kernel
theorem dX4_lostStep_29 : decode cX4_lostStep 29 = .ok (.if_icmp .ne 7, 3) := by decide +kernel
theorem dX4_lostStep_32 : decode cX4_lostStep 32 = .ok (.iconst 1, 1) := by decide +kernel
theorem dX4_lostStep_33 : decode cX4_lostStep 33 = .ok (.goto 4, 3) := by decide +kernel
theorem dX4_lostStep_36 : decode cX4_lostStep 36 = .ok (.iconst 0, 1) := by decide +kernel
theorem dX4_lostStep_37 : decode cX4_lostStep 37 = .ok (.istore_n 2, 1) := by decide +kernel
theorem dX4_lostStep_38 : decode cX4_lostStep 38 = .ok (.iload_n 2, 1) := by decide +kernel
theorem dX4_lostStep_39 : decode cX4_lostStep 39 = .ok (.ifCond .eq 22, 3) := by decide +kernel
theorem dX4_lostStep_42 : decode cX4_lostStep 42 = .ok (.aload_n 0, 1) := by decide +kernel
theorem dX4_lostStep_43 : decode cX4_lostStep 43 = .ok (.getfield 15, 3) := by decide +kernel
theorem dX4_lostStep_46 : decode cX4_lostStep 46 = .ok (.iload_n 1, 1) := by decide +kernel
theorem dX4_lostStep_47 : decode cX4_lostStep 47 = .ok (.iaload, 1) := by decide +kernel
theorem dX4_lostStep_48 : decode cX4_lostStep 48 = .ok (.aload_n 0, 1) := by decide +kernel
theorem dX4_lostStep_49 : decode cX4_lostStep 49 = .ok (.getfield 22, 3) := by decide +kernel
theorem dX4_lostStep_52 : decode cX4_lostStep 52 = .ok (.if_icmp .lt 9, 3) := by decide +kernel
theorem dX4_lostStep_55 : decode cX4_lostStep 55 = .ok (.sipush 200, 3) := by decide +kernel
theorem dX4_lostStep_58 : decode cX4_lostStep 58 = .ok (.iload_n 1, 1) := by decide +kernel
theorem dX4_lostStep_59 : decode cX4_lostStep 59 = .ok (.iadd, 1) := by decide +kernel
theorem dX4_lostStep_60 : decode cX4_lostStep 60 = .ok (.ireturn, 1) := by decide +kernel
theorem dX4_lostStep_61 : decode cX4_lostStep 61 = .ok (.iinc 1 1, 3) := by decide +kernel
theorem dX4_lostStep_64 : decode cX4_lostStep 64 = .ok (.goto (-62), 3) := by decide +kernel
theorem dX4_lostStep_67 : decode cX4_lostStep 67 = .ok (.iconst (-1), 1) := by decide +kernel
theorem dX4_lostStep_68 : decode cX4_lostStep 68 = .ok (.ireturn, 1) := by decide +kernel
set_option maxRecDepth 20000 in
theorem ggX4_program_X3_init : GoodIn wsX4_program wsX3_init := goodIn_r _ [8, 9, 10, 11, 12, 13, 14, 15, 16, 17, 18, 19, 20, 21, 22] (by decide +kernel) (by decide +kernel)
set_option maxRecDepth 20000 in
theorem gX4_program_X3_init_n53 : GoodIn wsX4_program (wsX3_init) := ggX4_program_X3_init
theorem dX4_program_0 : decode cX4_program 0 = .ok (.new 51, 3) := by decide +kernel
theorem dX4_program_3 : decode cX4_program 3 = .ok (.dup, 1) := by decide +kernel
theorem dX4_program_4 : decode cX4_program 4 = .ok (.aload_n 0, 1) := by decide +kernel
theorem dX4_program_5 : decode cX4_program 5 = .ok (.getfield 9, 3) := by decide +kernel
theorem dX4_program_8 : decode cX4_program 8 = .ok (.aload_n 0, 1) := by decide +kernel
theorem dX4_program_9 : decode cX4_program 9 = .ok (.getfield 15, 3) := by decide +kernel
theorem dX4_program_12 : decode cX4_program 12 = .ok (.aload_n 0, 1) := by decide +kernel
theorem dX4_program_13 : decode cX4_program 13 = .ok (.getfield 22, 3) := by decide +kernel
theorem dX4_program_16 : decode cX4_program 16 = .ok (.invokespecial 53, 3) := by decide +kernel
theorem dX4_program_19 : decode cX4_program 19 = .ok (.areturn, 1) := by decide +kernel
theorem dX5_init_0 : decode cX5_init 0 = .ok (.aload_n 0, 1) := by decide +kernel
theorem dX5_init_1 : decode cX5_init 1 = .ok (.invokespecial 3, 3) := by decide +kernel
theorem dX5_init_4 : decode cX5_init 4 = .ok (.aload_n 0, 1) := by decide +kernel
theorem dX5_init_5 : decode cX5_init 5 = .ok (.bipush 8, 2) := by decide +kernel
theorem dX5_init_7 : decode cX5_init 7 = .ok (.newarray .int, 2) := by decide +kernel
theorem dX5_init_9 : decode cX5_init 9 = .ok (.putfield 9, 3) := by decide +kernel
theorem dX5_init_12 : decode cX5_init 12 = .ok (.aload_n 0, 1) := by decide +kernel
theorem dX5_init_13 : decode cX5_init 13 = .ok (.bipush 101, 2) := by decide +kernel
theorem dX5_init_15 : decode cX5_init 15 = .ok (.newarray .int, 2) := by decide +kernel
theorem dX5_init_17 : decode cX5_init 17 = .ok (.putfield 15, 3) := by decide +kernel
theorem dX5_init_20 : decode cX5_init 20 = .ok (.aload_n 0, 1) := by decide +kernel
theorem dX5_init_21 : decode cX5_init 21 = .ok (.sipush 500, 3) := by decide +kernel
theorem dX5_init_24 : decode cX5_init 24 = .ok (.newarray .int, 2) := by decide +kernel
theorem dX5_init_26 : decode cX5_init 26 = .ok (.putfield 18, 3) := by decide +kernel
theorem dX5_init_29 : decode cX5_init 29 = .ok (.aload_n 0, 1) := by decide +kernel
theorem dX5_init_30 : decode cX5_init 30 = .ok (.iconst 3, 1) := by decide +kernel
theorem dX5_init_31 : decode cX5_init 31 = .ok (.newarray .int, 2) := by decide +kernel
theorem dX5_init_33 : decode cX5_init 33 = .ok (.putfield 21, 3) := by decide +kernel
theorem dX5_init_36 : decode cX5_init 36 = .ok (.aload_n 0, 1) := by decide +kernel
theorem dX5_init_37 : decode cX5_init 37 = .ok (.iconst 3, 1) := by decide +kernel
theorem dX5_init_38 : decode cX5_init 38 = .ok (.newarray .int, 2) := by decide +kernel
theorem dX5_init_40 : decode cX5_init 40 = .ok (.putfield 24, 3) := by decide +kernel
theorem dX5_init_43 : decode cX5_init 43 = .ok (.aload_n 0, 1) := by decide +kernel
theorem dX5_init_44 : decode cX5_init 44 = .ok (.iconst 3, 1) := by decide +kernel
theorem dX5_init_45 : decode cX5_init 45 = .ok (.newarray .int, 2) := by decide +kernel
theorem dX5_init_47 : decode cX5_init 47 = .ok (.putfield 27, 3) := by decide +kernel
theorem dX5_init_50 : decode cX5_init 50 = .ok (.aload_n 0, 1) := by decide +kernel
theorem dX5_init_51 : decode cX5_init 51 = .ok (.iconst 3, 1) := by decide +kernel
theorem dX5_init_52 : decode cX5_init 52 = .ok (.newarray .int, 2) := by decide +kernel
theorem dX5_init_54 : decode cX5_init 54 = .ok (.putfield 30, 3) := by decide +kernel
theorem dX5_init_57 : decode cX5_init 57 = .ok (.aload_n 0, 1) := by decide +kernel
theorem dX5_init_58 : decode cX5_init 58 = .ok (.iload_n 1, 1) := by decide +kernel
theorem dX5_init_59 : decode cX5_init 59 = .ok (.putfield 33, 3) := by decide +kernel
theorem dX5_init_62 : decode cX5_init 62 = .ok (.aload_n 0, 1) := by decide +kernel
theorem dX5_init_63 : decode cX5_init 63 = .ok (.iload_n 2, 1) := by decide +kernel
theorem dX5_init_64 : decode cX5_init 64 = .ok (.putfield 37, 3) := by decide +kernel
theorem dX5_init_67 : decode cX5_init 67 = .ok (.return_, 1) := by decide +kernel
theorem dX5_takePatch_0 : decode cX5_takePatch 0 = .ok (.aload_n 0, 1) := by decide +kernel
theorem dX5_takePatch_1 : decode cX5_takePatch 1 = .ok (.getfield 40, 3) := by decide +kernel
theorem dX5_takePatch_4 : decode cX5_takePatch 4 = .ok (.ifnull 16, 3) := by decide +kernel
theorem dX5_takePatch_7 : decode cX5_takePatch 7 = .ok (.aload_n 0, 1) := by decide +kernel
theorem dX5_takePatch_8 : decode cX5_takePatch 8 = .ok (.aload_n 0, 1) := by decide +kernel
theorem dX5_takePatch_9 : decode cX5_takePatch 9 = .ok (.getfield 40, 3) := by decide +kernel
theorem dX5_takePatch_12 : decode cX5_takePatch 12 = .ok (.putfield 44, 3) := by decide +kernel
theorem dX5_takePatch_15 : decode cX5_takePatch 15 = .ok (.aload_n 0, 1) := by decide +kernel
theorem dX5_takePatch_16 : decode cX5_takePatch 16 = .ok (.aconst_null, 1) := by decide +kernel
theorem dX5_takePatch_17 : decode cX5_takePatch 17 = .ok (.putfield 40, 3) := by decide +kernel
theorem dX5_takePatch_20 : decode cX5_takePatch 20 = .ok (.return_, 1) := by decide +kernel
theorem dX5_keepCheck_0 : decode cX5_keepCheck 0 = .ok (.aload_n 0, 1) := by decide +kernel
theorem dX5_keepCheck_1 : decode cX5_keepCheck 1 = .ok (.getfield 21, 3) := by decide +kernel
theorem dX5_keepCheck_4 : decode cX5_keepCheck 4 = .ok (.iload_n 1, 1) := by decide +kernel
theorem dX5_keepCheck_5 : decode cX5_keepCheck 5 = .ok (.iload_n 2, 1) := by decide +kernel
theorem dX5_keepCheck_6 : decode cX5_keepCheck 6 = .ok (.iastore, 1) := by decide +kernel
theorem dX5_keepCheck_7 : decode cX5_keepCheck 7 = .ok (.aload_n 0, 1) := by decide +kernel
theorem dX5_keepCheck_8 : decode cX5_keepCheck 8 = .ok (.getfield 24, 3) := by decide +kernel
theorem dX5_keepCheck_11 : decode cX5_keepCheck 11 = .ok (.iload_n 1, 1) := by decide +kernel
theorem dX5_keepCheck_12 : decode cX5_keepCheck 12 = .ok (.iload_n 3, 1) := by decide +kernel
theorem dX5_keepCheck_13 : decode cX5_keepCheck 13 = .ok (.iastore, 1) := by decide +kernel
theorem dX5_keepCheck_14 : decode cX5_keepCheck 14 = .ok (.aload_n 0, 1) := by decide +kernel
theorem dX5_keepCheck_15 : decode cX5_keepCheck 15 = .ok (.getfield 27, 3) := by decide +kernel
theorem dX5_keepCheck_18 : decode cX5_keepCheck 18 = .ok (.iload_n 1, 1) := by decide +kernel
theorem dX5_keepCheck_19 : decode cX5_keepCheck 19 = .ok (.iload 4, 2) := by decide +kernel
theorem dX5_keepCheck_21 : decode cX5_keepCheck 21 = .ok (.iastore, 1) := by decide +kernel
theorem dX5_keepCheck_22 : decode cX5_keepCheck 22 = .ok (.aload_n 0, 1) := by decide +kernel
theorem dX5_keepCheck_23 : decode cX5_keepCheck 23 = .ok (.getfield 30, 3) := by decide +kernel
theorem dX5_keepCheck_26 : decode cX5_keepCheck 26 = .ok (.iload_n 1, 1) := by decide +kernel
theorem dX5_keepCheck_27 : decode cX5_keepCheck 27 = .ok (.iload 5, 2) := by decide +kernel
theorem dX5_keepCheck_29 : decode cX5_keepCheck 29 = .ok (.ifCond .eq 7, 3) := by decide +kernel
theorem dX5_keepCheck_32 : decode cX5_keepCheck 32 = .ok (.iconst 1, 1) := by decide +kernel
theorem dX5_keepCheck_33 : decode cX5_keepCheck 33 = .ok (.goto 4, 3) := by decide +kernel
theorem dX5_keepCheck_36 : decode cX5_keepCheck 36 = .ok (.iconst 0, 1) := by decide +kernel
theorem dX5_keepCheck_37 : decode cX5_keepCheck 37 = .ok (.iastore, 1) := by decide +kernel
theorem dX5_keepCheck_38 : decode cX5_keepCheck 38 = .ok (.return_, 1) := by decide +kernel
theorem dX5_isLikeCheck_0 : decode cX5_isLikeCheck 0 = .ok (.iconst 0, 1) := by decide +kernel
theorem dX5_isLikeCheck_1 : decode cX5_isLikeCheck 1 = .ok (.istore_n 3, 1) := by decide +kernel
theorem dX5_isLikeCheck_2 : decode cX5_isLikeCheck 2 = .ok (.iload_n 3, 1) := by decide +kernel
theorem dX5_isLikeCheck_3 : decode cX5_isLikeCheck 3 = .ok (.iconst 3, 1) := by decide +kernel
theorem dX5_isLikeCheck_4 : decode cX5_isLikeCheck 4 = .ok (.if_icmp .ge 33, 3) := by decide +kernel
theorem dX5_isLikeCheck_7 : decode cX5_isLikeCheck 7 = .ok (.aload_n 0, 1) := by decide +kernel
theorem dX5_isLikeCheck_8 : decode cX5_isLikeCheck 8 = .ok (.getfield 21, 3) := by decide +kernel
theorem dX5_isLikeCheck_11 : decode cX5_isLikeCheck 11 = .ok (.iload_n 3, 1) := by decide +kernel
theorem dX5_isLikeCheck_12 : decode cX5_isLikeCheck 12 = .ok (.iaload, 1) := by decide +kernel
theorem dX5_isLikeCheck_13 : decode cX5_isLikeCheck 13 = .ok (.iconst 1, 1) := by decide +kernel
theorem dX5_isLikeCheck_14 : decode cX5_isLikeCheck 14 = .ok (.iadd, 1) := by decide +kernel
theorem dX5_isLikeCheck_15 : decode cX5_isLikeCheck 15 = .ok (.iload_n 1, 1) := by decide +kernel
theorem dX5_isLikeCheck_16 : decode cX5_isLikeCheck 16 = .ok (.if_icmp .ne 15, 3) := by decide +kernel
theorem dX5_isLikeCheck_19 : decode cX5_isLikeCheck 19 = .ok (.aload_n 0, 1) := by decide +kernel
theorem dX5_isLikeCheck_20 : decode cX5_isLikeCheck 20 = .ok (.getfield 24, 3) := by decide +kernel
theorem dX5_isLikeCheck_23 : decode cX5_isLikeCheck 23 = .ok (.iload_n 3, 1) := by decide +kernel
theorem dX5_isLikeCheck_24 : decode cX5_isLikeCheck 24 = .ok (.iaload, 1) := by decide +kernel
theorem dX5_isLikeCheck_25 : decode cX5_isLikeCheck 25 = .ok (.iload_n 2, 1) := by decide +kernel
theorem dX5_isLikeCheck_26 : decode cX5_isLikeCheck 26 = .ok (.if_icmp .ne 5, 3) := by decide +kernel
theorem dX5_isLikeCheck_29 : decode cX5_isLikeCheck 29 = .ok (.iconst 1, 1) := by decide +kernel
theorem dX5_isLikeCheck_30 : decode cX5_isLikeCheck 30 = .ok (.ireturn, 1) := by decide +kernel
theorem dX5_isLikeCheck_31 : decode cX5_isLikeCheck 31 = .ok (.iinc 3 1, 3) := by decide +kernel
theorem dX5_isLikeCheck_34 : decode cX5_isLikeCheck 34 = .ok (.goto (-32), 3) := by decide +kernel
theorem dX5_isLikeCheck_37 : decode cX5_isLikeCheck 37 = .ok (.iconst 0, 1) := by decide +kernel
theorem dX5_isLikeCheck_38 : decode cX5_isLikeCheck 38 = .ok (.ireturn, 1) := by decide +kernel
theorem dX5_take_0 : decode cX5_take 0 = .ok (.aload_n 0, 1) := by decide +kernel
theorem dX5_take_1 : decode cX5_take 1 = .ok (.getfield 18, 3) := by decide +kernel
theorem dX5_take_4 : decode cX5_take 4 = .ok (.iload_n 1, 1) := by decide +kernel
theorem dX5_take_5 : decode cX5_take 5 = .ok (.bipush 100, 2) := by decide +kernel
theorem dX5_take_7 : decode cX5_take 7 = .ok (.imul, 1) := by decide +kernel
theorem dX5_take_8 : decode cX5_take 8 = .ok (.iload_n 2, 1) := by decide +kernel
theorem dX5_take_9 : decode cX5_take 9 = .ok (.iadd, 1) := by decide +kernel
theorem dX5_take_10 : decode cX5_take 10 = .ok (.iload_n 3, 1) := by decide +kernel
theorem dX5_take_11 : decode cX5_take 11 = .ok (.iastore, 1) := by decide +kernel
theorem dX5_take_12 : decode cX5_take 12 = .ok (.return_, 1) := by decide +kernel
theorem dX5_isTaken_0 : decode cX5_isTaken 0 = .ok (.aload_n 0, 1) := by decide +kernel
theorem dX5_isTaken_1 : decode cX5_isTaken 1 = .ok (.getfield 18, 3) := by decide +kernel
theorem dX5_isTaken_4 : decode cX5_isTaken 4 = .ok (.iload_n 1, 1) := by decide +kernel
theorem dX5_isTaken_5 : decode cX5_isTaken 5 = .ok (.bipush 100, 2) := by decide +kernel
theorem dX5_isTaken_7 : decode cX5_isTaken 7 = .ok (.imul, 1) := by decide +kernel
theorem dX5_isTaken_8 : decode cX5_isTaken 8 = .ok (.iload_n 2, 1) := by decide +kernel
theorem dX5_isTaken_9 : decode cX5_isTaken 9 = .ok (.iadd, 1) := by decide +kernel
theorem dX5_isTaken_10 : decode cX5_isTaken 10 = .ok (.iaload, 1) := by decide +kernel
theorem dX5_isTaken_11 : decode cX5_isTaken 11 = .ok (.istore 4, 2) := by decide +kernel
theorem dX5_isTaken_13 : decode cX5_isTaken 13 = .ok (.iload 4, 2) := by decide +kernel
theorem dX5_isTaken_15 : decode cX5_isTaken 15 = .ok (.ifCond .le 13, 3) := by decide +kernel
theorem dX5_isTaken_18 : decode cX5_isTaken 18 = .ok (.iload 4, 2) := by decide +kernel
theorem dX5_isTaken_20 : decode cX5_isTaken 20 = .ok (.iload_n 3, 1) := by decide +kernel
theorem dX5_isTaken_21 : decode cX5_isTaken 21 = .ok (.if_icmp .gt 7, 3) := by decide +kernel
theorem dX5_isTaken_24 : decode cX5_isTaken 24 = .ok (.iconst 1, 1) := by decide +kernel
theorem dX5_isTaken_25 : decode cX5_isTaken 25 = .ok (.goto 4, 3) := by decide +kernel
theorem dX5_isTaken_28 : decode cX5_isTaken 28 = .ok (.iconst 0, 1) := by decide +kernel
theorem dX5_isTaken_29 : decode cX5_isTaken 29 = .ok (.ireturn, 1) := by decide +kernel
set_option maxRecDepth 20000 in
theorem ggX5_takers_X5_isTaken : GoodIn wsX5_takers wsX5_isTaken := goodIn_r _ [5, 6, 7, 8, 9, 10, 11, 12, 13, 14, 15, 16, 17, 18, 19, 20] (by decide +kernel) (by decide +kernel)
set_option maxRecDepth 20000 in
theorem gX5_takers_X5_isTaken : GoodIn wsX5_takers (wsV RX5 47 RX5 yX5_isTaken wsX5_isTaken) := goodIn_app (goodIn_of _ (by decide +kernel)) ggX5_takers_X5_isTaken
theorem dX5_takers_0 : decode cX5_takers 0 = .ok (.iconst 0, 1) := by decide +kernel
theorem dX5_takers_1 : decode cX5_takers 1 = .ok (.istore_n 3, 1) := by decide +kernel
theorem dX5_takers_2 : decode cX5_takers 2 = .ok (.iconst 0, 1) := by decide +kernel
theorem dX5_takers_3 : decode cX5_takers 3 = .ok (.istore 4, 2) := by decide +kernel
theorem dX5_takers_5 : decode cX5_takers 5 = .ok (.iload 4, 2) := by decide +kernel
theorem dX5_takers_7 : decode cX5_takers 7 = .ok (.iconst 5, 1) := by decide +kernel
theorem dX5_takers_8 : decode cX5_takers 8 = .ok (.if_icmp .ge 23, 3) := by decide +kernel
theorem dX5_takers_11 : decode cX5_takers 11 = .ok (.aload_n 0, 1) := by decide +kernel
theorem dX5_takers_12 : decode cX5_takers 12 = .ok (.iload 4, 2) := by decide +kernel
theorem dX5_takers_14 : decode cX5_takers 14 = .ok (.iload_n 1, 1) := by decide +kernel
theorem dX5_takers_15 : decode cX5_takers 15 = .ok (.iload_n 2, 1) := by decide +kernel
theorem dX5_takers_16 : decode cX5_takers 16 = .ok (.invokevirtual 47, 3) := by decide +kernel
theorem dX5_takers_19 : decode cX5_takers 19 = .ok (.ifCond .eq 6, 3) := by decide +kernel
theorem dX5_takers_22 : decode cX5_takers 22 = .ok (.iinc 3 1, 3) := by decide +kernel
theorem dX5_takers_25 : decode cX5_takers 25 = .ok (.iinc 4 1, 3) := by decide +kernel
theorem dX5_takers_28 : decode cX5_takers 28 = .ok (.goto (-23), 3) := by decide +kernel
theorem dX5_takers_31 : decode cX5_takers 31 = .ok (.iload_n 3, 1) := by decide +kernel
theorem dX5_takers_32 : decode cX5_takers 32 = .ok (.ireturn, 1) := by decide +kernel
theorem dX6_init_0 : decode cX6_init 0 = .ok (.aload_n 0, 1) := by decide +kernel
theorem dX6_init_1 : decode cX6_init 1 = .ok (.invokespecial 3, 3) := by decide +kernel
theorem dX6_init_4 : decode cX6_init 4 = .ok (.aload_n 0, 1) := by decide +kernel
theorem dX6_init_5 : decode cX6_init 5 = .ok (.bipush 120, 2) := by decide +kernel
theorem dX6_init_7 : decode cX6_init 7 = .ok (.newarray .int, 2) := by decide +kernel
theorem dX6_init_9 : decode cX6_init 9 = .ok (.putfield 9, 3) := by decide +kernel
theorem dX6_init_12 : decode cX6_init 12 = .ok (.return_, 1) := by decide +kernel
theorem dX6_append_0 : decode cX6_append 0 = .ok (.iload_n 3, 1) := by decide +kernel
theorem dX6_append_1 : decode cX6_append 1 = .ok (.iconst 1, 1) := by decide +kernel
theorem dX6_append_2 : decode cX6_append 2 = .ok (.isub, 1) := by decide +kernel
theorem dX6_append_3 : decode cX6_append 3 = .ok (.istore 4, 2) := by decide +kernel
theorem dX6_append_5 : decode cX6_append 5 = .ok (.iload 4, 2) := by decide +kernel
theorem dX6_append_7 : decode cX6_append 7 = .ok (.ifCond .lt 40, 3) := by decide +kernel
theorem dX6_append_10 : decode cX6_append 10 = .ok (.aload_n 0, 1) := by decide +kernel
theorem dX6_append_11 : decode cX6_append 11 = .ok (.getfield 9, 3) := by decide +kernel
theorem dX6_append_14 : decode cX6_append 14 = .ok (.aload_n 0, 1) := by decide +kernel
theorem dX6_append_15 : decode cX6_append 15 = .ok (.getfield 15, 3) := by decide +kernel
theorem dX6_append_18 : decode cX6_append 18 = .ok (.lload_n 1, 1) := by decide +kernel
theorem dX6_append_19 : decode cX6_append 19 = .ok (.bipush 8, 2) := by decide +kernel
theorem dX6_append_21 : decode cX6_append 21 = .ok (.iload 4, 2) := by decide +kernel
theorem dX6_append_23 : decode cX6_append 23 = .ok (.imul, 1) := by decide +kernel
theorem dX6_append_24 : decode cX6_append 24 = .ok (.lushr, 1) := by decide +kernel
theorem dX6_append_25 : decode cX6_append 25 = .ok (.ldc2_w 19, 3) := by decide +kernel
theorem dX6_append_28 : decode cX6_append 28 = .ok (.land, 1) := by decide +kernel
theorem dX6_append_29 : decode cX6_append 29 = .ok (.l2i, 1) := by decide +kernel
theorem dX6_append_30 : decode cX6_append 30 = .ok (.iastore, 1) := by decide +kernel
theorem dX6_append_31 : decode cX6_append 31 = .ok (.aload_n 0, 1) := by decide +kernel
theorem dX6_append_32 : decode cX6_append 32 = .ok (.dup, 1) := by decide +kernel
theorem dX6_append_33 : decode cX6_append 33 = .ok (.getfield 15, 3) := by decide +kernel
theorem dX6_append_36 : decode cX6_append 36 = .ok (.iconst 1, 1) := by decide +kernel
theorem dX6_append_37 : decode cX6_append 37 = .ok (.iadd, 1) := by decide +kernel
theorem dX6_append_38 : decode cX6_append 38 = .ok (.putfield 15, 3) := by decide +kernel
theorem dX6_append_41 : decode cX6_append 41 = .ok (.iinc 4 (-1), 3) := by decide +kernel
theorem dX6_append_44 : decode cX6_append 44 = .ok (.goto (-39), 3) := by decide +kernel
theorem dX6_append_47 : decode cX6_append 47 = .ok (.return_, 1) := by decide +kernel
theorem dX6_at_0 : decode cX6_at 0 = .ok (.iload_n 1, 1) := by decide +kernel
theorem dX6_at_1 : decode cX6_at 1 = .ok (.ifCond .lt 20, 3) := by decide +kernel
theorem dX6_at_4 : decode cX6_at 4 = .ok (.iload_n 1, 1) := by decide +kernel
theorem dX6_at_5 : decode cX6_at 5 = .ok (.aload_n 0, 1) := by decide +kernel
theorem dX6_at_6 : decode cX6_at 6 = .ok (.getfield 15, 3) := by decide +kernel
theorem dX6_at_9 : decode cX6_at 9 = .ok (.if_icmp .ge 12, 3) := by decide +kernel
theorem dX6_at_12 : decode cX6_at 12 = .ok (.aload_n 0, 1) := by decide +kernel
theorem dX6_at_13 : decode cX6_at 13 = .ok (.getfield 9, 3) := by decide +kernel
theorem dX6_at_16 : decode cX6_at 16 = .ok (.iload_n 1, 1) := by decide +kernel
theorem dX6_at_17 : decode cX6_at 17 = .ok (.iaload, 1) := by decide +kernel
theorem dX6_at_18 : decode cX6_at 18 = .ok (.goto 4, 3) := by decide +kernel
theorem dX6_at_21 : decode cX6_at 21 = .ok (.iconst (-1), 1) := by decide +kernel
theorem dX6_at_22 : decode cX6_at 22 = .ok (.ireturn, 1) := by decide +kernel
set_option maxRecDepth 20000 in
theorem ggX7_init_Jx4a65c_init_da8c8 : GoodIn wsX7_init wsJx4a65c_init_da8c8 := goodIn_r _ [30, 31, 32, 33, 34, 35, 36, 37, 38, 39, 40, 41, 42, 2, 3, 73, 74, 75] (by decide +kernel) (by decide +kernel)
set_option maxRecDepth 20000 in
theorem gX7_init_Jx4a65c_init_da8c8 : GoodIn wsX7_init (wsJx4a65c_init_da8c8) := ggX7_init_Jx4a65c_init_da8c8
set_option maxRecDepth 20000 in
theorem ggX7_init_X6_init : GoodIn wsX7_init wsX6_init := goodIn_r _ [44, 45, 2, 3, 4, 46, 76, 77] (by decide +kernel) (by decide +kernel)
set_option maxRecDepth 20000 in
theorem gX7_init_X6_init_n25 : GoodIn wsX7_init (wsX6_init) := ggX7_init_X6_init
set_option maxRecDepth 20000 in
theorem ggX7_init_X4_init : GoodIn wsX7_init wsX4_init := goodIn_r _ [48, 49, 2, 3, 4, 50, 51, 78, 79, 80, 81] (by decide +kernel) (by decide +kernel)
set_option maxRecDepth 20000 in
theorem gX7_init_X4_init_n32 : GoodIn wsX7_init (wsX4_init) := ggX7_init_X4_init
set_option maxRecDepth 20000 in
theorem ggX7_init_X1_init : GoodIn wsX7_init wsX1_init := goodIn_r _ [53, 54, 2, 3, 4, 55, 56, 82, 83, 84, 85, 86, 87] (by decide +kernel) (by decide +kernel)
set_option maxRecDepth 20000 in
theorem gX7_init_X1_init_n39 : GoodIn wsX7_init (wsX1_init) := ggX7_init_X1_init
set_option maxRecDepth 20000 in
theorem ggX7_init_X2_init : GoodIn wsX7_init wsX2_init := goodIn_r _ [58, 59, 2, 3, 4, 60, 61, 62, 88, 89, 90, 91] (by decide +kernel) (by decide +kernel)
set_option maxRecDepth 20000 in
theorem gX7_init_X2_init_n46 : GoodIn wsX7_init (wsX2_init) := ggX7_init_X2_init
theorem dX7_init_0 : decode cX7_init 0 = .ok (.aload_n 0, 1) := by decide +kernel
theorem dX7_init_1 : decode cX7_init 1 = .ok (.invokespecial 1, 3) := by decide +kernel
theorem dX7_init_4 : decode cX7_init 4 = .ok (.aload_n 0, 1) := by decide +kernel
theorem dX7_init_5 : decode cX7_init 5 = .ok (.bipush 7, 2) := by decide +kernel
theorem dX7_init_7 : decode cX7_init 7 = .ok (.newarray .int, 2) := by decide +kernel
theorem dX7_init_9 : decode cX7_init 9 = .ok (.dup, 1) := by decide +kernel
theorem dX7_init_10 : decode cX7_init 10 = .ok (.iconst 0, 1) := by decide +kernel
theorem dX7_init_11 : decode cX7_init 11 = .ok (.bipush 60, 2) := by decide +kernel
theorem dX7_init_13 : decode cX7_init 13 = .ok (.iastore, 1) := by decide +kernel
theorem dX7_init_14 : decode cX7_init 14 = .ok (.dup, 1) := by decide +kernel
theorem dX7_init_15 : decode cX7_init 15 = .ok (.iconst 1, 1) := by decide +kernel
theorem dX7_init_16 : decode cX7_init 16 = .ok (.iconst 0, 1) := by decide +kernel
theorem dX7_init_17 : decode cX7_init 17 = .ok (.iastore, 1) := by decide +kernel
theorem dX7_init_18 : decode cX7_init 18 = .ok (.dup, 1) := by decide +kernel
theorem dX7_init_19 : decode cX7_init 19 = .ok (.iconst 2, 1) := by decide +kernel
theorem dX7_init_20 : decode cX7_init 20 = .ok (.iconst 3, 1) := by decide +kernel
theorem dX7_init_21 : decode cX7_init 21 = .ok (.iastore, 1) := by decide +kernel
theorem dX7_init_22 : decode cX7_init 22 = .ok (.dup, 1) := by decide +kernel
theorem dX7_init_23 : decode cX7_init 23 = .ok (.iconst 3, 1) := by decide +kernel
theorem dX7_init_24 : decode cX7_init 24 = .ok (.bipush 100, 2) := by decide +kernel
theorem dX7_init_26 : decode cX7_init 26 = .ok (.iastore, 1) := by decide +kernel
theorem dX7_init_27 : decode cX7_init 27 = .ok (.dup, 1) := by decide +kernel
theorem dX7_init_28 : decode cX7_init 28 = .ok (.iconst 4, 1) := by decide +kernel
theorem dX7_init_29 : decode cX7_init 29 = .ok (.iconst 1, 1) := by decide +kernel
theorem dX7_init_30 : decode cX7_init 30 = .ok (.iastore, 1) := by decide +kernel
theorem dX7_init_31 : decode cX7_init 31 = .ok (.dup, 1) := by decide +kernel
theorem dX7_init_32 : decode cX7_init 32 = .ok (.iconst 5, 1) := by decide +kernel
theorem dX7_init_33 : decode cX7_init 33 = .ok (.iconst 1, 1) := by decide +kernel
theorem dX7_init_34 : decode cX7_init 34 = .ok (.iastore, 1) := by decide +kernel
theorem dX7_init_35 : decode cX7_init 35 = .ok (.dup, 1) := by decide +kernel
theorem dX7_init_36 : decode cX7_init 36 = .ok (.bipush 6, 2) := by decide +kernel
theorem dX7_init_38 : decode cX7_init 38 = .ok (.iconst 1, 1) := by decide +kernel
theorem dX7_init_39 : decode cX7_init 39 = .ok (.iastore, 1) := by decide +kernel
theorem dX7_init_40 : decode cX7_init 40 = .ok (.putfield 7, 3) := by decide +kernel
theorem dX7_init_43 : decode cX7_init 43 = .ok (.aload_n 0, 1) := by decide +kernel
theorem dX7_init_44 : decode cX7_init 44 = .ok (.new 13, 3) := by decide +kernel
theorem dX7_init_47 : decode cX7_init 47 = .ok (.dup, 1) := by decide +kernel
theorem dX7_init_48 : decode cX7_init 48 = .ok (.invokespecial 15, 3) := by decide +kernel
theorem dX7_init_51 : decode cX7_init 51 = .ok (.putfield 16, 3) := by decide +kernel
theorem dX7_init_54 : decode cX7_init 54 = .ok (.aload_n 0, 1) := by decide +kernel
theorem dX7_init_55 : decode cX7_init 55 = .ok (.new 13, 3) := by decide +kernel
theorem dX7_init_58 : decode cX7_init 58 = .ok (.dup, 1) := by decide +kernel
theorem dX7_init_59 : decode cX7_init 59 = .ok (.invokespecial 15, 3) := by decide +kernel
theorem dX7_init_62 : decode cX7_init 62 = .ok (.putfield 20, 3) := by decide +kernel
theorem dX7_init_65 : decode cX7_init 65 = .ok (.aload_n 0, 1) := by decide +kernel
theorem dX7_init_66 : decode cX7_init 66 = .ok (.new 23, 3) := by decide +kernel
theorem dX7_init_69 : decode cX7_init 69 = .ok (.dup, 1) := by decide +kernel
theorem dX7_init_70 : decode cX7_init 70 = .ok (.invokespecial 25, 3) := by decide +kernel
theorem dX7_init_73 : decode cX7_init 73 = .ok (.putfield 26, 3) := by decide +kernel
theorem dX7_init_76 : decode cX7_init 76 = .ok (.aload_n 0, 1) := by decide +kernel
theorem dX7_init_77 : decode cX7_init 77 = .ok (.new 30, 3) := by decide +kernel
theorem dX7_init_80 : decode cX7_init 80 = .ok (.dup, 1) := by decide +kernel
end
section
theorem dX7_init_81 : decode cX7_init 81 = .ok (.invokespecial 32, 3) := by decide +kernel
theorem dX7_init_84 : decode cX7_init 84 = .ok (.putfield 33, 3) := by decide +kernel
theorem dX7_init_87 : decode cX7_init 87 = .ok (.aload_n 0, 1) := by decide +kernel
theorem dX7_init_88 : decode cX7_init 88 = .ok (.new 37, 3) := by decide +kernel
theorem dX7_init_91 : decode cX7_init 91 = .ok (.dup, 1) := by decide +kernel
theorem dX7_init_92 : decode cX7_init 92 = .ok (.invokespecial 39, 3) := by decide +kernel
theorem dX7_init_95 : decode cX7_init 95 = .ok (.putfield 40, 3) := by decide +kernel
theorem dX7_init_98 : decode cX7_init 98 = .ok (.aload_n 0, 1) := by decide +kernel
theorem dX7_init_99 : decode cX7_init 99 = .ok (.new 44, 3) := by decide +kernel
theorem dX7_init_102 : decode cX7_init 102 = .ok (.dup, 1) := by decide +kernel
theorem dX7_init_103 : decode cX7_init 103 = .ok (.invokespecial 46, 3) := by decide +kernel
theorem dX7_init_106 : decode cX7_init 106 = .ok (.putfield 47, 3) := by decide +kernel
theorem dX7_init_109 : decode cX7_init 109 = .ok (.aload_n 0, 1) := by decide +kernel
theorem dX7_init_110 : decode cX7_init 110 = .ok (.iconst 5, 1) := by decide +kernel
theorem dX7_init_111 : decode cX7_init 111 = .ok (.newarray .int, 2) := by decide +kernel
theorem dX7_init_113 : decode cX7_init 113 = .ok (.putfield 51, 3) := by decide +kernel
theorem dX7_init_116 : decode cX7_init 116 = .ok (.return_, 1) := by decide +kernel
set_option maxRecDepth 20000 in
theorem ggX7_team_X7_teams : GoodIn wsX7_team wsX7_teams := goodIn_r _ [10, 2, 11, 12, 13, 14, 15, 16, 86, 87, 88, 89, 90, 91, 92, 93, 94, 95, 110, 111, 112] (by decide +kernel) (by decide +kernel)
set_option maxRecDepth 20000 in
theorem gX7_team_X7_teams : GoodIn wsX7_team (wsV RX7 58 RX7 yX7_teams wsX7_teams) := goodIn_app (goodIn_of _ (by decide +kernel)) ggX7_team_X7_teams
set_option maxRecDepth 20000 in
theorem ggX7_team_X5_init : GoodIn wsX7_team wsX5_init := goodIn_r _ [18, 19, 20, 21, 22, 23, 24, 25, 26, 27, 28, 29, 30, 31, 96, 97, 98, 99, 100, 101, 102, 103, 104, 105, 106, 107, 108, 109] (by decide +kernel) (by decide +kernel)
set_option maxRecDepth 20000 in
theorem gX7_team_X5_init_n64 : GoodIn wsX7_team (wsX5_init) := ggX7_team_X5_init
set_option maxRecDepth 20000 in
theorem ggX7_team_Jx4a65c_add_9ea2d : GoodIn wsX7_team wsJx4a65c_add_9ea2d := goodIn_r _ [35, 36, 37, 38, 16, 39, 40, 41, 14, 42, 43, 44, 45, 46, 47, 48, 49, 50, 51, 52, 53, 54, 55, 56, 57, 58, 59, 60, 61, 62, 63, 64, 65, 66, 67, 68, 69, 70, 71, 72, 73, 74, 75, 76, 77, 78, 79, 80, 81, 82, 83, 84, 85, 110, 111, 112] (by decide +kernel) (by decide +kernel)
set_option maxRecDepth 20000 in
theorem gX7_team_Jx4a65c_add_9ea2d : GoodIn wsX7_team (wsV RX7 67 RJx4a65c yJx4a65c_add_9ea2d wsJx4a65c_add_9ea2d) := goodIn_app (goodIn_of _ (by decide +kernel)) ggX7_team_Jx4a65c_add_9ea2d
theorem dX7_team_0 : decode cX7_team 0 = .ok (.aload_n 0, 1) := by decide +kernel
theorem dX7_team_1 : decode cX7_team 1 = .ok (.getfield 54, 3) := by decide +kernel
theorem dX7_team_4 : decode cX7_team 4 = .ok (.ifCond .le 6, 3) := by decide +kernel
theorem dX7_team_7 : decode cX7_team 7 = .ok (.bipush (-3), 2) := by decide +kernel
theorem dX7_team_9 : decode cX7_team 9 = .ok (.ireturn, 1) := by decide +kernel
theorem dX7_team_10 : decode cX7_team 10 = .ok (.aload_n 0, 1) := by decide +kernel
theorem dX7_team_11 : decode cX7_team 11 = .ok (.invokevirtual 58, 3) := by decide +kernel
theorem dX7_team_14 : decode cX7_team 14 = .ok (.istore_n 1, 1) := by decide +kernel
theorem dX7_team_15 : decode cX7_team 15 = .ok (.iload_n 1, 1) := by decide +kernel
theorem dX7_team_16 : decode cX7_team 16 = .ok (.iconst 5, 1) := by decide +kernel
theorem dX7_team_17 : decode cX7_team 17 = .ok (.if_icmp .lt 6, 3) := by decide +kernel
theorem dX7_team_20 : decode cX7_team 20 = .ok (.bipush (-4), 2) := by decide +kernel
theorem dX7_team_22 : decode cX7_team 22 = .ok (.ireturn, 1) := by decide +kernel
theorem dX7_team_23 : decode cX7_team 23 = .ok (.iconst 0, 1) := by decide +kernel
theorem dX7_team_24 : decode cX7_team 24 = .ok (.istore_n 2, 1) := by decide +kernel
theorem dX7_team_25 : decode cX7_team 25 = .ok (.iload_n 2, 1) := by decide +kernel
theorem dX7_team_26 : decode cX7_team 26 = .ok (.iconst 3, 1) := by decide +kernel
theorem dX7_team_27 : decode cX7_team 27 = .ok (.if_icmp .ge 26, 3) := by decide +kernel
theorem dX7_team_30 : decode cX7_team 30 = .ok (.aload_n 0, 1) := by decide +kernel
theorem dX7_team_31 : decode cX7_team 31 = .ok (.getfield 16, 3) := by decide +kernel
theorem dX7_team_34 : decode cX7_team 34 = .ok (.new 62, 3) := by decide +kernel
theorem dX7_team_37 : decode cX7_team 37 = .ok (.dup, 1) := by decide +kernel
theorem dX7_team_38 : decode cX7_team 38 = .ok (.iload_n 1, 1) := by decide +kernel
theorem dX7_team_39 : decode cX7_team 39 = .ok (.iload_n 2, 1) := by decide +kernel
theorem dX7_team_40 : decode cX7_team 40 = .ok (.invokespecial 64, 3) := by decide +kernel
theorem dX7_team_43 : decode cX7_team 43 = .ok (.invokevirtual 67, 3) := by decide +kernel
theorem dX7_team_46 : decode cX7_team 46 = .ok (.pop, 1) := by decide +kernel
theorem dX7_team_47 : decode cX7_team 47 = .ok (.iinc 2 1, 3) := by decide +kernel
theorem dX7_team_50 : decode cX7_team 50 = .ok (.goto (-25), 3) := by decide +kernel
theorem dX7_team_53 : decode cX7_team 53 = .ok (.iload_n 1, 1) := by decide +kernel
theorem dX7_team_54 : decode cX7_team 54 = .ok (.ireturn, 1) := by decide +kernel
set_option maxRecDepth 20000 in
theorem ggX7_feed_X6_append : GoodIn wsX7_feed wsX6_append := goodIn_r _ [5, 6, 7, 8, 19, 20] (by decide +kernel) (by decide +kernel)
set_option maxRecDepth 20000 in
theorem gX7_feed_X6_append_n74 : GoodIn wsX7_feed (wsX6_append) := ggX7_feed_X6_append
theorem dX7_feed_0 : decode cX7_feed 0 = .ok (.iload_n 3, 1) := by decide +kernel
theorem dX7_feed_1 : decode cX7_feed 1 = .ok (.iconst 1, 1) := by decide +kernel
theorem dX7_feed_2 : decode cX7_feed 2 = .ok (.if_icmp .lt 9, 3) := by decide +kernel
theorem dX7_feed_5 : decode cX7_feed 5 = .ok (.iload_n 3, 1) := by decide +kernel
theorem dX7_feed_6 : decode cX7_feed 6 = .ok (.bipush 8, 2) := by decide +kernel
theorem dX7_feed_8 : decode cX7_feed 8 = .ok (.if_icmp .le 6, 3) := by decide +kernel
theorem dX7_feed_11 : decode cX7_feed 11 = .ok (.bipush (-2), 2) := by decide +kernel
theorem dX7_feed_13 : decode cX7_feed 13 = .ok (.ireturn, 1) := by decide +kernel
theorem dX7_feed_14 : decode cX7_feed 14 = .ok (.aload_n 0, 1) := by decide +kernel
theorem dX7_feed_15 : decode cX7_feed 15 = .ok (.getfield 26, 3) := by decide +kernel
theorem dX7_feed_18 : decode cX7_feed 18 = .ok (.getfield 71, 3) := by decide +kernel
theorem dX7_feed_21 : decode cX7_feed 21 = .ok (.iload_n 3, 1) := by decide +kernel
theorem dX7_feed_22 : decode cX7_feed 22 = .ok (.iadd, 1) := by decide +kernel
theorem dX7_feed_23 : decode cX7_feed 23 = .ok (.bipush 120, 2) := by decide +kernel
theorem dX7_feed_25 : decode cX7_feed 25 = .ok (.if_icmp .le 6, 3) := by decide +kernel
theorem dX7_feed_28 : decode cX7_feed 28 = .ok (.bipush (-4), 2) := by decide +kernel
theorem dX7_feed_30 : decode cX7_feed 30 = .ok (.ireturn, 1) := by decide +kernel
theorem dX7_feed_31 : decode cX7_feed 31 = .ok (.aload_n 0, 1) := by decide +kernel
theorem dX7_feed_32 : decode cX7_feed 32 = .ok (.getfield 26, 3) := by decide +kernel
theorem dX7_feed_35 : decode cX7_feed 35 = .ok (.lload_n 1, 1) := by decide +kernel
theorem dX7_feed_36 : decode cX7_feed 36 = .ok (.iload_n 3, 1) := by decide +kernel
theorem dX7_feed_37 : decode cX7_feed 37 = .ok (.invokevirtual 74, 3) := by decide +kernel
theorem dX7_feed_40 : decode cX7_feed 40 = .ok (.aload_n 0, 1) := by decide +kernel
theorem dX7_feed_41 : decode cX7_feed 41 = .ok (.getfield 26, 3) := by decide +kernel
theorem dX7_feed_44 : decode cX7_feed 44 = .ok (.getfield 71, 3) := by decide +kernel
theorem dX7_feed_47 : decode cX7_feed 47 = .ok (.ireturn, 1) := by decide +kernel
set_option maxRecDepth 20000 in
theorem ggX7_patch_X7_find : GoodIn wsX7_patch wsX7_find := goodIn_r _ [7, 8, 9, 10, 11, 12, 6, 13, 14, 15, 16, 17, 18, 19, 20, 21, 22, 23, 24, 25, 26, 27, 28, 29, 30, 31, 32, 33, 34, 35, 36, 37, 38, 39, 40, 93, 94, 95, 96, 97, 98, 99, 100, 101, 102, 122, 123, 124] (by decide +kernel) (by decide +kernel)
set_option maxRecDepth 20000 in
theorem gX7_patch_X7_find : GoodIn wsX7_patch (wsV RX7 78 RX7 yX7_find wsX7_find) := goodIn_app (goodIn_of _ (by decide +kernel)) ggX7_patch_X7_find
set_option maxRecDepth 20000 in
theorem ggX7_patch_X4_read : GoodIn wsX7_patch wsX4_read := goodIn_r _ [44, 45, 46, 47, 48, 49, 42, 50, 51, 52, 53, 54, 55, 56, 57, 58, 59, 60, 61, 62, 63, 64, 65, 66, 67, 68, 69, 70, 71, 72, 73, 125, 126, 127, 128, 103, 104] (by decide +kernel) (by decide +kernel)
set_option maxRecDepth 20000 in
theorem gX7_patch_X4_read_n82 : GoodIn wsX7_patch (wsX4_read) := ggX7_patch_X4_read
set_option maxRecDepth 20000 in
theorem ggX7_patch_X4_program : GoodIn wsX7_patch wsX4_program := goodIn_r _ [76, 77, 78, 79, 51, 52, 46, 80, 81, 82, 83, 84, 85, 86, 87, 88, 89, 90, 91, 92, 119, 120, 121, 125, 126, 127, 128] (by decide +kernel) (by decide +kernel)
set_option maxRecDepth 20000 in
theorem gX7_patch_X4_program_n86 : GoodIn wsX7_patch (wsX4_program) := ggX7_patch_X4_program
theorem dX7_patch_0 : decode cX7_patch 0 = .ok (.aload_n 0, 1) := by decide +kernel
theorem dX7_patch_1 : decode cX7_patch 1 = .ok (.iload_n 1, 1) := by decide +kernel
theorem dX7_patch_2 : decode cX7_patch 2 = .ok (.iload_n 2, 1) := by decide +kernel
theorem dX7_patch_3 : decode cX7_patch 3 = .ok (.invokevirtual 78, 3) := by decide +kernel
theorem dX7_patch_6 : decode cX7_patch 6 = .ok (.astore_n 3, 1) := by decide +kernel
theorem dX7_patch_7 : decode cX7_patch 7 = .ok (.aload_n 3, 1) := by decide +kernel
theorem dX7_patch_8 : decode cX7_patch 8 = .ok (.ifnonnull 5, 3) := by decide +kernel
theorem dX7_patch_11 : decode cX7_patch 11 = .ok (.iconst (-1), 1) := by decide +kernel
theorem dX7_patch_12 : decode cX7_patch 12 = .ok (.ireturn, 1) := by decide +kernel
theorem dX7_patch_13 : decode cX7_patch 13 = .ok (.aload_n 0, 1) := by decide +kernel
theorem dX7_patch_14 : decode cX7_patch 14 = .ok (.getfield 33, 3) := by decide +kernel
theorem dX7_patch_17 : decode cX7_patch 17 = .ok (.aload_n 0, 1) := by decide +kernel
theorem dX7_patch_18 : decode cX7_patch 18 = .ok (.getfield 26, 3) := by decide +kernel
theorem dX7_patch_21 : decode cX7_patch 21 = .ok (.invokevirtual 82, 3) := by decide +kernel
theorem dX7_patch_24 : decode cX7_patch 24 = .ok (.istore 4, 2) := by decide +kernel
theorem dX7_patch_26 : decode cX7_patch 26 = .ok (.aload_n 0, 1) := by decide +kernel
theorem dX7_patch_27 : decode cX7_patch 27 = .ok (.getfield 26, 3) := by decide +kernel
theorem dX7_patch_30 : decode cX7_patch 30 = .ok (.iconst 0, 1) := by decide +kernel
theorem dX7_patch_31 : decode cX7_patch 31 = .ok (.putfield 71, 3) := by decide +kernel
theorem dX7_patch_34 : decode cX7_patch 34 = .ok (.iload 4, 2) := by decide +kernel
theorem dX7_patch_36 : decode cX7_patch 36 = .ok (.iconst (-1), 1) := by decide +kernel
theorem dX7_patch_37 : decode cX7_patch 37 = .ok (.if_icmp .eq 9, 3) := by decide +kernel
theorem dX7_patch_40 : decode cX7_patch 40 = .ok (.bipush (-10), 2) := by decide +kernel
theorem dX7_patch_42 : decode cX7_patch 42 = .ok (.iload 4, 2) := by decide +kernel
theorem dX7_patch_44 : decode cX7_patch 44 = .ok (.isub, 1) := by decide +kernel
theorem dX7_patch_45 : decode cX7_patch 45 = .ok (.ireturn, 1) := by decide +kernel
theorem dX7_patch_46 : decode cX7_patch 46 = .ok (.aload_n 0, 1) := by decide +kernel
theorem dX7_patch_47 : decode cX7_patch 47 = .ok (.getfield 33, 3) := by decide +kernel
theorem dX7_patch_50 : decode cX7_patch 50 = .ok (.invokevirtual 86, 3) := by decide +kernel
theorem dX7_patch_53 : decode cX7_patch 53 = .ok (.astore 5, 2) := by decide +kernel
theorem dX7_patch_55 : decode cX7_patch 55 = .ok (.aload_n 3, 1) := by decide +kernel
theorem dX7_patch_56 : decode cX7_patch 56 = .ok (.aload 5, 2) := by decide +kernel
theorem dX7_patch_58 : decode cX7_patch 58 = .ok (.putfield 90, 3) := by decide +kernel
theorem dX7_patch_61 : decode cX7_patch 61 = .ok (.aload 5, 2) := by decide +kernel
theorem dX7_patch_63 : decode cX7_patch 63 = .ok (.getfield 94, 3) := by decide +kernel
theorem dX7_patch_66 : decode cX7_patch 66 = .ok (.ireturn, 1) := by decide +kernel
set_option maxRecDepth 20000 in
theorem ggX7_unpatch_X7_find : GoodIn wsX7_unpatch wsX7_find := goodIn_r _ [5, 6, 7, 8, 9, 10, 4, 11, 12, 13, 14, 15, 16, 17, 18, 19, 20, 21, 22, 23, 24, 25, 26, 27, 28, 29, 30, 31, 32, 33, 34, 35, 36, 37, 38, 56, 57, 58, 59, 60, 61, 62, 63, 64, 65, 66, 67, 68] (by decide +kernel) (by decide +kernel)
set_option maxRecDepth 20000 in
theorem gX7_unpatch_X7_find : GoodIn wsX7_unpatch (wsV RX7 78 RX7 yX7_find wsX7_find) := goodIn_app (goodIn_of _ (by decide +kernel)) ggX7_unpatch_X7_find
theorem dX7_unpatch_0 : decode cX7_unpatch 0 = .ok (.aload_n 0, 1) := by decide +kernel
theorem dX7_unpatch_1 : decode cX7_unpatch 1 = .ok (.iload_n 1, 1) := by decide +kernel
theorem dX7_unpatch_2 : decode cX7_unpatch 2 = .ok (.iload_n 2, 1) := by decide +kernel
theorem dX7_unpatch_3 : decode cX7_unpatch 3 = .ok (.invokevirtual 78, 3) := by decide +kernel
theorem dX7_unpatch_6 : decode cX7_unpatch 6 = .ok (.astore_n 3, 1) := by decide +kernel
theorem dX7_unpatch_7 : decode cX7_unpatch 7 = .ok (.aload_n 3, 1) := by decide +kernel
theorem dX7_unpatch_8 : decode cX7_unpatch 8 = .ok (.ifnonnull 5, 3) := by decide +kernel
theorem dX7_unpatch_11 : decode cX7_unpatch 11 = .ok (.iconst (-1), 1) := by decide +kernel
theorem dX7_unpatch_12 : decode cX7_unpatch 12 = .ok (.ireturn, 1) := by decide +kernel
theorem dX7_unpatch_13 : decode cX7_unpatch 13 = .ok (.aload_n 3, 1) := by decide +kernel
theorem dX7_unpatch_14 : decode cX7_unpatch 14 = .ok (.getfield 90, 3) := by decide +kernel
theorem dX7_unpatch_17 : decode cX7_unpatch 17 = .ok (.astore 4, 2) := by decide +kernel
theorem dX7_unpatch_19 : decode cX7_unpatch 19 = .ok (.aload 4, 2) := by decide +kernel
theorem dX7_unpatch_21 : decode cX7_unpatch 21 = .ok (.ifnonnull 6, 3) := by decide +kernel
theorem dX7_unpatch_24 : decode cX7_unpatch 24 = .ok (.bipush (-3), 2) := by decide +kernel
theorem dX7_unpatch_26 : decode cX7_unpatch 26 = .ok (.ireturn, 1) := by decide +kernel
theorem dX7_unpatch_27 : decode cX7_unpatch 27 = .ok (.aload_n 3, 1) := by decide +kernel
theorem dX7_unpatch_28 : decode cX7_unpatch 28 = .ok (.aconst_null, 1) := by decide +kernel
theorem dX7_unpatch_29 : decode cX7_unpatch 29 = .ok (.putfield 90, 3) := by decide +kernel
theorem dX7_unpatch_32 : decode cX7_unpatch 32 = .ok (.aload 4, 2) := by decide +kernel
theorem dX7_unpatch_34 : decode cX7_unpatch 34 = .ok (.getfield 94, 3) := by decide +kernel
theorem dX7_unpatch_37 : decode cX7_unpatch 37 = .ok (.ireturn, 1) := by decide +kernel
set_option maxRecDepth 20000 in
theorem ggX7_cell_X7_find : GoodIn wsX7_cell wsX7_find := goodIn_r _ [5, 6, 7, 8, 9, 10, 4, 11, 12, 13, 14, 15, 16, 17, 18, 19, 20, 21, 22, 23, 24, 25, 26, 27, 28, 29, 30, 31, 32, 33, 34, 35, 36, 37, 38, 53, 54, 55, 56, 57, 58, 59, 60, 61, 62, 63, 64, 65] (by decide +kernel) (by decide +kernel)
set_option maxRecDepth 20000 in
theorem gX7_cell_X7_find : GoodIn wsX7_cell (wsV RX7 78 RX7 yX7_find wsX7_find) := goodIn_app (goodIn_of _ (by decide +kernel)) ggX7_cell_X7_find
theorem dX7_cell_0 : decode cX7_cell 0 = .ok (.aload_n 0, 1) := by decide +kernel
theorem dX7_cell_1 : decode cX7_cell 1 = .ok (.iload_n 1, 1) := by decide +kernel
theorem dX7_cell_2 : decode cX7_cell 2 = .ok (.iload_n 2, 1) := by decide +kernel
theorem dX7_cell_3 : decode cX7_cell 3 = .ok (.invokevirtual 78, 3) := by decide +kernel
theorem dX7_cell_6 : decode cX7_cell 6 = .ok (.astore 4, 2) := by decide +kernel
theorem dX7_cell_8 : decode cX7_cell 8 = .ok (.aload 4, 2) := by decide +kernel
theorem dX7_cell_10 : decode cX7_cell 10 = .ok (.ifnull 13, 3) := by decide +kernel
theorem dX7_cell_13 : decode cX7_cell 13 = .ok (.iload_n 3, 1) := by decide +kernel
theorem dX7_cell_14 : decode cX7_cell 14 = .ok (.ifCond .lt 9, 3) := by decide +kernel
theorem dX7_cell_17 : decode cX7_cell 17 = .ok (.iload_n 3, 1) := by decide +kernel
theorem dX7_cell_18 : decode cX7_cell 18 = .ok (.bipush 8, 2) := by decide +kernel
theorem dX7_cell_20 : decode cX7_cell 20 = .ok (.if_icmp .lt 5, 3) := by decide +kernel
theorem dX7_cell_23 : decode cX7_cell 23 = .ok (.iconst (-1), 1) := by decide +kernel
theorem dX7_cell_24 : decode cX7_cell 24 = .ok (.ireturn, 1) := by decide +kernel
theorem dX7_cell_25 : decode cX7_cell 25 = .ok (.aload 4, 2) := by decide +kernel
theorem dX7_cell_27 : decode cX7_cell 27 = .ok (.getfield 97, 3) := by decide +kernel
theorem dX7_cell_30 : decode cX7_cell 30 = .ok (.iload_n 3, 1) := by decide +kernel
theorem dX7_cell_31 : decode cX7_cell 31 = .ok (.iaload, 1) := by decide +kernel
theorem dX7_cell_32 : decode cX7_cell 32 = .ok (.ireturn, 1) := by decide +kernel
set_option maxRecDepth 20000 in
theorem ggX7_about_X7_find : GoodIn wsX7_about wsX7_find := goodIn_r _ [6, 7, 8, 9, 10, 11, 5, 12, 13, 14, 15, 16, 17, 18, 19, 20, 21, 22, 23, 24, 25, 26, 27, 28, 29, 30, 31, 32, 33, 34, 35, 36, 37, 38, 39, 57, 58, 59, 60, 61, 62, 63, 64, 65, 66, 67, 68, 69] (by decide +kernel) (by decide +kernel)
set_option maxRecDepth 20000 in
theorem gX7_about_X7_find : GoodIn wsX7_about (wsV RX7 78 RX7 yX7_find wsX7_find) := goodIn_app (goodIn_of _ (by decide +kernel)) ggX7_about_X7_find
theorem dX7_about_0 : decode cX7_about 0 = .ok (.aload_n 0, 1) := by decide +kernel
theorem dX7_about_1 : decode cX7_about 1 = .ok (.iload_n 1, 1) := by decide +kernel
theorem dX7_about_2 : decode cX7_about 2 = .ok (.iload_n 2, 1) := by decide +kernel
theorem dX7_about_3 : decode cX7_about 3 = .ok (.invokevirtual 78, 3) := by decide +kernel
theorem dX7_about_6 : decode cX7_about 6 = .ok (.astore 4, 2) := by decide +kernel
theorem dX7_about_8 : decode cX7_about 8 = .ok (.aload 4, 2) := by decide +kernel
theorem dX7_about_10 : decode cX7_about 10 = .ok (.ifnonnull 5, 3) := by decide +kernel
theorem dX7_about_13 : decode cX7_about 13 = .ok (.iconst (-1), 1) := by decide +kernel
theorem dX7_about_14 : decode cX7_about 14 = .ok (.ireturn, 1) := by decide +kernel
theorem dX7_about_15 : decode cX7_about 15 = .ok (.iload_n 3, 1) := by decide +kernel
theorem dX7_about_16 : decode cX7_about 16 = .ok (.tableswitch 94 0 4 #[36, 57, 71, 82, 88], 36) := by decide +kernel
theorem dX7_about_52 : decode cX7_about 52 = .ok (.aload 4, 2) := by decide +kernel
theorem dX7_about_54 : decode cX7_about 54 = .ok (.getfield 100, 3) := by decide +kernel
theorem dX7_about_57 : decode cX7_about 57 = .ok (.ifnonnull 7, 3) := by decide +kernel
theorem dX7_about_60 : decode cX7_about 60 = .ok (.iconst 0, 1) := by decide +kernel
theorem dX7_about_61 : decode cX7_about 61 = .ok (.goto 11, 3) := by decide +kernel
theorem dX7_about_64 : decode cX7_about 64 = .ok (.aload 4, 2) := by decide +kernel
theorem dX7_about_66 : decode cX7_about 66 = .ok (.getfield 100, 3) := by decide +kernel
theorem dX7_about_69 : decode cX7_about 69 = .ok (.getfield 94, 3) := by decide +kernel
theorem dX7_about_72 : decode cX7_about 72 = .ok (.ireturn, 1) := by decide +kernel
theorem dX7_about_73 : decode cX7_about 73 = .ok (.aload 4, 2) := by decide +kernel
theorem dX7_about_75 : decode cX7_about 75 = .ok (.getfield 90, 3) := by decide +kernel
theorem dX7_about_78 : decode cX7_about 78 = .ok (.ifnonnull 7, 3) := by decide +kernel
theorem dX7_about_81 : decode cX7_about 81 = .ok (.iconst 0, 1) := by decide +kernel
theorem dX7_about_82 : decode cX7_about 82 = .ok (.goto 4, 3) := by decide +kernel
theorem dX7_about_85 : decode cX7_about 85 = .ok (.iconst 1, 1) := by decide +kernel
theorem dX7_about_86 : decode cX7_about 86 = .ok (.ireturn, 1) := by decide +kernel
theorem dX7_about_87 : decode cX7_about 87 = .ok (.aload 4, 2) := by decide +kernel
theorem dX7_about_89 : decode cX7_about 89 = .ok (.getfield 102, 3) := by decide +kernel
theorem dX7_about_92 : decode cX7_about 92 = .ok (.aload_n 0, 1) := by decide +kernel
theorem dX7_about_93 : decode cX7_about 93 = .ok (.getfield 54, 3) := by decide +kernel
theorem dX7_about_96 : decode cX7_about 96 = .ok (.iaload, 1) := by decide +kernel
theorem dX7_about_97 : decode cX7_about 97 = .ok (.ireturn, 1) := by decide +kernel
theorem dX7_about_98 : decode cX7_about 98 = .ok (.aload 4, 2) := by decide +kernel
theorem dX7_about_100 : decode cX7_about 100 = .ok (.getfield 105, 3) := by decide +kernel
theorem dX7_about_103 : decode cX7_about 103 = .ok (.ireturn, 1) := by decide +kernel
theorem dX7_about_104 : decode cX7_about 104 = .ok (.aload 4, 2) := by decide +kernel
theorem dX7_about_106 : decode cX7_about 106 = .ok (.getfield 108, 3) := by decide +kernel
theorem dX7_about_109 : decode cX7_about 109 = .ok (.ireturn, 1) := by decide +kernel
theorem dX7_about_110 : decode cX7_about 110 = .ok (.iconst (-1), 1) := by decide +kernel
theorem dX7_about_111 : decode cX7_about 111 = .ok (.ireturn, 1) := by decide +kernel
theorem dX7_set_0 : decode cX7_set 0 = .ok (.iload_n 1, 1) := by decide +kernel
theorem dX7_set_1 : decode cX7_set 1 = .ok (.ifCond .lt 9, 3) := by decide +kernel
theorem dX7_set_4 : decode cX7_set 4 = .ok (.iload_n 1, 1) := by decide +kernel
theorem dX7_set_5 : decode cX7_set 5 = .ok (.bipush 7, 2) := by decide +kernel
theorem dX7_set_7 : decode cX7_set 7 = .ok (.if_icmp .lt 5, 3) := by decide +kernel
theorem dX7_set_10 : decode cX7_set 10 = .ok (.iconst (-1), 1) := by decide +kernel
theorem dX7_set_11 : decode cX7_set 11 = .ok (.ireturn, 1) := by decide +kernel
theorem dX7_set_12 : decode cX7_set 12 = .ok (.iload_n 2, 1) := by decide +kernel
theorem dX7_set_13 : decode cX7_set 13 = .ok (.getstatic 111, 3) := by decide +kernel
theorem dX7_set_16 : decode cX7_set 16 = .ok (.iload_n 1, 1) := by decide +kernel
theorem dX7_set_17 : decode cX7_set 17 = .ok (.iaload, 1) := by decide +kernel
theorem dX7_set_18 : decode cX7_set 18 = .ok (.if_icmp .lt 12, 3) := by decide +kernel
theorem dX7_set_21 : decode cX7_set 21 = .ok (.iload_n 2, 1) := by decide +kernel
theorem dX7_set_22 : decode cX7_set 22 = .ok (.getstatic 114, 3) := by decide +kernel
theorem dX7_set_25 : decode cX7_set 25 = .ok (.iload_n 1, 1) := by decide +kernel
theorem dX7_set_26 : decode cX7_set 26 = .ok (.iaload, 1) := by decide +kernel
theorem dX7_set_27 : decode cX7_set 27 = .ok (.if_icmp .le 6, 3) := by decide +kernel
theorem dX7_set_30 : decode cX7_set 30 = .ok (.bipush (-2), 2) := by decide +kernel
theorem dX7_set_32 : decode cX7_set 32 = .ok (.ireturn, 1) := by decide +kernel
theorem dX7_set_33 : decode cX7_set 33 = .ok (.aload_n 0, 1) := by decide +kernel
theorem dX7_set_34 : decode cX7_set 34 = .ok (.getfield 54, 3) := by decide +kernel
theorem dX7_set_37 : decode cX7_set 37 = .ok (.ifCond .le 16, 3) := by decide +kernel
theorem dX7_set_40 : decode cX7_set 40 = .ok (.iload_n 1, 1) := by decide +kernel
theorem dX7_set_41 : decode cX7_set 41 = .ok (.iconst 1, 1) := by decide +kernel
theorem dX7_set_42 : decode cX7_set 42 = .ok (.if_icmp .eq 8, 3) := by decide +kernel
theorem dX7_set_45 : decode cX7_set 45 = .ok (.iload_n 1, 1) := by decide +kernel
theorem dX7_set_46 : decode cX7_set 46 = .ok (.iconst 2, 1) := by decide +kernel
theorem dX7_set_47 : decode cX7_set 47 = .ok (.if_icmp .ne 6, 3) := by decide +kernel
theorem dX7_set_50 : decode cX7_set 50 = .ok (.bipush (-3), 2) := by decide +kernel
theorem dX7_set_52 : decode cX7_set 52 = .ok (.ireturn, 1) := by decide +kernel
theorem dX7_set_53 : decode cX7_set 53 = .ok (.aload_n 0, 1) := by decide +kernel
theorem dX7_set_54 : decode cX7_set 54 = .ok (.getfield 7, 3) := by decide +kernel
theorem dX7_set_57 : decode cX7_set 57 = .ok (.iload_n 1, 1) := by decide +kernel
theorem dX7_set_58 : decode cX7_set 58 = .ok (.iaload, 1) := by decide +kernel
theorem dX7_set_59 : decode cX7_set 59 = .ok (.istore_n 3, 1) := by decide +kernel
theorem dX7_set_60 : decode cX7_set 60 = .ok (.aload_n 0, 1) := by decide +kernel
theorem dX7_set_61 : decode cX7_set 61 = .ok (.getfield 7, 3) := by decide +kernel
theorem dX7_set_64 : decode cX7_set 64 = .ok (.iload_n 1, 1) := by decide +kernel
theorem dX7_set_65 : decode cX7_set 65 = .ok (.iload_n 2, 1) := by decide +kernel
theorem dX7_set_66 : decode cX7_set 66 = .ok (.iastore, 1) := by decide +kernel
theorem dX7_set_67 : decode cX7_set 67 = .ok (.iload_n 3, 1) := by decide +kernel
theorem dX7_set_68 : decode cX7_set 68 = .ok (.ireturn, 1) := by decide +kernel
set_option maxRecDepth 20000 in
theorem ggX7_letter_X7_find : GoodIn wsX7_letter wsX7_find := goodIn_r _ [9, 10, 11, 12, 13, 14, 8, 15, 16, 17, 18, 19, 20, 21, 22, 23, 24, 25, 26, 27, 28, 29, 30, 31, 32, 33, 34, 35, 36, 37, 38, 39, 40, 41, 42, 96, 97, 98, 99, 100, 101, 102, 103, 104, 105, 110, 111, 112] (by decide +kernel) (by decide +kernel)
set_option maxRecDepth 20000 in
theorem gX7_letter_X7_find : GoodIn wsX7_letter (wsV RX7 78 RX7 yX7_find wsX7_find) := goodIn_app (goodIn_of _ (by decide +kernel)) ggX7_letter_X7_find
set_option maxRecDepth 20000 in
theorem ggX7_letter_X7_isTeam : GoodIn wsX7_letter wsX7_isTeam := goodIn_r _ [15, 16, 17, 18, 8, 19, 10, 20, 21, 22, 23, 24, 25, 96, 97, 98, 99, 100, 101, 102, 103, 104, 105, 110, 111, 112] (by decide +kernel) (by decide +kernel)
set_option maxRecDepth 20000 in
theorem gX7_letter_X7_isTeam : GoodIn wsX7_letter (wsV RX7 117 RX7 yX7_isTeam wsX7_isTeam) := goodIn_app (goodIn_of _ (by decide +kernel)) ggX7_letter_X7_isTeam
set_option maxRecDepth 20000 in
theorem ggX7_letter_X7_isNumber : GoodIn wsX7_letter wsX7_isNumber := goodIn_r _ [45] (by decide +kernel) (by decide +kernel)
set_option maxRecDepth 20000 in
theorem gX7_letter_X7_isNumber : GoodIn wsX7_letter (va_wsS RX7 121 yX7_isNumber wsX7_isNumber) := goodIn_app (goodIn_of _ (by decide +kernel)) ggX7_letter_X7_isNumber
set_option maxRecDepth 20000 in
theorem ggX7_letter_X2_keep : GoodIn wsX7_letter wsX2_keep := goodIn_r _ [49, 50, 51, 52, 53, 106, 107, 108, 109, 113, 114, 115, 116, 117, 118, 119, 120, 121, 122, 123, 124, 125, 126] (by decide +kernel) (by decide +kernel)
set_option maxRecDepth 20000 in
theorem gX7_letter_X2_keep_n125 : GoodIn wsX7_letter (wsX2_keep) := ggX7_letter_X2_keep
set_option maxRecDepth 20000 in
theorem ggX7_letter_X1_deliver : GoodIn wsX7_letter wsX1_deliver := goodIn_r _ [57, 58, 59, 60, 61, 62, 63, 64, 65, 66, 67, 68, 55, 69, 70, 71, 72, 73, 74, 75, 76, 77, 78, 79, 80, 81, 82, 83, 84, 85, 86, 87, 88, 89, 90, 91, 92, 93, 94, 95, 113, 114, 115, 116, 117, 118, 119, 120, 121, 122, 123, 124, 125, 126, 127, 128, 129, 130, 131, 132, 133, 134, 135] (by decide +kernel) (by decide +kernel)
set_option maxRecDepth 20000 in
theorem gX7_letter_X1_deliver_n132 : GoodIn wsX7_letter (wsX1_deliver) := ggX7_letter_X1_deliver
theorem dX7_letter_0 : decode cX7_letter 0 = .ok (.aload_n 0, 1) := by decide +kernel
theorem dX7_letter_1 : decode cX7_letter 1 = .ok (.iload_n 2, 1) := by decide +kernel
theorem dX7_letter_2 : decode cX7_letter 2 = .ok (.iload_n 3, 1) := by decide +kernel
theorem dX7_letter_3 : decode cX7_letter 3 = .ok (.invokevirtual 78, 3) := by decide +kernel
theorem dX7_letter_6 : decode cX7_letter 6 = .ok (.astore 6, 2) := by decide +kernel
theorem dX7_letter_8 : decode cX7_letter 8 = .ok (.aload_n 0, 1) := by decide +kernel
theorem dX7_letter_9 : decode cX7_letter 9 = .ok (.iload_n 1, 1) := by decide +kernel
theorem dX7_letter_10 : decode cX7_letter 10 = .ok (.invokevirtual 117, 3) := by decide +kernel
theorem dX7_letter_13 : decode cX7_letter 13 = .ok (.ifCond .eq 8, 3) := by decide +kernel
theorem dX7_letter_16 : decode cX7_letter 16 = .ok (.aload 6, 2) := by decide +kernel
theorem dX7_letter_18 : decode cX7_letter 18 = .ok (.ifnonnull 5, 3) := by decide +kernel
theorem dX7_letter_21 : decode cX7_letter 21 = .ok (.iconst (-1), 1) := by decide +kernel
theorem dX7_letter_22 : decode cX7_letter 22 = .ok (.ireturn, 1) := by decide +kernel
theorem dX7_letter_23 : decode cX7_letter 23 = .ok (.iload 4, 2) := by decide +kernel
theorem dX7_letter_25 : decode cX7_letter 25 = .ok (.invokestatic 121, 3) := by decide +kernel
theorem dX7_letter_28 : decode cX7_letter 28 = .ok (.ifCond .eq 11, 3) := by decide +kernel
theorem dX7_letter_31 : decode cX7_letter 31 = .ok (.iload 5, 2) := by decide +kernel
theorem dX7_letter_33 : decode cX7_letter 33 = .ok (.invokestatic 121, 3) := by decide +kernel
theorem dX7_letter_36 : decode cX7_letter 36 = .ok (.ifCond .ne 6, 3) := by decide +kernel
theorem dX7_letter_39 : decode cX7_letter 39 = .ok (.bipush (-2), 2) := by decide +kernel
theorem dX7_letter_41 : decode cX7_letter 41 = .ok (.ireturn, 1) := by decide +kernel
theorem dX7_letter_42 : decode cX7_letter 42 = .ok (.aload_n 0, 1) := by decide +kernel
theorem dX7_letter_43 : decode cX7_letter 43 = .ok (.getfield 47, 3) := by decide +kernel
theorem dX7_letter_46 : decode cX7_letter 46 = .ok (.getfield 124, 3) := by decide +kernel
theorem dX7_letter_49 : decode cX7_letter 49 = .ok (.sipush 400, 3) := by decide +kernel
theorem dX7_letter_52 : decode cX7_letter 52 = .ok (.if_icmp .lt 6, 3) := by decide +kernel
theorem dX7_letter_55 : decode cX7_letter 55 = .ok (.bipush (-4), 2) := by decide +kernel
theorem dX7_letter_57 : decode cX7_letter 57 = .ok (.ireturn, 1) := by decide +kernel
theorem dX7_letter_58 : decode cX7_letter 58 = .ok (.aload_n 0, 1) := by decide +kernel
theorem dX7_letter_59 : decode cX7_letter 59 = .ok (.getfield 47, 3) := by decide +kernel
theorem dX7_letter_62 : decode cX7_letter 62 = .ok (.aload 6, 2) := by decide +kernel
theorem dX7_letter_64 : decode cX7_letter 64 = .ok (.iload 4, 2) := by decide +kernel
theorem dX7_letter_66 : decode cX7_letter 66 = .ok (.iload 5, 2) := by decide +kernel
theorem dX7_letter_68 : decode cX7_letter 68 = .ok (.invokevirtual 125, 3) := by decide +kernel
theorem dX7_letter_71 : decode cX7_letter 71 = .ok (.aload_n 0, 1) := by decide +kernel
theorem dX7_letter_72 : decode cX7_letter 72 = .ok (.dup, 1) := by decide +kernel
theorem dX7_letter_73 : decode cX7_letter 73 = .ok (.getfield 129, 3) := by decide +kernel
theorem dX7_letter_76 : decode cX7_letter 76 = .ok (.iconst 1, 1) := by decide +kernel
theorem dX7_letter_77 : decode cX7_letter 77 = .ok (.iadd, 1) := by decide +kernel
theorem dX7_letter_78 : decode cX7_letter 78 = .ok (.putfield 129, 3) := by decide +kernel
theorem dX7_letter_81 : decode cX7_letter 81 = .ok (.aload_n 0, 1) := by decide +kernel
theorem dX7_letter_82 : decode cX7_letter 82 = .ok (.getfield 40, 3) := by decide +kernel
theorem dX7_letter_85 : decode cX7_letter 85 = .ok (.aload 6, 2) := by decide +kernel
theorem dX7_letter_87 : decode cX7_letter 87 = .ok (.iload 4, 2) := by decide +kernel
theorem dX7_letter_89 : decode cX7_letter 89 = .ok (.iload 5, 2) := by decide +kernel
theorem dX7_letter_91 : decode cX7_letter 91 = .ok (.aload_n 0, 1) := by decide +kernel
theorem dX7_letter_92 : decode cX7_letter 92 = .ok (.getfield 7, 3) := by decide +kernel
theorem dX7_letter_95 : decode cX7_letter 95 = .ok (.iconst 0, 1) := by decide +kernel
theorem dX7_letter_96 : decode cX7_letter 96 = .ok (.iaload, 1) := by decide +kernel
theorem dX7_letter_97 : decode cX7_letter 97 = .ok (.invokevirtual 132, 3) := by decide +kernel
theorem dX7_letter_100 : decode cX7_letter 100 = .ok (.ireturn, 1) := by decide +kernel
set_option maxRecDepth 20000 in
theorem ggX7_round_Jx4a65c_isEmpty_aae02 : GoodIn wsX7_round wsJx4a65c_isEmpty_aae02 := goodIn_r _ [9, 10, 151, 152, 153] (by decide +kernel) (by decide +kernel)
set_option maxRecDepth 20000 in
theorem gX7_round_Jx4a65c_isEmpty_aae02 : GoodIn wsX7_round (wsV RX7 136 RJx4a65c yJx4a65c_isEmpty_aae02 wsJx4a65c_isEmpty_aae02) := goodIn_app (goodIn_of _ (by decide +kernel)) ggX7_round_Jx4a65c_isEmpty_aae02
set_option maxRecDepth 20000 in
theorem ggX7_round_Jx4a65c_size_8abf5 : GoodIn wsX7_round wsJx4a65c_size_8abf5 := goodIn_r _ [14, 10, 151, 152, 153] (by decide +kernel) (by decide +kernel)
set_option maxRecDepth 20000 in
theorem gX7_round_Jx4a65c_size_8abf5 : GoodIn wsX7_round (wsV RX7 140 RJx4a65c yJx4a65c_size_8abf5 wsJx4a65c_size_8abf5) := goodIn_app (goodIn_of _ (by decide +kernel)) ggX7_round_Jx4a65c_size_8abf5
set_option maxRecDepth 20000 in
theorem ggX7_round_Jx4a65c_get_915e3 : GoodIn wsX7_round wsJx4a65c_get_915e3 := goodIn_r _ [18, 10, 19, 20, 21, 22, 23, 24, 25, 26, 27, 28, 29, 8, 30, 31, 151, 152, 153] (by decide +kernel) (by decide +kernel)
set_option maxRecDepth 20000 in
theorem gX7_round_Jx4a65c_get_915e3 : GoodIn wsX7_round (wsV RX7 142 RJx4a65c yJx4a65c_get_915e3 wsJx4a65c_get_915e3) := goodIn_app (goodIn_of _ (by decide +kernel)) ggX7_round_Jx4a65c_get_915e3
set_option maxRecDepth 20000 in
theorem ggX7_round_X5_takePatch : GoodIn wsX7_round wsX5_takePatch := goodIn_r _ [35, 36, 37, 133, 134, 135, 136, 137, 138, 139, 140, 141, 142, 143, 144, 145, 146] (by decide +kernel) (by decide +kernel)
set_option maxRecDepth 20000 in
theorem gX7_round_X5_takePatch_n146 : GoodIn wsX7_round (wsX5_takePatch) := ggX7_round_X5_takePatch
set_option maxRecDepth 20000 in
theorem ggX7_round_X7_writeChecks : GoodIn wsX7_round wsX7_writeChecks := goodIn_r _ [42, 2, 43, 44, 45, 46, 47, 48, 41, 49, 50, 51, 52, 53, 54, 55, 56, 57, 58, 59, 60, 61, 62, 63, 64, 65, 66, 67, 68, 69, 70, 71, 72, 73, 74, 75, 76, 77, 78, 79, 80, 81, 82, 83, 84, 85, 86, 87, 88, 89, 90, 91, 92, 93, 94, 95, 96, 97, 98, 99, 100, 101, 102, 33, 103, 104, 105, 106, 107, 108, 123, 124, 125, 126, 127, 128, 129, 130, 131, 132, 133, 134, 135, 136, 137, 138, 139, 140, 141, 142, 143, 144, 145, 146, 154, 155, 156, 157, 158, 159, 160, 161, 162] (by decide +kernel) (by decide +kernel)
set_option maxRecDepth 20000 in
theorem gX7_round_X7_writeChecks : GoodIn wsX7_round (wsV RX7 149 RX7 yX7_writeChecks wsX7_writeChecks) := goodIn_app (goodIn_of _ (by decide +kernel)) ggX7_round_X7_writeChecks
set_option maxRecDepth 20000 in
theorem ggX7_round_X2_countLikeChecks : GoodIn wsX7_round wsX2_countLikeChecks := goodIn_r _ [112, 113, 114, 115, 116, 117, 118, 12, 13, 8, 14, 10, 119, 16, 17, 18, 19, 20, 21, 22, 23, 24, 25, 26, 27, 28, 29, 30, 31, 120, 33, 121, 122, 105, 106, 147, 148, 149, 150, 133, 134, 135, 136, 137, 138, 139, 140, 141, 142, 143, 144, 145, 146, 151, 152, 153] (by decide +kernel) (by decide +kernel)
set_option maxRecDepth 20000 in
theorem gX7_round_X2_countLikeChecks_n156 : GoodIn wsX7_round (wsX2_countLikeChecks) := ggX7_round_X2_countLikeChecks
theorem dX7_round_0 : decode cX7_round 0 = .ok (.aload_n 0, 1) := by decide +kernel
theorem dX7_round_1 : decode cX7_round 1 = .ok (.getfield 16, 3) := by decide +kernel
theorem dX7_round_4 : decode cX7_round 4 = .ok (.invokevirtual 136, 3) := by decide +kernel
theorem dX7_round_7 : decode cX7_round 7 = .ok (.ifCond .eq 6, 3) := by decide +kernel
theorem dX7_round_10 : decode cX7_round 10 = .ok (.bipush (-3), 2) := by decide +kernel
theorem dX7_round_12 : decode cX7_round 12 = .ok (.ireturn, 1) := by decide +kernel
theorem dX7_round_13 : decode cX7_round 13 = .ok (.aload_n 0, 1) := by decide +kernel
theorem dX7_round_14 : decode cX7_round 14 = .ok (.getfield 54, 3) := by decide +kernel
theorem dX7_round_17 : decode cX7_round 17 = .ok (.bipush 100, 2) := by decide +kernel
theorem dX7_round_19 : decode cX7_round 19 = .ok (.if_icmp .lt 6, 3) := by decide +kernel
theorem dX7_round_22 : decode cX7_round 22 = .ok (.bipush (-4), 2) := by decide +kernel
theorem dX7_round_24 : decode cX7_round 24 = .ok (.ireturn, 1) := by decide +kernel
theorem dX7_round_25 : decode cX7_round 25 = .ok (.iconst 0, 1) := by decide +kernel
theorem dX7_round_26 : decode cX7_round 26 = .ok (.istore_n 1, 1) := by decide +kernel
theorem dX7_round_27 : decode cX7_round 27 = .ok (.iconst 0, 1) := by decide +kernel
theorem dX7_round_28 : decode cX7_round 28 = .ok (.istore_n 2, 1) := by decide +kernel
theorem dX7_round_29 : decode cX7_round 29 = .ok (.iload_n 2, 1) := by decide +kernel
theorem dX7_round_30 : decode cX7_round 30 = .ok (.aload_n 0, 1) := by decide +kernel
theorem dX7_round_31 : decode cX7_round 31 = .ok (.getfield 16, 3) := by decide +kernel
theorem dX7_round_34 : decode cX7_round 34 = .ok (.invokevirtual 140, 3) := by decide +kernel
theorem dX7_round_37 : decode cX7_round 37 = .ok (.if_icmp .ge 73, 3) := by decide +kernel
theorem dX7_round_40 : decode cX7_round 40 = .ok (.aload_n 0, 1) := by decide +kernel
theorem dX7_round_41 : decode cX7_round 41 = .ok (.getfield 16, 3) := by decide +kernel
theorem dX7_round_44 : decode cX7_round 44 = .ok (.iload_n 2, 1) := by decide +kernel
theorem dX7_round_45 : decode cX7_round 45 = .ok (.invokevirtual 142, 3) := by decide +kernel
theorem dX7_round_48 : decode cX7_round 48 = .ok (.checkcast 62, 3) := by decide +kernel
theorem dX7_round_51 : decode cX7_round 51 = .ok (.astore_n 3, 1) := by decide +kernel
theorem dX7_round_52 : decode cX7_round 52 = .ok (.aload_n 3, 1) := by decide +kernel
theorem dX7_round_53 : decode cX7_round 53 = .ok (.invokevirtual 146, 3) := by decide +kernel
theorem dX7_round_56 : decode cX7_round 56 = .ok (.aload_n 0, 1) := by decide +kernel
theorem dX7_round_57 : decode cX7_round 57 = .ok (.aload_n 3, 1) := by decide +kernel
theorem dX7_round_58 : decode cX7_round 58 = .ok (.invokevirtual 149, 3) := by decide +kernel
theorem dX7_round_61 : decode cX7_round 61 = .ok (.ifCond .eq 7, 3) := by decide +kernel
theorem dX7_round_64 : decode cX7_round 64 = .ok (.iconst 1, 1) := by decide +kernel
theorem dX7_round_65 : decode cX7_round 65 = .ok (.goto 4, 3) := by decide +kernel
theorem dX7_round_68 : decode cX7_round 68 = .ok (.iconst 0, 1) := by decide +kernel
theorem dX7_round_69 : decode cX7_round 69 = .ok (.istore 4, 2) := by decide +kernel
theorem dX7_round_71 : decode cX7_round 71 = .ok (.aload_n 3, 1) := by decide +kernel
theorem dX7_round_72 : decode cX7_round 72 = .ok (.getfield 102, 3) := by decide +kernel
theorem dX7_round_75 : decode cX7_round 75 = .ok (.aload_n 0, 1) := by decide +kernel
theorem dX7_round_76 : decode cX7_round 76 = .ok (.getfield 54, 3) := by decide +kernel
theorem dX7_round_79 : decode cX7_round 79 = .ok (.iconst 1, 1) := by decide +kernel
theorem dX7_round_80 : decode cX7_round 80 = .ok (.iadd, 1) := by decide +kernel
theorem dX7_round_81 : decode cX7_round 81 = .ok (.aload_n 3, 1) := by decide +kernel
theorem dX7_round_82 : decode cX7_round 82 = .ok (.getfield 102, 3) := by decide +kernel
theorem dX7_round_85 : decode cX7_round 85 = .ok (.aload_n 0, 1) := by decide +kernel
theorem dX7_round_86 : decode cX7_round 86 = .ok (.getfield 54, 3) := by decide +kernel
theorem dX7_round_89 : decode cX7_round 89 = .ok (.iaload, 1) := by decide +kernel
theorem dX7_round_90 : decode cX7_round 90 = .ok (.iload 4, 2) := by decide +kernel
theorem dX7_round_92 : decode cX7_round 92 = .ok (.iadd, 1) := by decide +kernel
theorem dX7_round_93 : decode cX7_round 93 = .ok (.iastore, 1) := by decide +kernel
theorem dX7_round_94 : decode cX7_round 94 = .ok (.aload_n 3, 1) := by decide +kernel
theorem dX7_round_95 : decode cX7_round 95 = .ok (.iconst 0, 1) := by decide +kernel
theorem dX7_round_96 : decode cX7_round 96 = .ok (.putfield 153, 3) := by decide +kernel
theorem dX7_round_99 : decode cX7_round 99 = .ok (.iload_n 1, 1) := by decide +kernel
theorem dX7_round_100 : decode cX7_round 100 = .ok (.iload 4, 2) := by decide +kernel
theorem dX7_round_102 : decode cX7_round 102 = .ok (.iadd, 1) := by decide +kernel
theorem dX7_round_103 : decode cX7_round 103 = .ok (.istore_n 1, 1) := by decide +kernel
theorem dX7_round_104 : decode cX7_round 104 = .ok (.iinc 2 1, 3) := by decide +kernel
theorem dX7_round_107 : decode cX7_round 107 = .ok (.goto (-78), 3) := by decide +kernel
theorem dX7_round_110 : decode cX7_round 110 = .ok (.aload_n 0, 1) := by decide +kernel
theorem dX7_round_111 : decode cX7_round 111 = .ok (.getfield 47, 3) := by decide +kernel
theorem dX7_round_114 : decode cX7_round 114 = .ok (.aload_n 0, 1) := by decide +kernel
theorem dX7_round_115 : decode cX7_round 115 = .ok (.getfield 16, 3) := by decide +kernel
theorem dX7_round_118 : decode cX7_round 118 = .ok (.invokevirtual 156, 3) := by decide +kernel
theorem dX7_round_121 : decode cX7_round 121 = .ok (.aload_n 0, 1) := by decide +kernel
theorem dX7_round_122 : decode cX7_round 122 = .ok (.getfield 47, 3) := by decide +kernel
theorem dX7_round_125 : decode cX7_round 125 = .ok (.iconst 0, 1) := by decide +kernel
theorem dX7_round_126 : decode cX7_round 126 = .ok (.putfield 124, 3) := by decide +kernel
theorem dX7_round_129 : decode cX7_round 129 = .ok (.aload_n 0, 1) := by decide +kernel
theorem dX7_round_130 : decode cX7_round 130 = .ok (.dup, 1) := by decide +kernel
theorem dX7_round_131 : decode cX7_round 131 = .ok (.getfield 54, 3) := by decide +kernel
theorem dX7_round_134 : decode cX7_round 134 = .ok (.iconst 1, 1) := by decide +kernel
theorem dX7_round_135 : decode cX7_round 135 = .ok (.iadd, 1) := by decide +kernel
theorem dX7_round_136 : decode cX7_round 136 = .ok (.putfield 54, 3) := by decide +kernel
theorem dX7_round_139 : decode cX7_round 139 = .ok (.iload_n 1, 1) := by decide +kernel
theorem dX7_round_140 : decode cX7_round 140 = .ok (.ireturn, 1) := by decide +kernel
set_option maxRecDepth 20000 in
theorem ggX7_up_X7_find : GoodIn wsX7_up wsX7_find := goodIn_r _ [5, 6, 7, 8, 9, 10, 4, 11, 12, 13, 14, 15, 16, 17, 18, 19, 20, 21, 22, 23, 24, 25, 26, 27, 28, 29, 30, 31, 32, 33, 34, 35, 36, 37, 38, 58, 59, 60, 61, 62, 63, 64, 65, 66, 67, 68, 69, 70] (by decide +kernel) (by decide +kernel)
set_option maxRecDepth 20000 in
theorem gX7_up_X7_find : GoodIn wsX7_up (wsV RX7 78 RX7 yX7_find wsX7_find) := goodIn_app (goodIn_of _ (by decide +kernel)) ggX7_up_X7_find
set_option maxRecDepth 20000 in
theorem ggX7_up_X7_wasRound : GoodIn wsX7_up wsX7_wasRound := goodIn_r _ [42, 43, 58, 59, 60, 61, 62, 63, 64, 65, 66, 67] (by decide +kernel) (by decide +kernel)
set_option maxRecDepth 20000 in
theorem gX7_up_X7_wasRound : GoodIn wsX7_up (wsV RX7 160 RX7 yX7_wasRound wsX7_wasRound) := goodIn_app (goodIn_of _ (by decide +kernel)) ggX7_up_X7_wasRound
theorem dX7_up_0 : decode cX7_up 0 = .ok (.aload_n 0, 1) := by decide +kernel
theorem dX7_up_1 : decode cX7_up 1 = .ok (.iload_n 1, 1) := by decide +kernel
theorem dX7_up_2 : decode cX7_up 2 = .ok (.iload_n 2, 1) := by decide +kernel
theorem dX7_up_3 : decode cX7_up 3 = .ok (.invokevirtual 78, 3) := by decide +kernel
theorem dX7_up_6 : decode cX7_up 6 = .ok (.astore 4, 2) := by decide +kernel
theorem dX7_up_8 : decode cX7_up 8 = .ok (.aload 4, 2) := by decide +kernel
theorem dX7_up_10 : decode cX7_up 10 = .ok (.ifnull 11, 3) := by decide +kernel
theorem dX7_up_13 : decode cX7_up 13 = .ok (.aload_n 0, 1) := by decide +kernel
theorem dX7_up_14 : decode cX7_up 14 = .ok (.iload_n 3, 1) := by decide +kernel
theorem dX7_up_15 : decode cX7_up 15 = .ok (.invokevirtual 160, 3) := by decide +kernel
theorem dX7_up_18 : decode cX7_up 18 = .ok (.ifCond .ne 5, 3) := by decide +kernel
theorem dX7_up_21 : decode cX7_up 21 = .ok (.iconst (-1), 1) := by decide +kernel
theorem dX7_up_22 : decode cX7_up 22 = .ok (.ireturn, 1) := by decide +kernel
theorem dX7_up_23 : decode cX7_up 23 = .ok (.aload 4, 2) := by decide +kernel
theorem dX7_up_25 : decode cX7_up 25 = .ok (.getfield 102, 3) := by decide +kernel
theorem dX7_up_28 : decode cX7_up 28 = .ok (.iload_n 3, 1) := by decide +kernel
theorem dX7_up_29 : decode cX7_up 29 = .ok (.iconst 1, 1) := by decide +kernel
theorem dX7_up_30 : decode cX7_up 30 = .ok (.iadd, 1) := by decide +kernel
theorem dX7_up_31 : decode cX7_up 31 = .ok (.iaload, 1) := by decide +kernel
theorem dX7_up_32 : decode cX7_up 32 = .ok (.aload 4, 2) := by decide +kernel
theorem dX7_up_34 : decode cX7_up 34 = .ok (.getfield 102, 3) := by decide +kernel
theorem dX7_up_37 : decode cX7_up 37 = .ok (.iload_n 3, 1) := by decide +kernel
theorem dX7_up_38 : decode cX7_up 38 = .ok (.iaload, 1) := by decide +kernel
theorem dX7_up_39 : decode cX7_up 39 = .ok (.isub, 1) := by decide +kernel
theorem dX7_up_40 : decode cX7_up 40 = .ok (.ireturn, 1) := by decide +kernel
set_option maxRecDepth 20000 in
theorem ggX7_check_X7_find : GoodIn wsX7_check wsX7_find := goodIn_r _ [6, 7, 8, 9, 10, 11, 5, 12, 13, 14, 15, 16, 17, 18, 19, 20, 21, 22, 23, 24, 25, 26, 27, 28, 29, 30, 31, 32, 33, 34, 35, 36, 37, 38, 39, 40, 41, 42, 43, 44, 45, 46, 47, 48, 49, 64, 65, 66] (by decide +kernel) (by decide +kernel)
set_option maxRecDepth 20000 in
theorem gX7_check_X7_find : GoodIn wsX7_check (wsV RX7 78 RX7 yX7_find wsX7_find) := goodIn_app (goodIn_of _ (by decide +kernel)) ggX7_check_X7_find
theorem dX7_check_0 : decode cX7_check 0 = .ok (.aload_n 0, 1) := by decide +kernel
theorem dX7_check_1 : decode cX7_check 1 = .ok (.iload_n 1, 1) := by decide +kernel
theorem dX7_check_2 : decode cX7_check 2 = .ok (.iload_n 2, 1) := by decide +kernel
theorem dX7_check_3 : decode cX7_check 3 = .ok (.invokevirtual 78, 3) := by decide +kernel
theorem dX7_check_6 : decode cX7_check 6 = .ok (.astore 5, 2) := by decide +kernel
theorem dX7_check_8 : decode cX7_check 8 = .ok (.aload 5, 2) := by decide +kernel
theorem dX7_check_10 : decode cX7_check 10 = .ok (.ifnull 19, 3) := by decide +kernel
theorem dX7_check_13 : decode cX7_check 13 = .ok (.aload_n 0, 1) := by decide +kernel
theorem dX7_check_14 : decode cX7_check 14 = .ok (.getfield 54, 3) := by decide +kernel
theorem dX7_check_17 : decode cX7_check 17 = .ok (.ifCond .eq 12, 3) := by decide +kernel
theorem dX7_check_20 : decode cX7_check 20 = .ok (.iload_n 3, 1) := by decide +kernel
theorem dX7_check_21 : decode cX7_check 21 = .ok (.ifCond .lt 8, 3) := by decide +kernel
theorem dX7_check_24 : decode cX7_check 24 = .ok (.iload_n 3, 1) := by decide +kernel
theorem dX7_check_25 : decode cX7_check 25 = .ok (.iconst 3, 1) := by decide +kernel
theorem dX7_check_26 : decode cX7_check 26 = .ok (.if_icmp .lt 5, 3) := by decide +kernel
theorem dX7_check_29 : decode cX7_check 29 = .ok (.iconst (-1), 1) := by decide +kernel
theorem dX7_check_30 : decode cX7_check 30 = .ok (.ireturn, 1) := by decide +kernel
theorem dX7_check_31 : decode cX7_check 31 = .ok (.iload 4, 2) := by decide +kernel
theorem dX7_check_33 : decode cX7_check 33 = .ok (.tableswitch 63 0 3 #[31, 39, 47, 55], 31) := by decide +kernel
theorem dX7_check_64 : decode cX7_check 64 = .ok (.aload 5, 2) := by decide +kernel
theorem dX7_check_66 : decode cX7_check 66 = .ok (.getfield 163, 3) := by decide +kernel
theorem dX7_check_69 : decode cX7_check 69 = .ok (.iload_n 3, 1) := by decide +kernel
theorem dX7_check_70 : decode cX7_check 70 = .ok (.iaload, 1) := by decide +kernel
theorem dX7_check_71 : decode cX7_check 71 = .ok (.ireturn, 1) := by decide +kernel
theorem dX7_check_72 : decode cX7_check 72 = .ok (.aload 5, 2) := by decide +kernel
theorem dX7_check_74 : decode cX7_check 74 = .ok (.getfield 166, 3) := by decide +kernel
theorem dX7_check_77 : decode cX7_check 77 = .ok (.iload_n 3, 1) := by decide +kernel
theorem dX7_check_78 : decode cX7_check 78 = .ok (.iaload, 1) := by decide +kernel
theorem dX7_check_79 : decode cX7_check 79 = .ok (.ireturn, 1) := by decide +kernel
theorem dX7_check_80 : decode cX7_check 80 = .ok (.aload 5, 2) := by decide +kernel
theorem dX7_check_82 : decode cX7_check 82 = .ok (.getfield 169, 3) := by decide +kernel
theorem dX7_check_85 : decode cX7_check 85 = .ok (.iload_n 3, 1) := by decide +kernel
theorem dX7_check_86 : decode cX7_check 86 = .ok (.iaload, 1) := by decide +kernel
theorem dX7_check_87 : decode cX7_check 87 = .ok (.ireturn, 1) := by decide +kernel
theorem dX7_check_88 : decode cX7_check 88 = .ok (.aload 5, 2) := by decide +kernel
theorem dX7_check_90 : decode cX7_check 90 = .ok (.getfield 172, 3) := by decide +kernel
theorem dX7_check_93 : decode cX7_check 93 = .ok (.iload_n 3, 1) := by decide +kernel
theorem dX7_check_94 : decode cX7_check 94 = .ok (.iaload, 1) := by decide +kernel
theorem dX7_check_95 : decode cX7_check 95 = .ok (.ireturn, 1) := by decide +kernel
theorem dX7_check_96 : decode cX7_check 96 = .ok (.iconst (-1), 1) := by decide +kernel
theorem dX7_check_97 : decode cX7_check 97 = .ok (.ireturn, 1) := by decide +kernel
set_option maxRecDepth 20000 in
theorem ggX7_flag_X7_find : GoodIn wsX7_flag wsX7_find := goodIn_r _ [5, 6, 7, 8, 9, 10, 4, 11, 12, 13, 14, 15, 16, 17, 18, 19, 20, 21, 22, 23, 24, 25, 26, 27, 28, 29, 30, 31, 32, 33, 34, 35, 36, 37, 38, 52, 53, 54, 55, 56, 57, 58, 59, 60, 61, 62, 63, 64] (by decide +kernel) (by decide +kernel)
set_option maxRecDepth 20000 in
theorem gX7_flag_X7_find : GoodIn wsX7_flag (wsV RX7 78 RX7 yX7_find wsX7_find) := goodIn_app (goodIn_of _ (by decide +kernel)) ggX7_flag_X7_find
set_option maxRecDepth 20000 in
theorem ggX7_flag_X7_wasRound : GoodIn wsX7_flag wsX7_wasRound := goodIn_r _ [42, 43, 52, 53, 54, 55, 56, 57, 58, 59, 60, 61] (by decide +kernel) (by decide +kernel)
set_option maxRecDepth 20000 in
theorem gX7_flag_X7_wasRound : GoodIn wsX7_flag (wsV RX7 160 RX7 yX7_wasRound wsX7_wasRound) := goodIn_app (goodIn_of _ (by decide +kernel)) ggX7_flag_X7_wasRound
set_option maxRecDepth 20000 in
theorem ggX7_flag_X7_mix : GoodIn wsX7_flag wsX7_mix := goodIn_r _ [47, 48, 52, 53, 54, 55, 56, 57, 58, 59, 60, 61, 65, 66, 67, 68, 69, 70, 71, 72, 73, 74, 75, 76, 77, 78] (by decide +kernel) (by decide +kernel)
set_option maxRecDepth 20000 in
theorem gX7_flag_X7_mix : GoodIn wsX7_flag (wsV RX7 175 RX7 yX7_mix wsX7_mix) := goodIn_app (goodIn_of _ (by decide +kernel)) ggX7_flag_X7_mix
set_option maxRecDepth 20000 in
theorem ggX7_flag_X7_flagOf : GoodIn wsX7_flag wsX7_flagOf := goodIn_r _ [51] (by decide +kernel) (by decide +kernel)
set_option maxRecDepth 20000 in
theorem gX7_flag_X7_flagOf : GoodIn wsX7_flag (va_wsS RX7 179 yX7_flagOf wsX7_flagOf) := goodIn_app (goodIn_of _ (by decide +kernel)) ggX7_flag_X7_flagOf
theorem dX7_flag_0 : decode cX7_flag 0 = .ok (.aload_n 0, 1) := by decide +kernel
theorem dX7_flag_1 : decode cX7_flag 1 = .ok (.iload_n 1, 1) := by decide +kernel
theorem dX7_flag_2 : decode cX7_flag 2 = .ok (.iload_n 2, 1) := by decide +kernel
theorem dX7_flag_3 : decode cX7_flag 3 = .ok (.invokevirtual 78, 3) := by decide +kernel
theorem dX7_flag_6 : decode cX7_flag 6 = .ok (.astore 4, 2) := by decide +kernel
theorem dX7_flag_8 : decode cX7_flag 8 = .ok (.aload 4, 2) := by decide +kernel
theorem dX7_flag_10 : decode cX7_flag 10 = .ok (.ifnull 11, 3) := by decide +kernel
theorem dX7_flag_13 : decode cX7_flag 13 = .ok (.aload_n 0, 1) := by decide +kernel
theorem dX7_flag_14 : decode cX7_flag 14 = .ok (.iload_n 3, 1) := by decide +kernel
theorem dX7_flag_15 : decode cX7_flag 15 = .ok (.invokevirtual 160, 3) := by decide +kernel
theorem dX7_flag_18 : decode cX7_flag 18 = .ok (.ifCond .ne 5, 3) := by decide +kernel
theorem dX7_flag_21 : decode cX7_flag 21 = .ok (.iconst (-1), 1) := by decide +kernel
theorem dX7_flag_22 : decode cX7_flag 22 = .ok (.ireturn, 1) := by decide +kernel
theorem dX7_flag_23 : decode cX7_flag 23 = .ok (.aload_n 0, 1) := by decide +kernel
theorem dX7_flag_24 : decode cX7_flag 24 = .ok (.iload_n 3, 1) := by decide +kernel
theorem dX7_flag_25 : decode cX7_flag 25 = .ok (.aload 4, 2) := by decide +kernel
theorem dX7_flag_27 : decode cX7_flag 27 = .ok (.invokevirtual 175, 3) := by decide +kernel
theorem dX7_flag_30 : decode cX7_flag 30 = .ok (.invokestatic 179, 3) := by decide +kernel
theorem dX7_flag_33 : decode cX7_flag 33 = .ok (.ireturn, 1) := by decide +kernel
set_option maxRecDepth 20000 in
theorem ggX7_hand_X7_find : GoodIn wsX7_hand wsX7_find := goodIn_r _ [10, 11, 12, 13, 14, 15, 9, 16, 17, 18, 19, 20, 21, 22, 23, 24, 25, 26, 27, 28, 29, 30, 31, 32, 33, 34, 35, 36, 37, 38, 39, 40, 41, 42, 43, 129, 130, 131, 132, 133, 134, 135, 136, 137, 138, 142, 143, 144] (by decide +kernel) (by decide +kernel)
set_option maxRecDepth 20000 in
theorem gX7_hand_X7_find : GoodIn wsX7_hand (wsV RX7 78 RX7 yX7_find wsX7_find) := goodIn_app (goodIn_of _ (by decide +kernel)) ggX7_hand_X7_find
set_option maxRecDepth 20000 in
theorem ggX7_hand_X7_isTeam : GoodIn wsX7_hand wsX7_isTeam := goodIn_r _ [16, 17, 18, 19, 9, 20, 11, 21, 22, 23, 24, 25, 26, 129, 130, 131, 132, 133, 134, 135, 136, 137, 138, 142, 143, 144] (by decide +kernel) (by decide +kernel)
set_option maxRecDepth 20000 in
theorem gX7_hand_X7_isTeam : GoodIn wsX7_hand (wsV RX7 117 RX7 yX7_isTeam wsX7_isTeam) := goodIn_app (goodIn_of _ (by decide +kernel)) ggX7_hand_X7_isTeam
set_option maxRecDepth 20000 in
theorem ggX7_hand_X7_isNumber : GoodIn wsX7_hand wsX7_isNumber := goodIn_r _ [46] (by decide +kernel) (by decide +kernel)
set_option maxRecDepth 20000 in
theorem gX7_hand_X7_isNumber : GoodIn wsX7_hand (va_wsS RX7 121 yX7_isNumber wsX7_isNumber) := goodIn_app (goodIn_of _ (by decide +kernel)) ggX7_hand_X7_isNumber
set_option maxRecDepth 20000 in
theorem ggX7_hand_X7_roundThatCounts : GoodIn wsX7_hand wsX7_roundThatCounts := goodIn_r _ [50, 1, 51, 52, 53, 54, 55, 56, 57, 58, 9, 59, 60, 61, 62, 63, 64, 65, 66, 67, 129, 130, 131, 132, 133, 134, 135, 136, 137, 138, 145, 146, 147, 148, 149, 150, 151, 152, 153, 154, 155, 156, 157, 158] (by decide +kernel) (by decide +kernel)
set_option maxRecDepth 20000 in
theorem gX7_hand_X7_roundThatCounts : GoodIn wsX7_hand (wsV RX7 183 RX7 yX7_roundThatCounts wsX7_roundThatCounts) := goodIn_app (goodIn_of _ (by decide +kernel)) ggX7_hand_X7_roundThatCounts
set_option maxRecDepth 20000 in
theorem ggX7_hand_X5_take : GoodIn wsX7_hand wsX5_take := goodIn_r _ [70, 67, 145, 146, 147, 148, 149, 150, 151, 152, 153, 154, 155, 156, 157, 158] (by decide +kernel) (by decide +kernel)
set_option maxRecDepth 20000 in
theorem gX7_hand_X5_take_n187 : GoodIn wsX7_hand (wsX5_take) := ggX7_hand_X5_take
set_option maxRecDepth 20000 in
theorem ggX7_hand_X0_init : GoodIn wsX7_hand wsX0_init := goodIn_r _ [72, 73, 74, 75, 76, 77, 78, 139, 140, 141] (by decide +kernel) (by decide +kernel)
set_option maxRecDepth 20000 in
theorem gX7_hand_X0_init_n193 : GoodIn wsX7_hand (wsX0_init) := ggX7_hand_X0_init
set_option maxRecDepth 20000 in
theorem ggX7_hand_Jx4a65c_add_9ea2d : GoodIn wsX7_hand wsJx4a65c_add_9ea2d := goodIn_r _ [82, 83, 84, 43, 26, 85, 86, 87, 24, 88, 89, 90, 91, 92, 93, 94, 95, 96, 97, 98, 53, 54, 55, 99, 100, 101, 102, 103, 104, 105, 106, 107, 108, 109, 110, 111, 112, 113, 114, 115, 116, 117, 118, 119, 120, 121, 122, 123, 124, 125, 126, 127, 128, 142, 143, 144] (by decide +kernel) (by decide +kernel)
set_option maxRecDepth 20000 in
theorem gX7_hand_Jx4a65c_add_9ea2d : GoodIn wsX7_hand (wsV RX7 67 RJx4a65c yJx4a65c_add_9ea2d wsJx4a65c_add_9ea2d) := goodIn_app (goodIn_of _ (by decide +kernel)) ggX7_hand_Jx4a65c_add_9ea2d
theorem dX7_hand_0 : decode cX7_hand 0 = .ok (.aload_n 0, 1) := by decide +kernel
theorem dX7_hand_1 : decode cX7_hand 1 = .ok (.iload_n 2, 1) := by decide +kernel
theorem dX7_hand_2 : decode cX7_hand 2 = .ok (.iload_n 3, 1) := by decide +kernel
theorem dX7_hand_3 : decode cX7_hand 3 = .ok (.invokevirtual 78, 3) := by decide +kernel
theorem dX7_hand_6 : decode cX7_hand 6 = .ok (.astore 5, 2) := by decide +kernel
theorem dX7_hand_8 : decode cX7_hand 8 = .ok (.aload_n 0, 1) := by decide +kernel
theorem dX7_hand_9 : decode cX7_hand 9 = .ok (.iload_n 1, 1) := by decide +kernel
theorem dX7_hand_10 : decode cX7_hand 10 = .ok (.invokevirtual 117, 3) := by decide +kernel
theorem dX7_hand_13 : decode cX7_hand 13 = .ok (.ifCond .eq 8, 3) := by decide +kernel
theorem dX7_hand_16 : decode cX7_hand 16 = .ok (.aload 5, 2) := by decide +kernel
theorem dX7_hand_18 : decode cX7_hand 18 = .ok (.ifnonnull 5, 3) := by decide +kernel
theorem dX7_hand_21 : decode cX7_hand 21 = .ok (.iconst (-1), 1) := by decide +kernel
theorem dX7_hand_22 : decode cX7_hand 22 = .ok (.ireturn, 1) := by decide +kernel
theorem dX7_hand_23 : decode cX7_hand 23 = .ok (.iload 4, 2) := by decide +kernel
theorem dX7_hand_25 : decode cX7_hand 25 = .ok (.invokestatic 121, 3) := by decide +kernel
theorem dX7_hand_28 : decode cX7_hand 28 = .ok (.ifCond .eq 8, 3) := by decide +kernel
theorem dX7_hand_31 : decode cX7_hand 31 = .ok (.iload_n 1, 1) := by decide +kernel
theorem dX7_hand_32 : decode cX7_hand 32 = .ok (.iload_n 2, 1) := by decide +kernel
theorem dX7_hand_33 : decode cX7_hand 33 = .ok (.if_icmp .ne 6, 3) := by decide +kernel
theorem dX7_hand_36 : decode cX7_hand 36 = .ok (.bipush (-2), 2) := by decide +kernel
theorem dX7_hand_38 : decode cX7_hand 38 = .ok (.ireturn, 1) := by decide +kernel
theorem dX7_hand_39 : decode cX7_hand 39 = .ok (.aload_n 0, 1) := by decide +kernel
theorem dX7_hand_40 : decode cX7_hand 40 = .ok (.iload_n 1, 1) := by decide +kernel
theorem dX7_hand_41 : decode cX7_hand 41 = .ok (.aload 5, 2) := by decide +kernel
theorem dX7_hand_43 : decode cX7_hand 43 = .ok (.iload 4, 2) := by decide +kernel
theorem dX7_hand_45 : decode cX7_hand 45 = .ok (.invokevirtual 183, 3) := by decide +kernel
theorem dX7_hand_48 : decode cX7_hand 48 = .ok (.istore 6, 2) := by decide +kernel
theorem dX7_hand_50 : decode cX7_hand 50 = .ok (.iload 6, 2) := by decide +kernel
theorem dX7_hand_52 : decode cX7_hand 52 = .ok (.ifCond .ge 6, 3) := by decide +kernel
theorem dX7_hand_55 : decode cX7_hand 55 = .ok (.bipush (-3), 2) := by decide +kernel
theorem dX7_hand_57 : decode cX7_hand 57 = .ok (.ireturn, 1) := by decide +kernel
theorem dX7_hand_58 : decode cX7_hand 58 = .ok (.aload 5, 2) := by decide +kernel
theorem dX7_hand_60 : decode cX7_hand 60 = .ok (.iload_n 1, 1) := by decide +kernel
theorem dX7_hand_61 : decode cX7_hand 61 = .ok (.iload 6, 2) := by decide +kernel
theorem dX7_hand_63 : decode cX7_hand 63 = .ok (.aload_n 0, 1) := by decide +kernel
theorem dX7_hand_64 : decode cX7_hand 64 = .ok (.getfield 54, 3) := by decide +kernel
theorem dX7_hand_67 : decode cX7_hand 67 = .ok (.invokevirtual 187, 3) := by decide +kernel
theorem dX7_hand_70 : decode cX7_hand 70 = .ok (.aload_n 0, 1) := by decide +kernel
theorem dX7_hand_71 : decode cX7_hand 71 = .ok (.getfield 20, 3) := by decide +kernel
theorem dX7_hand_74 : decode cX7_hand 74 = .ok (.new 191, 3) := by decide +kernel
theorem dX7_hand_77 : decode cX7_hand 77 = .ok (.dup, 1) := by decide +kernel
theorem dX7_hand_78 : decode cX7_hand 78 = .ok (.iload_n 1, 1) := by decide +kernel
theorem dX7_hand_79 : decode cX7_hand 79 = .ok (.aload 5, 2) := by decide +kernel
theorem dX7_hand_81 : decode cX7_hand 81 = .ok (.iload 6, 2) := by decide +kernel
theorem dX7_hand_83 : decode cX7_hand 83 = .ok (.invokespecial 193, 3) := by decide +kernel
theorem dX7_hand_86 : decode cX7_hand 86 = .ok (.invokevirtual 67, 3) := by decide +kernel
theorem dX7_hand_89 : decode cX7_hand 89 = .ok (.pop, 1) := by decide +kernel
theorem dX7_hand_90 : decode cX7_hand 90 = .ok (.iload 6, 2) := by decide +kernel
theorem dX7_hand_92 : decode cX7_hand 92 = .ok (.ireturn, 1) := by decide +kernel
set_option maxRecDepth 20000 in
theorem ggX7_points_X7_isTeam : GoodIn wsX7_points wsX7_isTeam := goodIn_r _ [6, 7, 8, 9, 5, 10, 11, 12, 13, 14, 15, 16, 17, 75, 76, 77, 78, 79, 80, 81, 82, 83, 84, 85, 86, 87] (by decide +kernel) (by decide +kernel)
set_option maxRecDepth 20000 in
theorem gX7_points_X7_isTeam : GoodIn wsX7_points (wsV RX7 117 RX7 yX7_isTeam wsX7_isTeam) := goodIn_app (goodIn_of _ (by decide +kernel)) ggX7_points_X7_isTeam
set_option maxRecDepth 20000 in
theorem ggX7_points_X7_pointsAhead : GoodIn wsX7_points wsX7_pointsAhead := goodIn_r _ [21, 22, 23, 24, 5, 25, 26, 27, 28, 29, 30, 11, 31, 12, 13, 14, 15, 16, 17, 32, 33, 34, 35, 36, 37, 38, 39, 40, 41, 42, 43, 44, 45, 46, 47, 48, 49, 50, 51, 52, 53, 54, 55, 56, 57, 58, 59, 60, 61, 62, 63, 64, 65, 66, 67, 68, 69, 70, 75, 76, 77, 78, 79, 80, 81, 82, 83, 84, 88, 89, 90, 91, 92, 93, 94, 95, 96, 97, 98, 99, 100, 101, 85, 86, 87, 102, 103, 104] (by decide +kernel) (by decide +kernel)
set_option maxRecDepth 20000 in
theorem gX7_points_X7_pointsAhead : GoodIn wsX7_points (wsV RX7 197 RX7 yX7_pointsAhead wsX7_pointsAhead) := goodIn_app (goodIn_of _ (by decide +kernel)) ggX7_points_X7_pointsAhead
set_option maxRecDepth 20000 in
theorem ggX7_points_X7_upPoints : GoodIn wsX7_points wsX7_upPoints := goodIn_r _ [25, 26, 27, 28, 29, 30, 11, 31, 12, 13, 14, 15, 16, 17, 32, 33, 34, 35, 36, 37, 38, 39, 40, 41, 42, 43, 44, 45, 46, 47, 48, 75, 76, 77, 78, 79, 80, 81, 82, 83, 84, 88, 89, 90, 91, 92, 93, 94, 95, 96, 97, 98, 99, 100, 101, 85, 86, 87] (by decide +kernel) (by decide +kernel)
set_option maxRecDepth 20000 in
theorem gX7_points_X7_upPoints : GoodIn wsX7_points (wsV RX7 201 RX7 yX7_upPoints wsX7_upPoints) := goodIn_app (goodIn_of _ (by decide +kernel)) ggX7_points_X7_upPoints
set_option maxRecDepth 20000 in
theorem ggX7_points_X7_stolenPoints : GoodIn wsX7_points wsX7_stolenPoints := goodIn_r _ [52, 53, 54, 12, 13, 14, 15, 16, 17, 32, 33, 34, 35, 36, 37, 38, 39, 40, 41, 42, 43, 44, 45, 46, 47, 48, 55, 56, 57, 58, 59, 60, 61, 62, 63, 64, 65, 5, 66, 75, 76, 77, 78, 79, 80, 81, 82, 83, 84, 102, 103, 104, 85, 86, 87, 88, 89, 90, 91, 92, 93, 94, 95, 96, 97, 98, 99, 100, 101] (by decide +kernel) (by decide +kernel)
set_option maxRecDepth 20000 in
theorem gX7_points_X7_stolenPoints : GoodIn wsX7_points (wsV RX7 204 RX7 yX7_stolenPoints wsX7_stolenPoints) := goodIn_app (goodIn_of _ (by decide +kernel)) ggX7_points_X7_stolenPoints
set_option maxRecDepth 20000 in
theorem ggX7_points_X7_takenOff : GoodIn wsX7_points wsX7_takenOff := goodIn_r _ [70, 53, 54, 12, 13, 14, 15, 16, 17, 32, 33, 34, 35, 36, 37, 38, 39, 40, 41, 42, 43, 44, 45, 46, 47, 48, 55, 56, 57, 58, 59, 75, 76, 77, 78, 79, 80, 81, 82, 83, 84, 102, 103, 104, 88, 89, 90, 91, 92, 93, 94, 95, 96, 97, 98, 99, 100, 101, 85, 86, 87] (by decide +kernel) (by decide +kernel)
set_option maxRecDepth 20000 in
theorem gX7_points_X7_takenOff : GoodIn wsX7_points (wsV RX7 207 RX7 yX7_takenOff wsX7_takenOff) := goodIn_app (goodIn_of _ (by decide +kernel)) ggX7_points_X7_takenOff
set_option maxRecDepth 20000 in
theorem ggX7_points_X7_handInsBy : GoodIn wsX7_points wsX7_handInsBy := goodIn_r _ [74, 53, 54, 12, 13, 14, 15, 16, 17, 32, 33, 34, 35, 36, 37, 38, 39, 40, 41, 42, 43, 44, 45, 46, 47, 48, 75, 76, 77, 78, 79, 80, 81, 82, 83, 84, 102, 103, 104, 85, 86, 87] (by decide +kernel) (by decide +kernel)
set_option maxRecDepth 20000 in
theorem gX7_points_X7_handInsBy : GoodIn wsX7_points (wsV RX7 210 RX7 yX7_handInsBy wsX7_handInsBy) := goodIn_app (goodIn_of _ (by decide +kernel)) ggX7_points_X7_handInsBy
theorem dX7_points_0 : decode cX7_points 0 = .ok (.aload_n 0, 1) := by decide +kernel
theorem dX7_points_1 : decode cX7_points 1 = .ok (.iload_n 1, 1) := by decide +kernel
theorem dX7_points_2 : decode cX7_points 2 = .ok (.invokevirtual 117, 3) := by decide +kernel
theorem dX7_points_5 : decode cX7_points 5 = .ok (.ifCond .ne 6, 3) := by decide +kernel
theorem dX7_points_8 : decode cX7_points 8 = .ok (.ldc 196, 2) := by decide +kernel
theorem dX7_points_10 : decode cX7_points 10 = .ok (.ireturn, 1) := by decide +kernel
theorem dX7_points_11 : decode cX7_points 11 = .ok (.iload_n 2, 1) := by decide +kernel
theorem dX7_points_12 : decode cX7_points 12 = .ok (.tableswitch 74 0 4 #[36, 44, 52, 60, 68], 36) := by decide +kernel
theorem dX7_points_48 : decode cX7_points 48 = .ok (.aload_n 0, 1) := by decide +kernel
theorem dX7_points_49 : decode cX7_points 49 = .ok (.iload_n 1, 1) := by decide +kernel
theorem dX7_points_50 : decode cX7_points 50 = .ok (.bipush 100, 2) := by decide +kernel
theorem dX7_points_52 : decode cX7_points 52 = .ok (.invokevirtual 197, 3) := by decide +kernel
theorem dX7_points_55 : decode cX7_points 55 = .ok (.ireturn, 1) := by decide +kernel
theorem dX7_points_56 : decode cX7_points 56 = .ok (.aload_n 0, 1) := by decide +kernel
theorem dX7_points_57 : decode cX7_points 57 = .ok (.iload_n 1, 1) := by decide +kernel
theorem dX7_points_58 : decode cX7_points 58 = .ok (.bipush 100, 2) := by decide +kernel
theorem dX7_points_60 : decode cX7_points 60 = .ok (.invokevirtual 201, 3) := by decide +kernel
theorem dX7_points_63 : decode cX7_points 63 = .ok (.ireturn, 1) := by decide +kernel
theorem dX7_points_64 : decode cX7_points 64 = .ok (.aload_n 0, 1) := by decide +kernel
theorem dX7_points_65 : decode cX7_points 65 = .ok (.iload_n 1, 1) := by decide +kernel
theorem dX7_points_66 : decode cX7_points 66 = .ok (.bipush 100, 2) := by decide +kernel
theorem dX7_points_68 : decode cX7_points 68 = .ok (.invokevirtual 204, 3) := by decide +kernel
theorem dX7_points_71 : decode cX7_points 71 = .ok (.ireturn, 1) := by decide +kernel
theorem dX7_points_72 : decode cX7_points 72 = .ok (.aload_n 0, 1) := by decide +kernel
theorem dX7_points_73 : decode cX7_points 73 = .ok (.iload_n 1, 1) := by decide +kernel
theorem dX7_points_74 : decode cX7_points 74 = .ok (.bipush 100, 2) := by decide +kernel
theorem dX7_points_76 : decode cX7_points 76 = .ok (.invokevirtual 207, 3) := by decide +kernel
theorem dX7_points_79 : decode cX7_points 79 = .ok (.ireturn, 1) := by decide +kernel
theorem dX7_points_80 : decode cX7_points 80 = .ok (.aload_n 0, 1) := by decide +kernel
theorem dX7_points_81 : decode cX7_points 81 = .ok (.iload_n 1, 1) := by decide +kernel
theorem dX7_points_82 : decode cX7_points 82 = .ok (.invokevirtual 210, 3) := by decide +kernel
theorem dX7_points_85 : decode cX7_points 85 = .ok (.ireturn, 1) := by decide +kernel
theorem dX7_points_86 : decode cX7_points 86 = .ok (.ldc 196, 2) := by decide +kernel
theorem dX7_points_88 : decode cX7_points 88 = .ok (.ireturn, 1) := by decide +kernel
set_option maxRecDepth 20000 in
theorem ggX7_board_X7_isTeam : GoodIn wsX7_board wsX7_isTeam := goodIn_r _ [8, 9, 10, 11, 7, 12, 13, 14, 15, 16, 17, 18, 19, 77, 78, 79, 80, 81, 82, 83, 84, 85, 86, 87, 88, 89] (by decide +kernel) (by decide +kernel)
set_option maxRecDepth 20000 in
theorem gX7_board_X7_isTeam : GoodIn wsX7_board (wsV RX7 117 RX7 yX7_isTeam wsX7_isTeam) := goodIn_app (goodIn_of _ (by decide +kernel)) ggX7_board_X7_isTeam
set_option maxRecDepth 20000 in
theorem ggX7_board_X7_teams : GoodIn wsX7_board wsX7_teams := goodIn_r _ [12, 13, 14, 15, 16, 17, 18, 19, 77, 78, 79, 80, 81, 82, 83, 84, 85, 86, 87, 88, 89] (by decide +kernel) (by decide +kernel)
set_option maxRecDepth 20000 in
theorem gX7_board_X7_teams : GoodIn wsX7_board (wsV RX7 58 RX7 yX7_teams wsX7_teams) := goodIn_app (goodIn_of _ (by decide +kernel)) ggX7_board_X7_teams
set_option maxRecDepth 20000 in
theorem ggX7_board_X7_pointsAhead : GoodIn wsX7_board wsX7_pointsAhead := goodIn_r _ [23, 24, 25, 26, 7, 27, 28, 29, 30, 31, 32, 13, 33, 14, 15, 16, 17, 18, 19, 34, 35, 36, 37, 38, 39, 40, 41, 42, 43, 44, 45, 46, 47, 48, 49, 50, 51, 52, 53, 54, 55, 56, 57, 58, 59, 60, 61, 62, 63, 64, 65, 66, 67, 68, 69, 70, 71, 72, 77, 78, 79, 80, 81, 82, 83, 84, 85, 86, 90, 91, 92, 93, 94, 95, 96, 97, 98, 99, 100, 101, 102, 103, 87, 88, 89, 104, 105, 106] (by decide +kernel) (by decide +kernel)
set_option maxRecDepth 20000 in
theorem gX7_board_X7_pointsAhead : GoodIn wsX7_board (wsV RX7 197 RX7 yX7_pointsAhead wsX7_pointsAhead) := goodIn_app (goodIn_of _ (by decide +kernel)) ggX7_board_X7_pointsAhead
set_option maxRecDepth 20000 in
theorem ggX7_board_X7_placeOnBoard : GoodIn wsX7_board wsX7_placeOnBoard := goodIn_r _ [76, 2, 77, 78, 79, 80, 81, 82, 83, 84, 85, 86] (by decide +kernel) (by decide +kernel)
set_option maxRecDepth 20000 in
theorem gX7_board_X7_placeOnBoard : GoodIn wsX7_board (wsV RX7 213 RX7 yX7_placeOnBoard wsX7_placeOnBoard) := goodIn_app (goodIn_of _ (by decide +kernel)) ggX7_board_X7_placeOnBoard
theorem dX7_board_0 : decode cX7_board 0 = .ok (.aload_n 0, 1) := by decide +kernel
theorem dX7_board_1 : decode cX7_board 1 = .ok (.iload_n 1, 1) := by decide +kernel
theorem dX7_board_2 : decode cX7_board 2 = .ok (.invokevirtual 117, 3) := by decide +kernel
theorem dX7_board_5 : decode cX7_board 5 = .ok (.ifCond .eq 12, 3) := by decide +kernel
theorem dX7_board_8 : decode cX7_board 8 = .ok (.iload_n 2, 1) := by decide +kernel
theorem dX7_board_9 : decode cX7_board 9 = .ok (.ifCond .lt 8, 3) := by decide +kernel
theorem dX7_board_12 : decode cX7_board 12 = .ok (.iload_n 2, 1) := by decide +kernel
theorem dX7_board_13 : decode cX7_board 13 = .ok (.iconst 1, 1) := by decide +kernel
theorem dX7_board_14 : decode cX7_board 14 = .ok (.if_icmp .le 6, 3) := by decide +kernel
theorem dX7_board_17 : decode cX7_board 17 = .ok (.ldc 196, 2) := by decide +kernel
theorem dX7_board_19 : decode cX7_board 19 = .ok (.ireturn, 1) := by decide +kernel
theorem dX7_board_20 : decode cX7_board 20 = .ok (.aload_n 0, 1) := by decide +kernel
theorem dX7_board_21 : decode cX7_board 21 = .ok (.invokevirtual 58, 3) := by decide +kernel
theorem dX7_board_24 : decode cX7_board 24 = .ok (.istore_n 3, 1) := by decide +kernel
theorem dX7_board_25 : decode cX7_board 25 = .ok (.iconst 0, 1) := by decide +kernel
theorem dX7_board_26 : decode cX7_board 26 = .ok (.istore 4, 2) := by decide +kernel
theorem dX7_board_28 : decode cX7_board 28 = .ok (.iload 4, 2) := by decide +kernel
theorem dX7_board_30 : decode cX7_board 30 = .ok (.iload_n 3, 1) := by decide +kernel
theorem dX7_board_31 : decode cX7_board 31 = .ok (.if_icmp .ge 28, 3) := by decide +kernel
theorem dX7_board_34 : decode cX7_board 34 = .ok (.aload_n 0, 1) := by decide +kernel
theorem dX7_board_35 : decode cX7_board 35 = .ok (.getfield 51, 3) := by decide +kernel
theorem dX7_board_38 : decode cX7_board 38 = .ok (.iload 4, 2) := by decide +kernel
theorem dX7_board_40 : decode cX7_board 40 = .ok (.aload_n 0, 1) := by decide +kernel
theorem dX7_board_41 : decode cX7_board 41 = .ok (.iload 4, 2) := by decide +kernel
theorem dX7_board_43 : decode cX7_board 43 = .ok (.aload_n 0, 1) := by decide +kernel
theorem dX7_board_44 : decode cX7_board 44 = .ok (.getfield 7, 3) := by decide +kernel
theorem dX7_board_47 : decode cX7_board 47 = .ok (.iconst 3, 1) := by decide +kernel
theorem dX7_board_48 : decode cX7_board 48 = .ok (.iaload, 1) := by decide +kernel
theorem dX7_board_49 : decode cX7_board 49 = .ok (.invokevirtual 197, 3) := by decide +kernel
theorem dX7_board_52 : decode cX7_board 52 = .ok (.iastore, 1) := by decide +kernel
theorem dX7_board_53 : decode cX7_board 53 = .ok (.iinc 4 1, 3) := by decide +kernel
theorem dX7_board_56 : decode cX7_board 56 = .ok (.goto (-28), 3) := by decide +kernel
theorem dX7_board_59 : decode cX7_board 59 = .ok (.iconst 0, 1) := by decide +kernel
theorem dX7_board_60 : decode cX7_board 60 = .ok (.istore 4, 2) := by decide +kernel
theorem dX7_board_62 : decode cX7_board 62 = .ok (.iload 4, 2) := by decide +kernel
theorem dX7_board_64 : decode cX7_board 64 = .ok (.iload_n 3, 1) := by decide +kernel
theorem dX7_board_65 : decode cX7_board 65 = .ok (.if_icmp .ge 37, 3) := by decide +kernel
theorem dX7_board_68 : decode cX7_board 68 = .ok (.aload_n 0, 1) := by decide +kernel
theorem dX7_board_69 : decode cX7_board 69 = .ok (.iload 4, 2) := by decide +kernel
theorem dX7_board_71 : decode cX7_board 71 = .ok (.iload_n 3, 1) := by decide +kernel
theorem dX7_board_72 : decode cX7_board 72 = .ok (.invokevirtual 213, 3) := by decide +kernel
theorem dX7_board_75 : decode cX7_board 75 = .ok (.iload_n 1, 1) := by decide +kernel
theorem dX7_board_76 : decode cX7_board 76 = .ok (.if_icmp .ne 20, 3) := by decide +kernel
theorem dX7_board_79 : decode cX7_board 79 = .ok (.iload_n 2, 1) := by decide +kernel
theorem dX7_board_80 : decode cX7_board 80 = .ok (.ifCond .ne 8, 3) := by decide +kernel
theorem dX7_board_83 : decode cX7_board 83 = .ok (.iload 4, 2) := by decide +kernel
theorem dX7_board_85 : decode cX7_board 85 = .ok (.goto 10, 3) := by decide +kernel
theorem dX7_board_88 : decode cX7_board 88 = .ok (.aload_n 0, 1) := by decide +kernel
theorem dX7_board_89 : decode cX7_board 89 = .ok (.getfield 51, 3) := by decide +kernel
theorem dX7_board_92 : decode cX7_board 92 = .ok (.iload 4, 2) := by decide +kernel
theorem dX7_board_94 : decode cX7_board 94 = .ok (.iaload, 1) := by decide +kernel
theorem dX7_board_95 : decode cX7_board 95 = .ok (.ireturn, 1) := by decide +kernel
theorem dX7_board_96 : decode cX7_board 96 = .ok (.iinc 4 1, 3) := by decide +kernel
theorem dX7_board_99 : decode cX7_board 99 = .ok (.goto (-37), 3) := by decide +kernel
theorem dX7_board_102 : decode cX7_board 102 = .ok (.ldc 196, 2) := by decide +kernel
theorem dX7_board_104 : decode cX7_board 104 = .ok (.ireturn, 1) := by decide +kernel
set_option maxRecDepth 20000 in
theorem ggX7_gain_X7_teams : GoodIn wsX7_gain wsX7_teams := goodIn_r _ [10, 4, 11, 12, 13, 14, 15, 16, 57, 58, 59, 60, 61, 62, 63, 64, 65, 66, 81, 82, 83] (by decide +kernel) (by decide +kernel)
set_option maxRecDepth 20000 in
theorem gX7_gain_X7_teams : GoodIn wsX7_gain (wsV RX7 58 RX7 yX7_teams wsX7_teams) := goodIn_app (goodIn_of _ (by decide +kernel)) ggX7_gain_X7_teams
set_option maxRecDepth 20000 in
theorem ggX7_gain_J6_bitCount_0f7a4 : GoodIn wsX7_gain wsJ6_bitCount_0f7a4 := goodIn_r _ [20, 21, 22, 23] (by decide +kernel) (by decide +kernel)
set_option maxRecDepth 20000 in
theorem gX7_gain_J6_bitCount_0f7a4 : GoodIn wsX7_gain (va_wsS RX7 216 yJ6_bitCount_0f7a4 wsJ6_bitCount_0f7a4) := goodIn_app (goodIn_of _ (by decide +kernel)) ggX7_gain_J6_bitCount_0f7a4
set_option maxRecDepth 20000 in
theorem ggX7_gain_Jx4a65c_size_8abf5 : GoodIn wsX7_gain wsJx4a65c_size_8abf5 := goodIn_r _ [15, 16, 81, 82, 83] (by decide +kernel) (by decide +kernel)
set_option maxRecDepth 20000 in
theorem gX7_gain_Jx4a65c_size_8abf5 : GoodIn wsX7_gain (wsV RX7 140 RJx4a65c yJx4a65c_size_8abf5 wsJx4a65c_size_8abf5) := goodIn_app (goodIn_of _ (by decide +kernel)) ggX7_gain_Jx4a65c_size_8abf5
set_option maxRecDepth 20000 in
theorem ggX7_gain_Jx4a65c_get_915e3 : GoodIn wsX7_gain wsJx4a65c_get_915e3 := goodIn_r _ [27, 16, 28, 29, 30, 31, 32, 33, 34, 35, 36, 37, 38, 14, 39, 40, 81, 82, 83] (by decide +kernel) (by decide +kernel)
set_option maxRecDepth 20000 in
theorem gX7_gain_Jx4a65c_get_915e3 : GoodIn wsX7_gain (wsV RX7 142 RJx4a65c yJx4a65c_get_915e3 wsJx4a65c_get_915e3) := goodIn_app (goodIn_of _ (by decide +kernel)) ggX7_gain_Jx4a65c_get_915e3
set_option maxRecDepth 20000 in
theorem ggX7_gain_X7_gainFromFlag : GoodIn wsX7_gain wsX7_gainFromFlag := goodIn_r _ [44, 2, 45, 46, 47, 48, 49, 50, 51, 52, 53, 17, 18, 19, 20, 21, 22, 23, 54, 55, 9, 56, 57, 58, 59, 60, 61, 62, 63, 64, 65, 66, 67, 68, 69, 70, 71, 72, 73, 74, 75, 76, 77, 78, 79, 80] (by decide +kernel) (by decide +kernel)
set_option maxRecDepth 20000 in
theorem gX7_gain_X7_gainFromFlag : GoodIn wsX7_gain (wsV RX7 225 RX7 yX7_gainFromFlag wsX7_gainFromFlag) := goodIn_app (goodIn_of _ (by decide +kernel)) ggX7_gain_X7_gainFromFlag
theorem dX7_gain_0 : decode cX7_gain 0 = .ok (.iload_n 1, 1) := by decide +kernel
theorem dX7_gain_1 : decode cX7_gain 1 = .ok (.ifCond .lt 21, 3) := by decide +kernel
theorem dX7_gain_4 : decode cX7_gain 4 = .ok (.iload_n 1, 1) := by decide +kernel
theorem dX7_gain_5 : decode cX7_gain 5 = .ok (.iconst 1, 1) := by decide +kernel
theorem dX7_gain_6 : decode cX7_gain 6 = .ok (.aload_n 0, 1) := by decide +kernel
theorem dX7_gain_7 : decode cX7_gain 7 = .ok (.invokevirtual 58, 3) := by decide +kernel
theorem dX7_gain_10 : decode cX7_gain 10 = .ok (.ishl, 1) := by decide +kernel
theorem dX7_gain_11 : decode cX7_gain 11 = .ok (.if_icmp .ge 11, 3) := by decide +kernel
theorem dX7_gain_14 : decode cX7_gain 14 = .ok (.iload_n 1, 1) := by decide +kernel
theorem dX7_gain_15 : decode cX7_gain 15 = .ok (.invokestatic 216, 3) := by decide +kernel
theorem dX7_gain_18 : decode cX7_gain 18 = .ok (.iconst 2, 1) := by decide +kernel
theorem dX7_gain_19 : decode cX7_gain 19 = .ok (.if_icmp .ge 6, 3) := by decide +kernel
theorem dX7_gain_22 : decode cX7_gain 22 = .ok (.ldc 196, 2) := by decide +kernel
theorem dX7_gain_24 : decode cX7_gain 24 = .ok (.ireturn, 1) := by decide +kernel
theorem dX7_gain_25 : decode cX7_gain 25 = .ok (.aload_n 0, 1) := by decide +kernel
theorem dX7_gain_26 : decode cX7_gain 26 = .ok (.getfield 54, 3) := by decide +kernel
theorem dX7_gain_29 : decode cX7_gain 29 = .ok (.ifCond .ne 6, 3) := by decide +kernel
theorem dX7_gain_32 : decode cX7_gain 32 = .ok (.ldc 221, 2) := by decide +kernel
theorem dX7_gain_34 : decode cX7_gain 34 = .ok (.ireturn, 1) := by decide +kernel
theorem dX7_gain_35 : decode cX7_gain 35 = .ok (.iconst 0, 1) := by decide +kernel
theorem dX7_gain_36 : decode cX7_gain 36 = .ok (.istore_n 2, 1) := by decide +kernel
theorem dX7_gain_37 : decode cX7_gain 37 = .ok (.iconst 0, 1) := by decide +kernel
theorem dX7_gain_38 : decode cX7_gain 38 = .ok (.istore_n 3, 1) := by decide +kernel
theorem dX7_gain_39 : decode cX7_gain 39 = .ok (.iload_n 3, 1) := by decide +kernel
theorem dX7_gain_40 : decode cX7_gain 40 = .ok (.aload_n 0, 1) := by decide +kernel
theorem dX7_gain_41 : decode cX7_gain 41 = .ok (.getfield 16, 3) := by decide +kernel
theorem dX7_gain_44 : decode cX7_gain 44 = .ok (.invokevirtual 140, 3) := by decide +kernel
theorem dX7_gain_47 : decode cX7_gain 47 = .ok (.if_icmp .ge 45, 3) := by decide +kernel
theorem dX7_gain_50 : decode cX7_gain 50 = .ok (.aload_n 0, 1) := by decide +kernel
theorem dX7_gain_51 : decode cX7_gain 51 = .ok (.getfield 16, 3) := by decide +kernel
theorem dX7_gain_54 : decode cX7_gain 54 = .ok (.iload_n 3, 1) := by decide +kernel
theorem dX7_gain_55 : decode cX7_gain 55 = .ok (.invokevirtual 142, 3) := by decide +kernel
theorem dX7_gain_58 : decode cX7_gain 58 = .ok (.checkcast 62, 3) := by decide +kernel
theorem dX7_gain_61 : decode cX7_gain 61 = .ok (.astore 4, 2) := by decide +kernel
theorem dX7_gain_63 : decode cX7_gain 63 = .ok (.iload_n 1, 1) := by decide +kernel
theorem dX7_gain_64 : decode cX7_gain 64 = .ok (.aload 4, 2) := by decide +kernel
theorem dX7_gain_66 : decode cX7_gain 66 = .ok (.getfield 222, 3) := by decide +kernel
theorem dX7_gain_69 : decode cX7_gain 69 = .ok (.ishr, 1) := by decide +kernel
theorem dX7_gain_70 : decode cX7_gain 70 = .ok (.iconst 1, 1) := by decide +kernel
theorem dX7_gain_71 : decode cX7_gain 71 = .ok (.iand, 1) := by decide +kernel
theorem dX7_gain_72 : decode cX7_gain 72 = .ok (.iconst 1, 1) := by decide +kernel
theorem dX7_gain_73 : decode cX7_gain 73 = .ok (.if_icmp .ne 13, 3) := by decide +kernel
theorem dX7_gain_76 : decode cX7_gain 76 = .ok (.iload_n 2, 1) := by decide +kernel
theorem dX7_gain_77 : decode cX7_gain 77 = .ok (.aload_n 0, 1) := by decide +kernel
theorem dX7_gain_78 : decode cX7_gain 78 = .ok (.aload 4, 2) := by decide +kernel
theorem dX7_gain_80 : decode cX7_gain 80 = .ok (.iload_n 1, 1) := by decide +kernel
theorem dX7_gain_81 : decode cX7_gain 81 = .ok (.invokevirtual 225, 3) := by decide +kernel
theorem dX7_gain_84 : decode cX7_gain 84 = .ok (.iadd, 1) := by decide +kernel
theorem dX7_gain_85 : decode cX7_gain 85 = .ok (.istore_n 2, 1) := by decide +kernel
theorem dX7_gain_86 : decode cX7_gain 86 = .ok (.iinc 3 1, 3) := by decide +kernel
theorem dX7_gain_89 : decode cX7_gain 89 = .ok (.goto (-50), 3) := by decide +kernel
theorem dX7_gain_92 : decode cX7_gain 92 = .ok (.iload_n 2, 1) := by decide +kernel
theorem dX7_gain_93 : decode cX7_gain 93 = .ok (.ireturn, 1) := by decide +kernel
set_option maxRecDepth 20000 in
theorem ggX7_alike_X7_find : GoodIn wsX7_alike wsX7_find := goodIn_r _ [6, 7, 8, 9, 10, 11, 5, 12, 13, 14, 15, 16, 17, 18, 19, 20, 21, 22, 23, 24, 25, 26, 27, 28, 29, 30, 31, 32, 33, 34, 35, 36, 37, 38, 39, 40, 41, 42, 43, 44, 45, 46, 47, 48, 49, 64, 65, 66] (by decide +kernel) (by decide +kernel)
set_option maxRecDepth 20000 in
theorem gX7_alike_X7_find : GoodIn wsX7_alike (wsV RX7 78 RX7 yX7_find wsX7_find) := goodIn_app (goodIn_of _ (by decide +kernel)) ggX7_alike_X7_find
theorem dX7_alike_0 : decode cX7_alike 0 = .ok (.aload_n 0, 1) := by decide +kernel
theorem dX7_alike_1 : decode cX7_alike 1 = .ok (.iload_n 1, 1) := by decide +kernel
theorem dX7_alike_2 : decode cX7_alike 2 = .ok (.iload_n 2, 1) := by decide +kernel
theorem dX7_alike_3 : decode cX7_alike 3 = .ok (.invokevirtual 78, 3) := by decide +kernel
theorem dX7_alike_6 : decode cX7_alike 6 = .ok (.astore_n 3, 1) := by decide +kernel
theorem dX7_alike_7 : decode cX7_alike 7 = .ok (.aload_n 3, 1) := by decide +kernel
theorem dX7_alike_8 : decode cX7_alike 8 = .ok (.ifnonnull 5, 3) := by decide +kernel
theorem dX7_alike_11 : decode cX7_alike 11 = .ok (.iconst (-1), 1) := by decide +kernel
theorem dX7_alike_12 : decode cX7_alike 12 = .ok (.ireturn, 1) := by decide +kernel
theorem dX7_alike_13 : decode cX7_alike 13 = .ok (.aload_n 0, 1) := by decide +kernel
theorem dX7_alike_14 : decode cX7_alike 14 = .ok (.getfield 54, 3) := by decide +kernel
theorem dX7_alike_17 : decode cX7_alike 17 = .ok (.ifCond .ne 8, 3) := by decide +kernel
theorem dX7_alike_20 : decode cX7_alike 20 = .ok (.bipush (-3), 2) := by decide +kernel
theorem dX7_alike_22 : decode cX7_alike 22 = .ok (.goto 7, 3) := by decide +kernel
theorem dX7_alike_25 : decode cX7_alike 25 = .ok (.aload_n 3, 1) := by decide +kernel
theorem dX7_alike_26 : decode cX7_alike 26 = .ok (.getfield 153, 3) := by decide +kernel
theorem dX7_alike_29 : decode cX7_alike 29 = .ok (.ireturn, 1) := by decide +kernel
set_option maxRecDepth 20000 in
theorem ggX7_count_X7_teams : GoodIn wsX7_count wsX7_teams := goodIn_r _ [10, 11, 12, 13, 14, 15, 16, 17, 18, 19, 20, 21, 22, 23, 24, 25, 26, 27, 36, 37, 38] (by decide +kernel) (by decide +kernel)
set_option maxRecDepth 20000 in
theorem gX7_count_X7_teams : GoodIn wsX7_count (wsV RX7 58 RX7 yX7_teams wsX7_teams) := goodIn_app (goodIn_of _ (by decide +kernel)) ggX7_count_X7_teams
set_option maxRecDepth 20000 in
theorem ggX7_count_Jx4a65c_size_8abf5 : GoodIn wsX7_count wsJx4a65c_size_8abf5 := goodIn_r _ [16, 17, 36, 37, 38] (by decide +kernel) (by decide +kernel)
set_option maxRecDepth 20000 in
theorem gX7_count_Jx4a65c_size_8abf5 : GoodIn wsX7_count (wsV RX7 140 RJx4a65c yJx4a65c_size_8abf5 wsJx4a65c_size_8abf5) := goodIn_app (goodIn_of _ (by decide +kernel)) ggX7_count_Jx4a65c_size_8abf5
theorem dX7_count_0 : decode cX7_count 0 = .ok (.iload_n 1, 1) := by decide +kernel
theorem dX7_count_1 : decode cX7_count 1 = .ok (.tableswitch 78 0 5 #[39, 44, 49, 57, 62, 70], 39) := by decide +kernel
theorem dX7_count_40 : decode cX7_count 40 = .ok (.aload_n 0, 1) := by decide +kernel
theorem dX7_count_41 : decode cX7_count 41 = .ok (.invokevirtual 58, 3) := by decide +kernel
theorem dX7_count_44 : decode cX7_count 44 = .ok (.ireturn, 1) := by decide +kernel
theorem dX7_count_45 : decode cX7_count 45 = .ok (.aload_n 0, 1) := by decide +kernel
theorem dX7_count_46 : decode cX7_count 46 = .ok (.getfield 54, 3) := by decide +kernel
theorem dX7_count_49 : decode cX7_count 49 = .ok (.ireturn, 1) := by decide +kernel
theorem dX7_count_50 : decode cX7_count 50 = .ok (.aload_n 0, 1) := by decide +kernel
theorem dX7_count_51 : decode cX7_count 51 = .ok (.getfield 20, 3) := by decide +kernel
theorem dX7_count_54 : decode cX7_count 54 = .ok (.invokevirtual 140, 3) := by decide +kernel
theorem dX7_count_57 : decode cX7_count 57 = .ok (.ireturn, 1) := by decide +kernel
theorem dX7_count_58 : decode cX7_count 58 = .ok (.aload_n 0, 1) := by decide +kernel
theorem dX7_count_59 : decode cX7_count 59 = .ok (.getfield 129, 3) := by decide +kernel
theorem dX7_count_62 : decode cX7_count 62 = .ok (.ireturn, 1) := by decide +kernel
theorem dX7_count_63 : decode cX7_count 63 = .ok (.aload_n 0, 1) := by decide +kernel
theorem dX7_count_64 : decode cX7_count 64 = .ok (.getfield 26, 3) := by decide +kernel
theorem dX7_count_67 : decode cX7_count 67 = .ok (.getfield 71, 3) := by decide +kernel
theorem dX7_count_70 : decode cX7_count 70 = .ok (.ireturn, 1) := by decide +kernel
theorem dX7_count_71 : decode cX7_count 71 = .ok (.aload_n 0, 1) := by decide +kernel
theorem dX7_count_72 : decode cX7_count 72 = .ok (.getfield 40, 3) := by decide +kernel
theorem dX7_count_75 : decode cX7_count 75 = .ok (.getfield 229, 3) := by decide +kernel
theorem dX7_count_78 : decode cX7_count 78 = .ok (.ireturn, 1) := by decide +kernel
theorem dX7_count_79 : decode cX7_count 79 = .ok (.iconst (-1), 1) := by decide +kernel
theorem dX7_count_80 : decode cX7_count 80 = .ok (.ireturn, 1) := by decide +kernel
set_option maxRecDepth 20000 in
theorem ggX7_teams_Jx4a65c_size_8abf5 : GoodIn wsX7_teams wsJx4a65c_size_8abf5 := goodIn_r _ [6, 7, 18, 19, 20] (by decide +kernel) (by decide +kernel)
set_option maxRecDepth 20000 in
theorem gX7_teams_Jx4a65c_size_8abf5 : GoodIn wsX7_teams (wsV RX7 140 RJx4a65c yJx4a65c_size_8abf5 wsJx4a65c_size_8abf5) := goodIn_app (goodIn_of _ (by decide +kernel)) ggX7_teams_Jx4a65c_size_8abf5
theorem dX7_teams_0 : decode cX7_teams 0 = .ok (.aload_n 0, 1) := by decide +kernel
theorem dX7_teams_1 : decode cX7_teams 1 = .ok (.getfield 16, 3) := by decide +kernel
theorem dX7_teams_4 : decode cX7_teams 4 = .ok (.invokevirtual 140, 3) := by decide +kernel
theorem dX7_teams_7 : decode cX7_teams 7 = .ok (.iconst 3, 1) := by decide +kernel
theorem dX7_teams_8 : decode cX7_teams 8 = .ok (.idiv, 1) := by decide +kernel
theorem dX7_teams_9 : decode cX7_teams 9 = .ok (.ireturn, 1) := by decide +kernel
set_option maxRecDepth 20000 in
theorem ggX7_isTeam_X7_teams : GoodIn wsX7_isTeam wsX7_teams := goodIn_r _ [5, 6, 7, 8, 9, 10, 11, 12, 13, 14, 15, 16, 17, 18, 19, 20, 21, 22, 23, 24, 25] (by decide +kernel) (by decide +kernel)
set_option maxRecDepth 20000 in
theorem gX7_isTeam_X7_teams : GoodIn wsX7_isTeam (wsV RX7 58 RX7 yX7_teams wsX7_teams) := goodIn_app (goodIn_of _ (by decide +kernel)) ggX7_isTeam_X7_teams
theorem dX7_isTeam_0 : decode cX7_isTeam 0 = .ok (.iload_n 1, 1) := by decide +kernel
theorem dX7_isTeam_1 : decode cX7_isTeam 1 = .ok (.ifCond .lt 15, 3) := by decide +kernel
theorem dX7_isTeam_4 : decode cX7_isTeam 4 = .ok (.iload_n 1, 1) := by decide +kernel
theorem dX7_isTeam_5 : decode cX7_isTeam 5 = .ok (.aload_n 0, 1) := by decide +kernel
theorem dX7_isTeam_6 : decode cX7_isTeam 6 = .ok (.invokevirtual 58, 3) := by decide +kernel
theorem dX7_isTeam_9 : decode cX7_isTeam 9 = .ok (.if_icmp .ge 7, 3) := by decide +kernel
theorem dX7_isTeam_12 : decode cX7_isTeam 12 = .ok (.iconst 1, 1) := by decide +kernel
theorem dX7_isTeam_13 : decode cX7_isTeam 13 = .ok (.goto 4, 3) := by decide +kernel
theorem dX7_isTeam_16 : decode cX7_isTeam 16 = .ok (.iconst 0, 1) := by decide +kernel
theorem dX7_isTeam_17 : decode cX7_isTeam 17 = .ok (.ireturn, 1) := by decide +kernel
theorem dX7_wasRound_0 : decode cX7_wasRound 0 = .ok (.iload_n 1, 1) := by decide +kernel
theorem dX7_wasRound_1 : decode cX7_wasRound 1 = .ok (.ifCond .lt 15, 3) := by decide +kernel
theorem dX7_wasRound_4 : decode cX7_wasRound 4 = .ok (.iload_n 1, 1) := by decide +kernel
theorem dX7_wasRound_5 : decode cX7_wasRound 5 = .ok (.aload_n 0, 1) := by decide +kernel
theorem dX7_wasRound_6 : decode cX7_wasRound 6 = .ok (.getfield 54, 3) := by decide +kernel
theorem dX7_wasRound_9 : decode cX7_wasRound 9 = .ok (.if_icmp .ge 7, 3) := by decide +kernel
theorem dX7_wasRound_12 : decode cX7_wasRound 12 = .ok (.iconst 1, 1) := by decide +kernel
theorem dX7_wasRound_13 : decode cX7_wasRound 13 = .ok (.goto 4, 3) := by decide +kernel
theorem dX7_wasRound_16 : decode cX7_wasRound 16 = .ok (.iconst 0, 1) := by decide +kernel
theorem dX7_wasRound_17 : decode cX7_wasRound 17 = .ok (.ireturn, 1) := by decide +kernel
theorem dX7_isNumber_0 : decode cX7_isNumber 0 = .ok (.iload_n 0, 1) := by decide +kernel
theorem dX7_isNumber_1 : decode cX7_isNumber 1 = .ok (.ifCond .lt 14, 3) := by decide +kernel
theorem dX7_isNumber_4 : decode cX7_isNumber 4 = .ok (.iload_n 0, 1) := by decide +kernel
theorem dX7_isNumber_5 : decode cX7_isNumber 5 = .ok (.sipush 10000, 3) := by decide +kernel
theorem dX7_isNumber_8 : decode cX7_isNumber 8 = .ok (.if_icmp .ge 7, 3) := by decide +kernel
theorem dX7_isNumber_11 : decode cX7_isNumber 11 = .ok (.iconst 1, 1) := by decide +kernel
theorem dX7_isNumber_12 : decode cX7_isNumber 12 = .ok (.goto 4, 3) := by decide +kernel
theorem dX7_isNumber_15 : decode cX7_isNumber 15 = .ok (.iconst 0, 1) := by decide +kernel
theorem dX7_isNumber_16 : decode cX7_isNumber 16 = .ok (.ireturn, 1) := by decide +kernel
set_option maxRecDepth 20000 in
theorem ggX7_find_X7_isTeam : GoodIn wsX7_find wsX7_isTeam := goodIn_r _ [7, 8, 9, 10, 6, 11, 1, 12, 13, 14, 15, 16, 17, 35, 36, 37, 38, 39, 40, 41, 42, 43, 44, 45, 46, 47] (by decide +kernel) (by decide +kernel)
set_option maxRecDepth 20000 in
theorem gX7_find_X7_isTeam : GoodIn wsX7_find (wsV RX7 117 RX7 yX7_isTeam wsX7_isTeam) := goodIn_app (goodIn_of _ (by decide +kernel)) ggX7_find_X7_isTeam
set_option maxRecDepth 20000 in
theorem ggX7_find_Jx4a65c_get_915e3 : GoodIn wsX7_find wsJx4a65c_get_915e3 := goodIn_r _ [21, 17, 22, 23, 24, 25, 26, 27, 28, 29, 30, 31, 32, 15, 33, 34, 45, 46, 47] (by decide +kernel) (by decide +kernel)
set_option maxRecDepth 20000 in
theorem gX7_find_Jx4a65c_get_915e3 : GoodIn wsX7_find (wsV RX7 142 RJx4a65c yJx4a65c_get_915e3 wsJx4a65c_get_915e3) := goodIn_app (goodIn_of _ (by decide +kernel)) ggX7_find_Jx4a65c_get_915e3
theorem dX7_find_0 : decode cX7_find 0 = .ok (.aload_n 0, 1) := by decide +kernel
theorem dX7_find_1 : decode cX7_find 1 = .ok (.iload_n 1, 1) := by decide +kernel
theorem dX7_find_2 : decode cX7_find 2 = .ok (.invokevirtual 117, 3) := by decide +kernel
theorem dX7_find_5 : decode cX7_find 5 = .ok (.ifCond .eq 12, 3) := by decide +kernel
theorem dX7_find_8 : decode cX7_find 8 = .ok (.iload_n 2, 1) := by decide +kernel
theorem dX7_find_9 : decode cX7_find 9 = .ok (.ifCond .lt 8, 3) := by decide +kernel
theorem dX7_find_12 : decode cX7_find 12 = .ok (.iload_n 2, 1) := by decide +kernel
theorem dX7_find_13 : decode cX7_find 13 = .ok (.iconst 3, 1) := by decide +kernel
theorem dX7_find_14 : decode cX7_find 14 = .ok (.if_icmp .lt 5, 3) := by decide +kernel
theorem dX7_find_17 : decode cX7_find 17 = .ok (.aconst_null, 1) := by decide +kernel
theorem dX7_find_18 : decode cX7_find 18 = .ok (.areturn, 1) := by decide +kernel
theorem dX7_find_19 : decode cX7_find 19 = .ok (.aload_n 0, 1) := by decide +kernel
theorem dX7_find_20 : decode cX7_find 20 = .ok (.getfield 16, 3) := by decide +kernel
theorem dX7_find_23 : decode cX7_find 23 = .ok (.iload_n 1, 1) := by decide +kernel
theorem dX7_find_24 : decode cX7_find 24 = .ok (.iconst 3, 1) := by decide +kernel
theorem dX7_find_25 : decode cX7_find 25 = .ok (.imul, 1) := by decide +kernel
theorem dX7_find_26 : decode cX7_find 26 = .ok (.iload_n 2, 1) := by decide +kernel
theorem dX7_find_27 : decode cX7_find 27 = .ok (.iadd, 1) := by decide +kernel
theorem dX7_find_28 : decode cX7_find 28 = .ok (.invokevirtual 142, 3) := by decide +kernel
theorem dX7_find_31 : decode cX7_find 31 = .ok (.checkcast 62, 3) := by decide +kernel
theorem dX7_find_34 : decode cX7_find 34 = .ok (.areturn, 1) := by decide +kernel
theorem dX7_mix_0 : decode cX7_mix 0 = .ok (.aload_n 0, 1) := by decide +kernel
theorem dX7_mix_1 : decode cX7_mix 1 = .ok (.getfield 7, 3) := by decide +kernel
theorem dX7_mix_4 : decode cX7_mix 4 = .ok (.iconst 1, 1) := by decide +kernel
theorem dX7_mix_5 : decode cX7_mix 5 = .ok (.iaload, 1) := by decide +kernel
theorem dX7_mix_6 : decode cX7_mix 6 = .ok (.bipush 31, 2) := by decide +kernel
theorem dX7_mix_8 : decode cX7_mix 8 = .ok (.imul, 1) := by decide +kernel
theorem dX7_mix_9 : decode cX7_mix 9 = .ok (.iload_n 1, 1) := by decide +kernel
theorem dX7_mix_10 : decode cX7_mix 10 = .ok (.bipush 17, 2) := by decide +kernel
theorem dX7_mix_12 : decode cX7_mix 12 = .ok (.imul, 1) := by decide +kernel
theorem dX7_mix_13 : decode cX7_mix 13 = .ok (.iadd, 1) := by decide +kernel
theorem dX7_mix_14 : decode cX7_mix 14 = .ok (.aload_n 2, 1) := by decide +kernel
theorem dX7_mix_15 : decode cX7_mix 15 = .ok (.getfield 222, 3) := by decide +kernel
theorem dX7_mix_18 : decode cX7_mix 18 = .ok (.bipush 7, 2) := by decide +kernel
theorem dX7_mix_20 : decode cX7_mix 20 = .ok (.imul, 1) := by decide +kernel
theorem dX7_mix_21 : decode cX7_mix 21 = .ok (.iadd, 1) := by decide +kernel
theorem dX7_mix_22 : decode cX7_mix 22 = .ok (.aload_n 2, 1) := by decide +kernel
theorem dX7_mix_23 : decode cX7_mix 23 = .ok (.getfield 232, 3) := by decide +kernel
theorem dX7_mix_26 : decode cX7_mix 26 = .ok (.iconst 3, 1) := by decide +kernel
theorem dX7_mix_27 : decode cX7_mix 27 = .ok (.imul, 1) := by decide +kernel
theorem dX7_mix_28 : decode cX7_mix 28 = .ok (.iadd, 1) := by decide +kernel
theorem dX7_mix_29 : decode cX7_mix 29 = .ok (.sipush 997, 3) := by decide +kernel
theorem dX7_mix_32 : decode cX7_mix 32 = .ok (.irem, 1) := by decide +kernel
theorem dX7_mix_33 : decode cX7_mix 33 = .ok (.ireturn, 1) := by decide +kernel
theorem dX7_flagOf_0 : decode cX7_flagOf 0 = .ok (.iload_n 0, 1) := by decide +kernel
theorem dX7_flagOf_1 : decode cX7_flagOf 1 = .ok (.bipush 13, 2) := by decide +kernel
theorem dX7_flagOf_3 : decode cX7_flagOf 3 = .ok (.imul, 1) := by decide +kernel
theorem dX7_flagOf_4 : decode cX7_flagOf 4 = .ok (.sipush 1000, 3) := by decide +kernel
theorem dX7_flagOf_7 : decode cX7_flagOf 7 = .ok (.iadd, 1) := by decide +kernel
theorem dX7_flagOf_8 : decode cX7_flagOf 8 = .ok (.sipush 10000, 3) := by decide +kernel
theorem dX7_flagOf_11 : decode cX7_flagOf 11 = .ok (.irem, 1) := by decide +kernel
theorem dX7_flagOf_12 : decode cX7_flagOf 12 = .ok (.ireturn, 1) := by decide +kernel
set_option maxRecDepth 20000 in
theorem ggX7_writeChecks_X7_mix : GoodIn wsX7_writeChecks wsX7_mix := goodIn_r _ [9, 4, 70, 71, 72, 73, 74, 75, 76, 77, 78, 79, 80, 81, 82, 83, 84, 85, 86, 87, 88, 89, 90, 91, 92, 93] (by decide +kernel) (by decide +kernel)
set_option maxRecDepth 20000 in
theorem gX7_writeChecks_X7_mix : GoodIn wsX7_writeChecks (wsV RX7 175 RX7 yX7_mix wsX7_mix) := goodIn_app (goodIn_of _ (by decide +kernel)) ggX7_writeChecks_X7_mix
set_option maxRecDepth 20000 in
theorem ggX7_writeChecks_X7_checkNumber : GoodIn wsX7_writeChecks wsX7_checkNumber := goodIn_r _ [12, 13, 14, 8, 15] (by decide +kernel) (by decide +kernel)
set_option maxRecDepth 20000 in
theorem gX7_writeChecks_X7_checkNumber : GoodIn wsX7_writeChecks (va_wsS RX7 238 yX7_checkNumber wsX7_checkNumber) := goodIn_app (goodIn_of _ (by decide +kernel)) ggX7_writeChecks_X7_checkNumber
set_option maxRecDepth 20000 in
theorem ggX7_writeChecks_X1_deliver : GoodIn wsX7_writeChecks wsX1_deliver := goodIn_r _ [19, 20, 21, 22, 23, 24, 25, 26, 27, 28, 29, 30, 17, 31, 32, 33, 34, 35, 36, 37, 38, 39, 40, 41, 42, 43, 44, 45, 46, 47, 48, 49, 50, 51, 52, 53, 54, 55, 56, 57, 80, 81, 82, 83, 84, 85, 86, 87, 88, 89, 90, 91, 92, 93, 94, 95, 96, 97, 98, 99, 100, 101, 102] (by decide +kernel) (by decide +kernel)
set_option maxRecDepth 20000 in
theorem gX7_writeChecks_X1_deliver_n132 : GoodIn wsX7_writeChecks (wsX1_deliver) := ggX7_writeChecks_X1_deliver
set_option maxRecDepth 20000 in
theorem ggX7_writeChecks_X7_dueAnswer : GoodIn wsX7_writeChecks wsX7_dueAnswer := goodIn_r _ [61, 4, 1, 13, 14, 8, 15, 5, 6, 7, 9, 70, 71, 72, 73, 74, 75, 76, 77, 78, 79, 80, 81, 82, 83, 84, 85, 86, 87, 88, 89, 90, 91, 92, 93] (by decide +kernel) (by decide +kernel)
set_option maxRecDepth 20000 in
theorem gX7_writeChecks_X7_dueAnswer : GoodIn wsX7_writeChecks (wsV RX7 241 RX7 yX7_dueAnswer wsX7_dueAnswer) := goodIn_app (goodIn_of _ (by decide +kernel)) ggX7_writeChecks_X7_dueAnswer
set_option maxRecDepth 20000 in
theorem ggX7_writeChecks_X5_keepCheck : GoodIn wsX7_writeChecks wsX5_keepCheck := goodIn_r _ [65, 66, 67, 68, 69, 80, 81, 82, 83, 84, 85, 86, 87, 88, 89, 90, 91, 92, 93] (by decide +kernel) (by decide +kernel)
set_option maxRecDepth 20000 in
theorem gX7_writeChecks_X5_keepCheck_n245 : GoodIn wsX7_writeChecks (wsX5_keepCheck) := ggX7_writeChecks_X5_keepCheck
theorem dX7_writeChecks_0 : decode cX7_writeChecks 0 = .ok (.aload_n 0, 1) := by decide +kernel
theorem dX7_writeChecks_1 : decode cX7_writeChecks 1 = .ok (.aload_n 0, 1) := by decide +kernel
theorem dX7_writeChecks_2 : decode cX7_writeChecks 2 = .ok (.getfield 54, 3) := by decide +kernel
theorem dX7_writeChecks_5 : decode cX7_writeChecks 5 = .ok (.aload_n 1, 1) := by decide +kernel
theorem dX7_writeChecks_6 : decode cX7_writeChecks 6 = .ok (.invokevirtual 175, 3) := by decide +kernel
theorem dX7_writeChecks_9 : decode cX7_writeChecks 9 = .ok (.istore_n 2, 1) := by decide +kernel
theorem dX7_writeChecks_10 : decode cX7_writeChecks 10 = .ok (.iload_n 2, 1) := by decide +kernel
theorem dX7_writeChecks_11 : decode cX7_writeChecks 11 = .ok (.bipush 6, 2) := by decide +kernel
theorem dX7_writeChecks_13 : decode cX7_writeChecks 13 = .ok (.irem, 1) := by decide +kernel
theorem dX7_writeChecks_14 : decode cX7_writeChecks 14 = .ok (.istore_n 3, 1) := by decide +kernel
theorem dX7_writeChecks_15 : decode cX7_writeChecks 15 = .ok (.iconst 0, 1) := by decide +kernel
theorem dX7_writeChecks_16 : decode cX7_writeChecks 16 = .ok (.istore 4, 2) := by decide +kernel
theorem dX7_writeChecks_18 : decode cX7_writeChecks 18 = .ok (.iconst 1, 1) := by decide +kernel
theorem dX7_writeChecks_19 : decode cX7_writeChecks 19 = .ok (.istore 5, 2) := by decide +kernel
theorem dX7_writeChecks_21 : decode cX7_writeChecks 21 = .ok (.iconst 0, 1) := by decide +kernel
theorem dX7_writeChecks_22 : decode cX7_writeChecks 22 = .ok (.istore 6, 2) := by decide +kernel
theorem dX7_writeChecks_24 : decode cX7_writeChecks 24 = .ok (.iload 6, 2) := by decide +kernel
theorem dX7_writeChecks_26 : decode cX7_writeChecks 26 = .ok (.iconst 3, 1) := by decide +kernel
theorem dX7_writeChecks_27 : decode cX7_writeChecks 27 = .ok (.if_icmp .ge 132, 3) := by decide +kernel
theorem dX7_writeChecks_30 : decode cX7_writeChecks 30 = .ok (.getstatic 235, 3) := by decide +kernel
theorem dX7_writeChecks_33 : decode cX7_writeChecks 33 = .ok (.iload_n 3, 1) := by decide +kernel
theorem dX7_writeChecks_34 : decode cX7_writeChecks 34 = .ok (.iconst 3, 1) := by decide +kernel
theorem dX7_writeChecks_35 : decode cX7_writeChecks 35 = .ok (.imul, 1) := by decide +kernel
theorem dX7_writeChecks_36 : decode cX7_writeChecks 36 = .ok (.iload 6, 2) := by decide +kernel
theorem dX7_writeChecks_38 : decode cX7_writeChecks 38 = .ok (.iadd, 1) := by decide +kernel
theorem dX7_writeChecks_39 : decode cX7_writeChecks 39 = .ok (.iaload, 1) := by decide +kernel
theorem dX7_writeChecks_40 : decode cX7_writeChecks 40 = .ok (.istore 7, 2) := by decide +kernel
theorem dX7_writeChecks_42 : decode cX7_writeChecks 42 = .ok (.iload 7, 2) := by decide +kernel
theorem dX7_writeChecks_44 : decode cX7_writeChecks 44 = .ok (.iload_n 2, 1) := by decide +kernel
theorem dX7_writeChecks_45 : decode cX7_writeChecks 45 = .ok (.invokestatic 238, 3) := by decide +kernel
theorem dX7_writeChecks_48 : decode cX7_writeChecks 48 = .ok (.istore 8, 2) := by decide +kernel
theorem dX7_writeChecks_50 : decode cX7_writeChecks 50 = .ok (.aload_n 0, 1) := by decide +kernel
theorem dX7_writeChecks_51 : decode cX7_writeChecks 51 = .ok (.getfield 40, 3) := by decide +kernel
theorem dX7_writeChecks_54 : decode cX7_writeChecks 54 = .ok (.aload_n 1, 1) := by decide +kernel
theorem dX7_writeChecks_55 : decode cX7_writeChecks 55 = .ok (.iload 7, 2) := by decide +kernel
theorem dX7_writeChecks_57 : decode cX7_writeChecks 57 = .ok (.iconst 1, 1) := by decide +kernel
theorem dX7_writeChecks_58 : decode cX7_writeChecks 58 = .ok (.iadd, 1) := by decide +kernel
theorem dX7_writeChecks_59 : decode cX7_writeChecks 59 = .ok (.iload 8, 2) := by decide +kernel
theorem dX7_writeChecks_61 : decode cX7_writeChecks 61 = .ok (.aload_n 0, 1) := by decide +kernel
theorem dX7_writeChecks_62 : decode cX7_writeChecks 62 = .ok (.getfield 7, 3) := by decide +kernel
theorem dX7_writeChecks_65 : decode cX7_writeChecks 65 = .ok (.iconst 0, 1) := by decide +kernel
theorem dX7_writeChecks_66 : decode cX7_writeChecks 66 = .ok (.iaload, 1) := by decide +kernel
theorem dX7_writeChecks_67 : decode cX7_writeChecks 67 = .ok (.invokevirtual 132, 3) := by decide +kernel
end
section
theorem dX7_writeChecks_70 : decode cX7_writeChecks 70 = .ok (.istore 9, 2) := by decide +kernel
theorem dX7_writeChecks_72 : decode cX7_writeChecks 72 = .ok (.aload_n 0, 1) := by decide +kernel
theorem dX7_writeChecks_73 : decode cX7_writeChecks 73 = .ok (.iload 7, 2) := by decide +kernel
theorem dX7_writeChecks_75 : decode cX7_writeChecks 75 = .ok (.aload_n 1, 1) := by decide +kernel
theorem dX7_writeChecks_76 : decode cX7_writeChecks 76 = .ok (.iload_n 2, 1) := by decide +kernel
theorem dX7_writeChecks_77 : decode cX7_writeChecks 77 = .ok (.iload 4, 2) := by decide +kernel
theorem dX7_writeChecks_79 : decode cX7_writeChecks 79 = .ok (.invokevirtual 241, 3) := by decide +kernel
theorem dX7_writeChecks_82 : decode cX7_writeChecks 82 = .ok (.istore 10, 2) := by decide +kernel
theorem dX7_writeChecks_84 : decode cX7_writeChecks 84 = .ok (.iload 10, 2) := by decide +kernel
theorem dX7_writeChecks_86 : decode cX7_writeChecks 86 = .ok (.iconst (-1), 1) := by decide +kernel
theorem dX7_writeChecks_87 : decode cX7_writeChecks 87 = .ok (.if_icmp .eq 10, 3) := by decide +kernel
theorem dX7_writeChecks_90 : decode cX7_writeChecks 90 = .ok (.iload 10, 2) := by decide +kernel
theorem dX7_writeChecks_92 : decode cX7_writeChecks 92 = .ok (.iload 9, 2) := by decide +kernel
theorem dX7_writeChecks_94 : decode cX7_writeChecks 94 = .ok (.if_icmp .ne 7, 3) := by decide +kernel
theorem dX7_writeChecks_97 : decode cX7_writeChecks 97 = .ok (.iconst 1, 1) := by decide +kernel
theorem dX7_writeChecks_98 : decode cX7_writeChecks 98 = .ok (.goto 4, 3) := by decide +kernel
theorem dX7_writeChecks_101 : decode cX7_writeChecks 101 = .ok (.iconst 0, 1) := by decide +kernel
theorem dX7_writeChecks_102 : decode cX7_writeChecks 102 = .ok (.istore 11, 2) := by decide +kernel
theorem dX7_writeChecks_104 : decode cX7_writeChecks 104 = .ok (.aload_n 1, 1) := by decide +kernel
theorem dX7_writeChecks_105 : decode cX7_writeChecks 105 = .ok (.iload 6, 2) := by decide +kernel
theorem dX7_writeChecks_107 : decode cX7_writeChecks 107 = .ok (.iload 7, 2) := by decide +kernel
theorem dX7_writeChecks_109 : decode cX7_writeChecks 109 = .ok (.iload 8, 2) := by decide +kernel
theorem dX7_writeChecks_111 : decode cX7_writeChecks 111 = .ok (.iload 9, 2) := by decide +kernel
theorem dX7_writeChecks_113 : decode cX7_writeChecks 113 = .ok (.iload 11, 2) := by decide +kernel
theorem dX7_writeChecks_115 : decode cX7_writeChecks 115 = .ok (.invokevirtual 245, 3) := by decide +kernel
theorem dX7_writeChecks_118 : decode cX7_writeChecks 118 = .ok (.iload 4, 2) := by decide +kernel
theorem dX7_writeChecks_120 : decode cX7_writeChecks 120 = .ok (.ifCond .ne 9, 3) := by decide +kernel
theorem dX7_writeChecks_123 : decode cX7_writeChecks 123 = .ok (.iload 7, 2) := by decide +kernel
theorem dX7_writeChecks_125 : decode cX7_writeChecks 125 = .ok (.iconst 1, 1) := by decide +kernel
theorem dX7_writeChecks_126 : decode cX7_writeChecks 126 = .ok (.if_icmp .ne 7, 3) := by decide +kernel
theorem dX7_writeChecks_129 : decode cX7_writeChecks 129 = .ok (.iconst 1, 1) := by decide +kernel
theorem dX7_writeChecks_130 : decode cX7_writeChecks 130 = .ok (.goto 4, 3) := by decide +kernel
theorem dX7_writeChecks_133 : decode cX7_writeChecks 133 = .ok (.iconst 0, 1) := by decide +kernel
theorem dX7_writeChecks_134 : decode cX7_writeChecks 134 = .ok (.istore 4, 2) := by decide +kernel
theorem dX7_writeChecks_136 : decode cX7_writeChecks 136 = .ok (.iload 5, 2) := by decide +kernel
theorem dX7_writeChecks_138 : decode cX7_writeChecks 138 = .ok (.ifCond .eq 12, 3) := by decide +kernel
theorem dX7_writeChecks_141 : decode cX7_writeChecks 141 = .ok (.iload 11, 2) := by decide +kernel
theorem dX7_writeChecks_143 : decode cX7_writeChecks 143 = .ok (.ifCond .eq 7, 3) := by decide +kernel
theorem dX7_writeChecks_146 : decode cX7_writeChecks 146 = .ok (.iconst 1, 1) := by decide +kernel
theorem dX7_writeChecks_147 : decode cX7_writeChecks 147 = .ok (.goto 4, 3) := by decide +kernel
theorem dX7_writeChecks_150 : decode cX7_writeChecks 150 = .ok (.iconst 0, 1) := by decide +kernel
theorem dX7_writeChecks_151 : decode cX7_writeChecks 151 = .ok (.istore 5, 2) := by decide +kernel
theorem dX7_writeChecks_153 : decode cX7_writeChecks 153 = .ok (.iinc 6 1, 3) := by decide +kernel
theorem dX7_writeChecks_156 : decode cX7_writeChecks 156 = .ok (.goto (-132), 3) := by decide +kernel
theorem dX7_writeChecks_159 : decode cX7_writeChecks 159 = .ok (.iload 5, 2) := by decide +kernel
theorem dX7_writeChecks_161 : decode cX7_writeChecks 161 = .ok (.ireturn, 1) := by decide +kernel
set_option maxRecDepth 20000 in
theorem ggX7_checkNumber_X7_flagOf : GoodIn wsX7_checkNumber wsX7_flagOf := goodIn_r _ [4] (by decide +kernel) (by decide +kernel)
set_option maxRecDepth 20000 in
theorem gX7_checkNumber_X7_flagOf : GoodIn wsX7_checkNumber (va_wsS RX7 179 yX7_flagOf wsX7_flagOf) := goodIn_app (goodIn_of _ (by decide +kernel)) ggX7_checkNumber_X7_flagOf
theorem dX7_checkNumber_0 : decode cX7_checkNumber 0 = .ok (.iload_n 0, 1) := by decide +kernel
theorem dX7_checkNumber_1 : decode cX7_checkNumber 1 = .ok (.ifCond .ne 5, 3) := by decide +kernel
theorem dX7_checkNumber_4 : decode cX7_checkNumber 4 = .ok (.iload_n 1, 1) := by decide +kernel
theorem dX7_checkNumber_5 : decode cX7_checkNumber 5 = .ok (.ireturn, 1) := by decide +kernel
theorem dX7_checkNumber_6 : decode cX7_checkNumber 6 = .ok (.iload_n 0, 1) := by decide +kernel
theorem dX7_checkNumber_7 : decode cX7_checkNumber 7 = .ok (.iconst 1, 1) := by decide +kernel
theorem dX7_checkNumber_8 : decode cX7_checkNumber 8 = .ok (.if_icmp .ne 10, 3) := by decide +kernel
theorem dX7_checkNumber_11 : decode cX7_checkNumber 11 = .ok (.iload_n 1, 1) := by decide +kernel
theorem dX7_checkNumber_12 : decode cX7_checkNumber 12 = .ok (.invokestatic 179, 3) := by decide +kernel
theorem dX7_checkNumber_15 : decode cX7_checkNumber 15 = .ok (.goto 4, 3) := by decide +kernel
theorem dX7_checkNumber_18 : decode cX7_checkNumber 18 = .ok (.iconst 0, 1) := by decide +kernel
theorem dX7_checkNumber_19 : decode cX7_checkNumber 19 = .ok (.ireturn, 1) := by decide +kernel
set_option maxRecDepth 20000 in
theorem ggX7_dueAnswer_X7_flagOf : GoodIn wsX7_dueAnswer wsX7_flagOf := goodIn_r _ [6] (by decide +kernel) (by decide +kernel)
set_option maxRecDepth 20000 in
theorem gX7_dueAnswer_X7_flagOf : GoodIn wsX7_dueAnswer (va_wsS RX7 179 yX7_flagOf wsX7_flagOf) := goodIn_app (goodIn_of _ (by decide +kernel)) ggX7_dueAnswer_X7_flagOf
set_option maxRecDepth 20000 in
theorem ggX7_dueAnswer_X7_mix : GoodIn wsX7_dueAnswer wsX7_mix := goodIn_r _ [10, 1, 11, 12, 13, 14, 15, 16, 17, 18, 19, 20, 21, 22, 23, 24, 25, 26, 27, 28, 29, 30, 31, 32, 33, 34] (by decide +kernel) (by decide +kernel)
set_option maxRecDepth 20000 in
theorem gX7_dueAnswer_X7_mix : GoodIn wsX7_dueAnswer (wsV RX7 175 RX7 yX7_mix wsX7_mix) := goodIn_app (goodIn_of _ (by decide +kernel)) ggX7_dueAnswer_X7_mix
theorem dX7_dueAnswer_0 : decode cX7_dueAnswer 0 = .ok (.iload_n 1, 1) := by decide +kernel
theorem dX7_dueAnswer_1 : decode cX7_dueAnswer 1 = .ok (.ifCond .ne 21, 3) := by decide +kernel
theorem dX7_dueAnswer_4 : decode cX7_dueAnswer 4 = .ok (.iload_n 3, 1) := by decide +kernel
theorem dX7_dueAnswer_5 : decode cX7_dueAnswer 5 = .ok (.aload_n 0, 1) := by decide +kernel
theorem dX7_dueAnswer_6 : decode cX7_dueAnswer 6 = .ok (.getfield 7, 3) := by decide +kernel
theorem dX7_dueAnswer_9 : decode cX7_dueAnswer 9 = .ok (.iconst 4, 1) := by decide +kernel
theorem dX7_dueAnswer_10 : decode cX7_dueAnswer 10 = .ok (.aload_n 2, 1) := by decide +kernel
theorem dX7_dueAnswer_11 : decode cX7_dueAnswer 11 = .ok (.getfield 232, 3) := by decide +kernel
theorem dX7_dueAnswer_14 : decode cX7_dueAnswer 14 = .ok (.iadd, 1) := by decide +kernel
theorem dX7_dueAnswer_15 : decode cX7_dueAnswer 15 = .ok (.iaload, 1) := by decide +kernel
theorem dX7_dueAnswer_16 : decode cX7_dueAnswer 16 = .ok (.iadd, 1) := by decide +kernel
theorem dX7_dueAnswer_17 : decode cX7_dueAnswer 17 = .ok (.sipush 10000, 3) := by decide +kernel
theorem dX7_dueAnswer_20 : decode cX7_dueAnswer 20 = .ok (.irem, 1) := by decide +kernel
theorem dX7_dueAnswer_21 : decode cX7_dueAnswer 21 = .ok (.ireturn, 1) := by decide +kernel
theorem dX7_dueAnswer_22 : decode cX7_dueAnswer 22 = .ok (.iload_n 1, 1) := by decide +kernel
theorem dX7_dueAnswer_23 : decode cX7_dueAnswer 23 = .ok (.iconst 1, 1) := by decide +kernel
theorem dX7_dueAnswer_24 : decode cX7_dueAnswer 24 = .ok (.if_icmp .ne 5, 3) := by decide +kernel
theorem dX7_dueAnswer_27 : decode cX7_dueAnswer 27 = .ok (.iconst 0, 1) := by decide +kernel
theorem dX7_dueAnswer_28 : decode cX7_dueAnswer 28 = .ok (.ireturn, 1) := by decide +kernel
theorem dX7_dueAnswer_29 : decode cX7_dueAnswer 29 = .ok (.iload 4, 2) := by decide +kernel
theorem dX7_dueAnswer_31 : decode cX7_dueAnswer 31 = .ok (.ifCond .eq 8, 3) := by decide +kernel
theorem dX7_dueAnswer_34 : decode cX7_dueAnswer 34 = .ok (.iload_n 3, 1) := by decide +kernel
theorem dX7_dueAnswer_35 : decode cX7_dueAnswer 35 = .ok (.invokestatic 179, 3) := by decide +kernel
theorem dX7_dueAnswer_38 : decode cX7_dueAnswer 38 = .ok (.ireturn, 1) := by decide +kernel
theorem dX7_dueAnswer_39 : decode cX7_dueAnswer 39 = .ok (.aload_n 0, 1) := by decide +kernel
theorem dX7_dueAnswer_40 : decode cX7_dueAnswer 40 = .ok (.getfield 54, 3) := by decide +kernel
theorem dX7_dueAnswer_43 : decode cX7_dueAnswer 43 = .ok (.ifCond .ne 7, 3) := by decide +kernel
theorem dX7_dueAnswer_46 : decode cX7_dueAnswer 46 = .ok (.iconst (-1), 1) := by decide +kernel
theorem dX7_dueAnswer_47 : decode cX7_dueAnswer 47 = .ok (.goto 17, 3) := by decide +kernel
theorem dX7_dueAnswer_50 : decode cX7_dueAnswer 50 = .ok (.aload_n 0, 1) := by decide +kernel
theorem dX7_dueAnswer_51 : decode cX7_dueAnswer 51 = .ok (.aload_n 0, 1) := by decide +kernel
theorem dX7_dueAnswer_52 : decode cX7_dueAnswer 52 = .ok (.getfield 54, 3) := by decide +kernel
theorem dX7_dueAnswer_55 : decode cX7_dueAnswer 55 = .ok (.iconst 1, 1) := by decide +kernel
theorem dX7_dueAnswer_56 : decode cX7_dueAnswer 56 = .ok (.isub, 1) := by decide +kernel
theorem dX7_dueAnswer_57 : decode cX7_dueAnswer 57 = .ok (.aload_n 2, 1) := by decide +kernel
theorem dX7_dueAnswer_58 : decode cX7_dueAnswer 58 = .ok (.invokevirtual 175, 3) := by decide +kernel
theorem dX7_dueAnswer_61 : decode cX7_dueAnswer 61 = .ok (.invokestatic 179, 3) := by decide +kernel
theorem dX7_dueAnswer_64 : decode cX7_dueAnswer 64 = .ok (.ireturn, 1) := by decide +kernel
set_option maxRecDepth 20000 in
theorem ggX7_roundThatCounts_X7_mix : GoodIn wsX7_roundThatCounts wsX7_mix := goodIn_r _ [11, 2, 20, 21, 22, 23, 24, 25, 26, 27, 28, 29, 30, 31, 32, 33, 34, 35, 36, 37, 38, 39, 40, 41, 42, 43] (by decide +kernel) (by decide +kernel)
set_option maxRecDepth 20000 in
theorem gX7_roundThatCounts_X7_mix : GoodIn wsX7_roundThatCounts (wsV RX7 175 RX7 yX7_mix wsX7_mix) := goodIn_app (goodIn_of _ (by decide +kernel)) ggX7_roundThatCounts_X7_mix
set_option maxRecDepth 20000 in
theorem ggX7_roundThatCounts_X7_flagOf : GoodIn wsX7_roundThatCounts wsX7_flagOf := goodIn_r _ [14] (by decide +kernel) (by decide +kernel)
set_option maxRecDepth 20000 in
theorem gX7_roundThatCounts_X7_flagOf : GoodIn wsX7_roundThatCounts (va_wsS RX7 179 yX7_flagOf wsX7_flagOf) := goodIn_app (goodIn_of _ (by decide +kernel)) ggX7_roundThatCounts_X7_flagOf
set_option maxRecDepth 20000 in
theorem ggX7_roundThatCounts_X5_isTaken : GoodIn wsX7_roundThatCounts wsX5_isTaken := goodIn_r _ [18, 19, 30, 31, 32, 33, 34, 35, 36, 37, 38, 39, 40, 41, 42, 43] (by decide +kernel) (by decide +kernel)
set_option maxRecDepth 20000 in
theorem gX7_roundThatCounts_X5_isTaken_n254 : GoodIn wsX7_roundThatCounts (wsX5_isTaken) := ggX7_roundThatCounts_X5_isTaken
theorem dX7_roundThatCounts_0 : decode cX7_roundThatCounts 0 = .ok (.iconst 0, 1) := by decide +kernel
theorem dX7_roundThatCounts_1 : decode cX7_roundThatCounts 1 = .ok (.aload_n 0, 1) := by decide +kernel
theorem dX7_roundThatCounts_2 : decode cX7_roundThatCounts 2 = .ok (.getfield 54, 3) := by decide +kernel
theorem dX7_roundThatCounts_5 : decode cX7_roundThatCounts 5 = .ok (.aload_n 0, 1) := by decide +kernel
theorem dX7_roundThatCounts_6 : decode cX7_roundThatCounts 6 = .ok (.getfield 7, 3) := by decide +kernel
theorem dX7_roundThatCounts_9 : decode cX7_roundThatCounts 9 = .ok (.iconst 2, 1) := by decide +kernel
theorem dX7_roundThatCounts_10 : decode cX7_roundThatCounts 10 = .ok (.iaload, 1) := by decide +kernel
theorem dX7_roundThatCounts_11 : decode cX7_roundThatCounts 11 = .ok (.isub, 1) := by decide +kernel
theorem dX7_roundThatCounts_12 : decode cX7_roundThatCounts 12 = .ok (.invokestatic 249, 3) := by decide +kernel
theorem dX7_roundThatCounts_15 : decode cX7_roundThatCounts 15 = .ok (.istore 4, 2) := by decide +kernel
theorem dX7_roundThatCounts_17 : decode cX7_roundThatCounts 17 = .ok (.aload_n 0, 1) := by decide +kernel
theorem dX7_roundThatCounts_18 : decode cX7_roundThatCounts 18 = .ok (.getfield 54, 3) := by decide +kernel
theorem dX7_roundThatCounts_21 : decode cX7_roundThatCounts 21 = .ok (.iconst 1, 1) := by decide +kernel
theorem dX7_roundThatCounts_22 : decode cX7_roundThatCounts 22 = .ok (.isub, 1) := by decide +kernel
theorem dX7_roundThatCounts_23 : decode cX7_roundThatCounts 23 = .ok (.istore 5, 2) := by decide +kernel
theorem dX7_roundThatCounts_25 : decode cX7_roundThatCounts 25 = .ok (.iload 5, 2) := by decide +kernel
theorem dX7_roundThatCounts_27 : decode cX7_roundThatCounts 27 = .ok (.iload 4, 2) := by decide +kernel
theorem dX7_roundThatCounts_29 : decode cX7_roundThatCounts 29 = .ok (.if_icmp .lt 38, 3) := by decide +kernel
theorem dX7_roundThatCounts_32 : decode cX7_roundThatCounts 32 = .ok (.aload_n 0, 1) := by decide +kernel
theorem dX7_roundThatCounts_33 : decode cX7_roundThatCounts 33 = .ok (.iload 5, 2) := by decide +kernel
theorem dX7_roundThatCounts_35 : decode cX7_roundThatCounts 35 = .ok (.aload_n 2, 1) := by decide +kernel
theorem dX7_roundThatCounts_36 : decode cX7_roundThatCounts 36 = .ok (.invokevirtual 175, 3) := by decide +kernel
theorem dX7_roundThatCounts_39 : decode cX7_roundThatCounts 39 = .ok (.invokestatic 179, 3) := by decide +kernel
theorem dX7_roundThatCounts_42 : decode cX7_roundThatCounts 42 = .ok (.iload_n 3, 1) := by decide +kernel
theorem dX7_roundThatCounts_43 : decode cX7_roundThatCounts 43 = .ok (.if_icmp .ne 18, 3) := by decide +kernel
theorem dX7_roundThatCounts_46 : decode cX7_roundThatCounts 46 = .ok (.aload_n 2, 1) := by decide +kernel
theorem dX7_roundThatCounts_47 : decode cX7_roundThatCounts 47 = .ok (.iload_n 1, 1) := by decide +kernel
theorem dX7_roundThatCounts_48 : decode cX7_roundThatCounts 48 = .ok (.iload 5, 2) := by decide +kernel
theorem dX7_roundThatCounts_50 : decode cX7_roundThatCounts 50 = .ok (.bipush 100, 2) := by decide +kernel
theorem dX7_roundThatCounts_52 : decode cX7_roundThatCounts 52 = .ok (.invokevirtual 254, 3) := by decide +kernel
theorem dX7_roundThatCounts_55 : decode cX7_roundThatCounts 55 = .ok (.ifCond .ne 6, 3) := by decide +kernel
theorem dX7_roundThatCounts_58 : decode cX7_roundThatCounts 58 = .ok (.iload 5, 2) := by decide +kernel
theorem dX7_roundThatCounts_60 : decode cX7_roundThatCounts 60 = .ok (.ireturn, 1) := by decide +kernel
theorem dX7_roundThatCounts_61 : decode cX7_roundThatCounts 61 = .ok (.iinc 5 (-1), 3) := by decide +kernel
theorem dX7_roundThatCounts_64 : decode cX7_roundThatCounts 64 = .ok (.goto (-39), 3) := by decide +kernel
theorem dX7_roundThatCounts_67 : decode cX7_roundThatCounts 67 = .ok (.iconst (-1), 1) := by decide +kernel
theorem dX7_roundThatCounts_68 : decode cX7_roundThatCounts 68 = .ok (.ireturn, 1) := by decide +kernel
set_option maxRecDepth 20000 in
theorem ggX7_pointsAhead_X7_upPoints : GoodIn wsX7_pointsAhead wsX7_upPoints := goodIn_r _ [5, 6, 7, 8, 9, 10, 11, 12, 13, 14, 15, 16, 17, 18, 19, 20, 21, 22, 23, 24, 25, 26, 27, 28, 29, 30, 31, 32, 33, 34, 35, 58, 59, 60, 61, 62, 63, 64, 65, 66, 67, 68, 69, 70, 71, 72, 73, 74, 75, 76, 77, 78, 79, 80, 81, 82, 83, 84] (by decide +kernel) (by decide +kernel)
set_option maxRecDepth 20000 in
theorem gX7_pointsAhead_X7_upPoints : GoodIn wsX7_pointsAhead (wsV RX7 201 RX7 yX7_upPoints wsX7_upPoints) := goodIn_app (goodIn_of _ (by decide +kernel)) ggX7_pointsAhead_X7_upPoints
set_option maxRecDepth 20000 in
theorem ggX7_pointsAhead_X7_stolenPoints : GoodIn wsX7_pointsAhead wsX7_stolenPoints := goodIn_r _ [39, 40, 41, 13, 14, 15, 16, 17, 18, 19, 20, 21, 22, 23, 24, 25, 26, 27, 28, 29, 30, 31, 32, 33, 34, 35, 42, 43, 44, 45, 46, 47, 48, 49, 50, 51, 52, 4, 53, 58, 59, 60, 61, 62, 63, 64, 65, 66, 67, 85, 86, 87, 82, 83, 84, 68, 69, 70, 71, 72, 73, 74, 75, 76, 77, 78, 79, 80, 81] (by decide +kernel) (by decide +kernel)
set_option maxRecDepth 20000 in
theorem gX7_pointsAhead_X7_stolenPoints : GoodIn wsX7_pointsAhead (wsV RX7 204 RX7 yX7_stolenPoints wsX7_stolenPoints) := goodIn_app (goodIn_of _ (by decide +kernel)) ggX7_pointsAhead_X7_stolenPoints
set_option maxRecDepth 20000 in
theorem ggX7_pointsAhead_X7_takenOff : GoodIn wsX7_pointsAhead wsX7_takenOff := goodIn_r _ [57, 40, 41, 13, 14, 15, 16, 17, 18, 19, 20, 21, 22, 23, 24, 25, 26, 27, 28, 29, 30, 31, 32, 33, 34, 35, 42, 43, 44, 45, 46, 58, 59, 60, 61, 62, 63, 64, 65, 66, 67, 85, 86, 87, 68, 69, 70, 71, 72, 73, 74, 75, 76, 77, 78, 79, 80, 81, 82, 83, 84] (by decide +kernel) (by decide +kernel)
set_option maxRecDepth 20000 in
theorem gX7_pointsAhead_X7_takenOff : GoodIn wsX7_pointsAhead (wsV RX7 207 RX7 yX7_takenOff wsX7_takenOff) := goodIn_app (goodIn_of _ (by decide +kernel)) ggX7_pointsAhead_X7_takenOff
theorem dX7_pointsAhead_0 : decode cX7_pointsAhead 0 = .ok (.aload_n 0, 1) := by decide +kernel
theorem dX7_pointsAhead_1 : decode cX7_pointsAhead 1 = .ok (.iload_n 1, 1) := by decide +kernel
theorem dX7_pointsAhead_2 : decode cX7_pointsAhead 2 = .ok (.iload_n 2, 1) := by decide +kernel
theorem dX7_pointsAhead_3 : decode cX7_pointsAhead 3 = .ok (.invokevirtual 201, 3) := by decide +kernel
theorem dX7_pointsAhead_6 : decode cX7_pointsAhead 6 = .ok (.aload_n 0, 1) := by decide +kernel
theorem dX7_pointsAhead_7 : decode cX7_pointsAhead 7 = .ok (.iload_n 1, 1) := by decide +kernel
theorem dX7_pointsAhead_8 : decode cX7_pointsAhead 8 = .ok (.iload_n 2, 1) := by decide +kernel
theorem dX7_pointsAhead_9 : decode cX7_pointsAhead 9 = .ok (.invokevirtual 204, 3) := by decide +kernel
theorem dX7_pointsAhead_12 : decode cX7_pointsAhead 12 = .ok (.iadd, 1) := by decide +kernel
theorem dX7_pointsAhead_13 : decode cX7_pointsAhead 13 = .ok (.aload_n 0, 1) := by decide +kernel
theorem dX7_pointsAhead_14 : decode cX7_pointsAhead 14 = .ok (.iload_n 1, 1) := by decide +kernel
theorem dX7_pointsAhead_15 : decode cX7_pointsAhead 15 = .ok (.iload_n 2, 1) := by decide +kernel
theorem dX7_pointsAhead_16 : decode cX7_pointsAhead 16 = .ok (.invokevirtual 207, 3) := by decide +kernel
theorem dX7_pointsAhead_19 : decode cX7_pointsAhead 19 = .ok (.isub, 1) := by decide +kernel
theorem dX7_pointsAhead_20 : decode cX7_pointsAhead 20 = .ok (.ireturn, 1) := by decide +kernel
set_option maxRecDepth 20000 in
theorem ggX7_upPoints_Jx4a65c_size_8abf5 : GoodIn wsX7_upPoints wsJx4a65c_size_8abf5 := goodIn_r _ [12, 13, 55, 56, 57] (by decide +kernel) (by decide +kernel)
set_option maxRecDepth 20000 in
theorem gX7_upPoints_Jx4a65c_size_8abf5 : GoodIn wsX7_upPoints (wsV RX7 140 RJx4a65c yJx4a65c_size_8abf5 wsJx4a65c_size_8abf5) := goodIn_app (goodIn_of _ (by decide +kernel)) ggX7_upPoints_Jx4a65c_size_8abf5
set_option maxRecDepth 20000 in
theorem ggX7_upPoints_Jx4a65c_get_915e3 : GoodIn wsX7_upPoints wsJx4a65c_get_915e3 := goodIn_r _ [17, 13, 18, 19, 20, 21, 22, 23, 24, 25, 26, 27, 28, 11, 29, 30, 55, 56, 57] (by decide +kernel) (by decide +kernel)
set_option maxRecDepth 20000 in
theorem gX7_upPoints_Jx4a65c_get_915e3 : GoodIn wsX7_upPoints (wsV RX7 142 RJx4a65c yJx4a65c_get_915e3 wsJx4a65c_get_915e3) := goodIn_app (goodIn_of _ (by decide +kernel)) ggX7_upPoints_Jx4a65c_get_915e3
theorem dX7_upPoints_0 : decode cX7_upPoints 0 = .ok (.aload_n 0, 1) := by decide +kernel
theorem dX7_upPoints_1 : decode cX7_upPoints 1 = .ok (.getfield 54, 3) := by decide +kernel
theorem dX7_upPoints_4 : decode cX7_upPoints 4 = .ok (.iload_n 2, 1) := by decide +kernel
theorem dX7_upPoints_5 : decode cX7_upPoints 5 = .ok (.invokestatic 258, 3) := by decide +kernel
theorem dX7_upPoints_8 : decode cX7_upPoints 8 = .ok (.istore_n 3, 1) := by decide +kernel
theorem dX7_upPoints_9 : decode cX7_upPoints 9 = .ok (.iconst 0, 1) := by decide +kernel
theorem dX7_upPoints_10 : decode cX7_upPoints 10 = .ok (.istore 4, 2) := by decide +kernel
theorem dX7_upPoints_12 : decode cX7_upPoints 12 = .ok (.iconst 0, 1) := by decide +kernel
theorem dX7_upPoints_13 : decode cX7_upPoints 13 = .ok (.istore 5, 2) := by decide +kernel
theorem dX7_upPoints_15 : decode cX7_upPoints 15 = .ok (.iload 5, 2) := by decide +kernel
theorem dX7_upPoints_17 : decode cX7_upPoints 17 = .ok (.aload_n 0, 1) := by decide +kernel
theorem dX7_upPoints_18 : decode cX7_upPoints 18 = .ok (.getfield 16, 3) := by decide +kernel
theorem dX7_upPoints_21 : decode cX7_upPoints 21 = .ok (.invokevirtual 140, 3) := by decide +kernel
theorem dX7_upPoints_24 : decode cX7_upPoints 24 = .ok (.if_icmp .ge 47, 3) := by decide +kernel
theorem dX7_upPoints_27 : decode cX7_upPoints 27 = .ok (.aload_n 0, 1) := by decide +kernel
theorem dX7_upPoints_28 : decode cX7_upPoints 28 = .ok (.getfield 16, 3) := by decide +kernel
theorem dX7_upPoints_31 : decode cX7_upPoints 31 = .ok (.iload 5, 2) := by decide +kernel
theorem dX7_upPoints_33 : decode cX7_upPoints 33 = .ok (.invokevirtual 142, 3) := by decide +kernel
theorem dX7_upPoints_36 : decode cX7_upPoints 36 = .ok (.checkcast 62, 3) := by decide +kernel
theorem dX7_upPoints_39 : decode cX7_upPoints 39 = .ok (.astore 6, 2) := by decide +kernel
theorem dX7_upPoints_41 : decode cX7_upPoints 41 = .ok (.aload 6, 2) := by decide +kernel
theorem dX7_upPoints_43 : decode cX7_upPoints 43 = .ok (.getfield 222, 3) := by decide +kernel
theorem dX7_upPoints_46 : decode cX7_upPoints 46 = .ok (.iload_n 1, 1) := by decide +kernel
theorem dX7_upPoints_47 : decode cX7_upPoints 47 = .ok (.if_icmp .ne 18, 3) := by decide +kernel
theorem dX7_upPoints_50 : decode cX7_upPoints 50 = .ok (.iload 4, 2) := by decide +kernel
theorem dX7_upPoints_52 : decode cX7_upPoints 52 = .ok (.bipush 10, 2) := by decide +kernel
theorem dX7_upPoints_54 : decode cX7_upPoints 54 = .ok (.aload 6, 2) := by decide +kernel
theorem dX7_upPoints_56 : decode cX7_upPoints 56 = .ok (.getfield 102, 3) := by decide +kernel
theorem dX7_upPoints_59 : decode cX7_upPoints 59 = .ok (.iload_n 3, 1) := by decide +kernel
theorem dX7_upPoints_60 : decode cX7_upPoints 60 = .ok (.iaload, 1) := by decide +kernel
theorem dX7_upPoints_61 : decode cX7_upPoints 61 = .ok (.imul, 1) := by decide +kernel
theorem dX7_upPoints_62 : decode cX7_upPoints 62 = .ok (.iadd, 1) := by decide +kernel
theorem dX7_upPoints_63 : decode cX7_upPoints 63 = .ok (.istore 4, 2) := by decide +kernel
theorem dX7_upPoints_65 : decode cX7_upPoints 65 = .ok (.iinc 5 1, 3) := by decide +kernel
theorem dX7_upPoints_68 : decode cX7_upPoints 68 = .ok (.goto (-53), 3) := by decide +kernel
theorem dX7_upPoints_71 : decode cX7_upPoints 71 = .ok (.iload 4, 2) := by decide +kernel
theorem dX7_upPoints_73 : decode cX7_upPoints 73 = .ok (.ireturn, 1) := by decide +kernel
set_option maxRecDepth 20000 in
theorem ggX7_stolenPoints_Jx4a65c_size_8abf5 : GoodIn wsX7_stolenPoints wsJx4a65c_size_8abf5 := goodIn_r _ [7, 8, 52, 53, 54] (by decide +kernel) (by decide +kernel)
set_option maxRecDepth 20000 in
theorem gX7_stolenPoints_Jx4a65c_size_8abf5 : GoodIn wsX7_stolenPoints (wsV RX7 140 RJx4a65c yJx4a65c_size_8abf5 wsJx4a65c_size_8abf5) := goodIn_app (goodIn_of _ (by decide +kernel)) ggX7_stolenPoints_Jx4a65c_size_8abf5
set_option maxRecDepth 20000 in
theorem ggX7_stolenPoints_Jx4a65c_get_915e3 : GoodIn wsX7_stolenPoints wsJx4a65c_get_915e3 := goodIn_r _ [12, 8, 13, 14, 15, 16, 17, 18, 19, 20, 21, 22, 23, 6, 24, 25, 52, 53, 54] (by decide +kernel) (by decide +kernel)
set_option maxRecDepth 20000 in
theorem gX7_stolenPoints_Jx4a65c_get_915e3 : GoodIn wsX7_stolenPoints (wsV RX7 142 RJx4a65c yJx4a65c_get_915e3 wsJx4a65c_get_915e3) := goodIn_app (goodIn_of _ (by decide +kernel)) ggX7_stolenPoints_Jx4a65c_get_915e3
set_option maxRecDepth 20000 in
theorem ggX7_stolenPoints_X5_isTaken : GoodIn wsX7_stolenPoints wsX5_isTaken := goodIn_r _ [29, 30, 55, 56, 57, 58, 59, 60, 61, 62, 63, 64, 65, 66, 67, 68] (by decide +kernel) (by decide +kernel)
set_option maxRecDepth 20000 in
theorem gX7_stolenPoints_X5_isTaken_n254 : GoodIn wsX7_stolenPoints (wsX5_isTaken) := ggX7_stolenPoints_X5_isTaken
set_option maxRecDepth 20000 in
theorem ggX7_stolenPoints_X5_takers : GoodIn wsX7_stolenPoints wsX5_takers := goodIn_r _ [33, 34, 26, 28, 27, 29, 30, 55, 56, 57, 58, 59, 60, 61, 62, 63, 64, 65, 66, 67, 68] (by decide +kernel) (by decide +kernel)
set_option maxRecDepth 20000 in
theorem gX7_stolenPoints_X5_takers_n271 : GoodIn wsX7_stolenPoints (wsX5_takers) := ggX7_stolenPoints_X5_takers
set_option maxRecDepth 20000 in
theorem ggX7_stolenPoints_X7_share : GoodIn wsX7_stolenPoints wsX7_share := goodIn_r _ [38] (by decide +kernel) (by decide +kernel)
set_option maxRecDepth 20000 in
theorem gX7_stolenPoints_X7_share : GoodIn wsX7_stolenPoints (va_wsS RX7 274 yX7_share wsX7_share) := goodIn_app (goodIn_of _ (by decide +kernel)) ggX7_stolenPoints_X7_share
theorem dX7_stolenPoints_0 : decode cX7_stolenPoints 0 = .ok (.iconst 0, 1) := by decide +kernel
theorem dX7_stolenPoints_1 : decode cX7_stolenPoints 1 = .ok (.istore_n 3, 1) := by decide +kernel
theorem dX7_stolenPoints_2 : decode cX7_stolenPoints 2 = .ok (.iconst 0, 1) := by decide +kernel
theorem dX7_stolenPoints_3 : decode cX7_stolenPoints 3 = .ok (.istore 4, 2) := by decide +kernel
theorem dX7_stolenPoints_5 : decode cX7_stolenPoints 5 = .ok (.iload 4, 2) := by decide +kernel
theorem dX7_stolenPoints_7 : decode cX7_stolenPoints 7 = .ok (.aload_n 0, 1) := by decide +kernel
theorem dX7_stolenPoints_8 : decode cX7_stolenPoints 8 = .ok (.getfield 20, 3) := by decide +kernel
theorem dX7_stolenPoints_11 : decode cX7_stolenPoints 11 = .ok (.invokevirtual 140, 3) := by decide +kernel
theorem dX7_stolenPoints_14 : decode cX7_stolenPoints 14 = .ok (.if_icmp .ge 70, 3) := by decide +kernel
theorem dX7_stolenPoints_17 : decode cX7_stolenPoints 17 = .ok (.aload_n 0, 1) := by decide +kernel
theorem dX7_stolenPoints_18 : decode cX7_stolenPoints 18 = .ok (.getfield 20, 3) := by decide +kernel
theorem dX7_stolenPoints_21 : decode cX7_stolenPoints 21 = .ok (.iload 4, 2) := by decide +kernel
theorem dX7_stolenPoints_23 : decode cX7_stolenPoints 23 = .ok (.invokevirtual 142, 3) := by decide +kernel
theorem dX7_stolenPoints_26 : decode cX7_stolenPoints 26 = .ok (.checkcast 191, 3) := by decide +kernel
theorem dX7_stolenPoints_29 : decode cX7_stolenPoints 29 = .ok (.astore 5, 2) := by decide +kernel
theorem dX7_stolenPoints_31 : decode cX7_stolenPoints 31 = .ok (.aload 5, 2) := by decide +kernel
theorem dX7_stolenPoints_33 : decode cX7_stolenPoints 33 = .ok (.getfield 261, 3) := by decide +kernel
theorem dX7_stolenPoints_36 : decode cX7_stolenPoints 36 = .ok (.iload_n 1, 1) := by decide +kernel
theorem dX7_stolenPoints_37 : decode cX7_stolenPoints 37 = .ok (.if_icmp .ne 41, 3) := by decide +kernel
theorem dX7_stolenPoints_40 : decode cX7_stolenPoints 40 = .ok (.aload 5, 2) := by decide +kernel
theorem dX7_stolenPoints_42 : decode cX7_stolenPoints 42 = .ok (.getfield 264, 3) := by decide +kernel
theorem dX7_stolenPoints_45 : decode cX7_stolenPoints 45 = .ok (.iload_n 1, 1) := by decide +kernel
theorem dX7_stolenPoints_46 : decode cX7_stolenPoints 46 = .ok (.aload 5, 2) := by decide +kernel
theorem dX7_stolenPoints_48 : decode cX7_stolenPoints 48 = .ok (.getfield 268, 3) := by decide +kernel
theorem dX7_stolenPoints_51 : decode cX7_stolenPoints 51 = .ok (.iload_n 2, 1) := by decide +kernel
theorem dX7_stolenPoints_52 : decode cX7_stolenPoints 52 = .ok (.invokevirtual 254, 3) := by decide +kernel
theorem dX7_stolenPoints_55 : decode cX7_stolenPoints 55 = .ok (.ifCond .eq 23, 3) := by decide +kernel
theorem dX7_stolenPoints_58 : decode cX7_stolenPoints 58 = .ok (.iload_n 3, 1) := by decide +kernel
theorem dX7_stolenPoints_59 : decode cX7_stolenPoints 59 = .ok (.aload 5, 2) := by decide +kernel
theorem dX7_stolenPoints_61 : decode cX7_stolenPoints 61 = .ok (.getfield 264, 3) := by decide +kernel
theorem dX7_stolenPoints_64 : decode cX7_stolenPoints 64 = .ok (.aload 5, 2) := by decide +kernel
theorem dX7_stolenPoints_66 : decode cX7_stolenPoints 66 = .ok (.getfield 268, 3) := by decide +kernel
theorem dX7_stolenPoints_69 : decode cX7_stolenPoints 69 = .ok (.iload_n 2, 1) := by decide +kernel
theorem dX7_stolenPoints_70 : decode cX7_stolenPoints 70 = .ok (.invokevirtual 271, 3) := by decide +kernel
theorem dX7_stolenPoints_73 : decode cX7_stolenPoints 73 = .ok (.invokestatic 274, 3) := by decide +kernel
theorem dX7_stolenPoints_76 : decode cX7_stolenPoints 76 = .ok (.iadd, 1) := by decide +kernel
theorem dX7_stolenPoints_77 : decode cX7_stolenPoints 77 = .ok (.istore_n 3, 1) := by decide +kernel
theorem dX7_stolenPoints_78 : decode cX7_stolenPoints 78 = .ok (.iinc 4 1, 3) := by decide +kernel
theorem dX7_stolenPoints_81 : decode cX7_stolenPoints 81 = .ok (.goto (-76), 3) := by decide +kernel
theorem dX7_stolenPoints_84 : decode cX7_stolenPoints 84 = .ok (.iload_n 3, 1) := by decide +kernel
theorem dX7_stolenPoints_85 : decode cX7_stolenPoints 85 = .ok (.ireturn, 1) := by decide +kernel
set_option maxRecDepth 20000 in
theorem ggX7_takenOff_Jx4a65c_size_8abf5 : GoodIn wsX7_takenOff wsJx4a65c_size_8abf5 := goodIn_r _ [7, 8, 58, 59, 60] (by decide +kernel) (by decide +kernel)
set_option maxRecDepth 20000 in
theorem gX7_takenOff_Jx4a65c_size_8abf5 : GoodIn wsX7_takenOff (wsV RX7 140 RJx4a65c yJx4a65c_size_8abf5 wsJx4a65c_size_8abf5) := goodIn_app (goodIn_of _ (by decide +kernel)) ggX7_takenOff_Jx4a65c_size_8abf5
set_option maxRecDepth 20000 in
theorem ggX7_takenOff_Jx4a65c_get_915e3 : GoodIn wsX7_takenOff wsJx4a65c_get_915e3 := goodIn_r _ [12, 8, 13, 14, 15, 16, 17, 18, 19, 20, 21, 22, 23, 6, 24, 25, 58, 59, 60] (by decide +kernel) (by decide +kernel)
set_option maxRecDepth 20000 in
theorem gX7_takenOff_Jx4a65c_get_915e3 : GoodIn wsX7_takenOff (wsV RX7 142 RJx4a65c yJx4a65c_get_915e3 wsJx4a65c_get_915e3) := goodIn_app (goodIn_of _ (by decide +kernel)) ggX7_takenOff_Jx4a65c_get_915e3
set_option maxRecDepth 20000 in
theorem ggX7_takenOff_X5_isTaken : GoodIn wsX7_takenOff wsX5_isTaken := goodIn_r _ [29, 30, 44, 45, 46, 47, 48, 49, 50, 51, 52, 53, 54, 55, 56, 57] (by decide +kernel) (by decide +kernel)
set_option maxRecDepth 20000 in
theorem gX7_takenOff_X5_isTaken_n254 : GoodIn wsX7_takenOff (wsX5_isTaken) := ggX7_takenOff_X5_isTaken
theorem dX7_takenOff_0 : decode cX7_takenOff 0 = .ok (.iconst 0, 1) := by decide +kernel
theorem dX7_takenOff_1 : decode cX7_takenOff 1 = .ok (.istore_n 3, 1) := by decide +kernel
theorem dX7_takenOff_2 : decode cX7_takenOff 2 = .ok (.iconst 0, 1) := by decide +kernel
theorem dX7_takenOff_3 : decode cX7_takenOff 3 = .ok (.istore 4, 2) := by decide +kernel
theorem dX7_takenOff_5 : decode cX7_takenOff 5 = .ok (.iload 4, 2) := by decide +kernel
theorem dX7_takenOff_7 : decode cX7_takenOff 7 = .ok (.aload_n 0, 1) := by decide +kernel
theorem dX7_takenOff_8 : decode cX7_takenOff 8 = .ok (.getfield 20, 3) := by decide +kernel
theorem dX7_takenOff_11 : decode cX7_takenOff 11 = .ok (.invokevirtual 140, 3) := by decide +kernel
theorem dX7_takenOff_14 : decode cX7_takenOff 14 = .ok (.if_icmp .ge 60, 3) := by decide +kernel
theorem dX7_takenOff_17 : decode cX7_takenOff 17 = .ok (.aload_n 0, 1) := by decide +kernel
theorem dX7_takenOff_18 : decode cX7_takenOff 18 = .ok (.getfield 20, 3) := by decide +kernel
theorem dX7_takenOff_21 : decode cX7_takenOff 21 = .ok (.iload 4, 2) := by decide +kernel
theorem dX7_takenOff_23 : decode cX7_takenOff 23 = .ok (.invokevirtual 142, 3) := by decide +kernel
theorem dX7_takenOff_26 : decode cX7_takenOff 26 = .ok (.checkcast 191, 3) := by decide +kernel
theorem dX7_takenOff_29 : decode cX7_takenOff 29 = .ok (.astore 5, 2) := by decide +kernel
theorem dX7_takenOff_31 : decode cX7_takenOff 31 = .ok (.aload 5, 2) := by decide +kernel
theorem dX7_takenOff_33 : decode cX7_takenOff 33 = .ok (.getfield 264, 3) := by decide +kernel
theorem dX7_takenOff_36 : decode cX7_takenOff 36 = .ok (.getfield 222, 3) := by decide +kernel
theorem dX7_takenOff_39 : decode cX7_takenOff 39 = .ok (.iload_n 1, 1) := by decide +kernel
theorem dX7_takenOff_40 : decode cX7_takenOff 40 = .ok (.if_icmp .ne 28, 3) := by decide +kernel
theorem dX7_takenOff_43 : decode cX7_takenOff 43 = .ok (.aload 5, 2) := by decide +kernel
theorem dX7_takenOff_45 : decode cX7_takenOff 45 = .ok (.getfield 264, 3) := by decide +kernel
theorem dX7_takenOff_48 : decode cX7_takenOff 48 = .ok (.aload 5, 2) := by decide +kernel
theorem dX7_takenOff_50 : decode cX7_takenOff 50 = .ok (.getfield 261, 3) := by decide +kernel
theorem dX7_takenOff_53 : decode cX7_takenOff 53 = .ok (.aload 5, 2) := by decide +kernel
theorem dX7_takenOff_55 : decode cX7_takenOff 55 = .ok (.getfield 268, 3) := by decide +kernel
theorem dX7_takenOff_58 : decode cX7_takenOff 58 = .ok (.iload_n 2, 1) := by decide +kernel
theorem dX7_takenOff_59 : decode cX7_takenOff 59 = .ok (.invokevirtual 254, 3) := by decide +kernel
theorem dX7_takenOff_62 : decode cX7_takenOff 62 = .ok (.ifCond .eq 6, 3) := by decide +kernel
theorem dX7_takenOff_65 : decode cX7_takenOff 65 = .ok (.iinc 3 4, 3) := by decide +kernel
theorem dX7_takenOff_68 : decode cX7_takenOff 68 = .ok (.iinc 4 1, 3) := by decide +kernel
theorem dX7_takenOff_71 : decode cX7_takenOff 71 = .ok (.goto (-66), 3) := by decide +kernel
theorem dX7_takenOff_74 : decode cX7_takenOff 74 = .ok (.iload_n 3, 1) := by decide +kernel
theorem dX7_takenOff_75 : decode cX7_takenOff 75 = .ok (.ireturn, 1) := by decide +kernel
set_option maxRecDepth 20000 in
theorem ggX7_handInsBy_Jx4a65c_size_8abf5 : GoodIn wsX7_handInsBy wsJx4a65c_size_8abf5 := goodIn_r _ [7, 8, 39, 40, 41] (by decide +kernel) (by decide +kernel)
set_option maxRecDepth 20000 in
theorem gX7_handInsBy_Jx4a65c_size_8abf5 : GoodIn wsX7_handInsBy (wsV RX7 140 RJx4a65c yJx4a65c_size_8abf5 wsJx4a65c_size_8abf5) := goodIn_app (goodIn_of _ (by decide +kernel)) ggX7_handInsBy_Jx4a65c_size_8abf5
set_option maxRecDepth 20000 in
theorem ggX7_handInsBy_Jx4a65c_get_915e3 : GoodIn wsX7_handInsBy wsJx4a65c_get_915e3 := goodIn_r _ [12, 8, 13, 14, 15, 16, 17, 18, 19, 20, 21, 22, 23, 6, 24, 25, 39, 40, 41] (by decide +kernel) (by decide +kernel)
set_option maxRecDepth 20000 in
theorem gX7_handInsBy_Jx4a65c_get_915e3 : GoodIn wsX7_handInsBy (wsV RX7 142 RJx4a65c yJx4a65c_get_915e3 wsJx4a65c_get_915e3) := goodIn_app (goodIn_of _ (by decide +kernel)) ggX7_handInsBy_Jx4a65c_get_915e3
theorem dX7_handInsBy_0 : decode cX7_handInsBy 0 = .ok (.iconst 0, 1) := by decide +kernel
theorem dX7_handInsBy_1 : decode cX7_handInsBy 1 = .ok (.istore_n 2, 1) := by decide +kernel
theorem dX7_handInsBy_2 : decode cX7_handInsBy 2 = .ok (.iconst 0, 1) := by decide +kernel
theorem dX7_handInsBy_3 : decode cX7_handInsBy 3 = .ok (.istore_n 3, 1) := by decide +kernel
theorem dX7_handInsBy_4 : decode cX7_handInsBy 4 = .ok (.iload_n 3, 1) := by decide +kernel
theorem dX7_handInsBy_5 : decode cX7_handInsBy 5 = .ok (.aload_n 0, 1) := by decide +kernel
theorem dX7_handInsBy_6 : decode cX7_handInsBy 6 = .ok (.getfield 20, 3) := by decide +kernel
theorem dX7_handInsBy_9 : decode cX7_handInsBy 9 = .ok (.invokevirtual 140, 3) := by decide +kernel
theorem dX7_handInsBy_12 : decode cX7_handInsBy 12 = .ok (.if_icmp .ge 30, 3) := by decide +kernel
theorem dX7_handInsBy_15 : decode cX7_handInsBy 15 = .ok (.aload_n 0, 1) := by decide +kernel
theorem dX7_handInsBy_16 : decode cX7_handInsBy 16 = .ok (.getfield 20, 3) := by decide +kernel
theorem dX7_handInsBy_19 : decode cX7_handInsBy 19 = .ok (.iload_n 3, 1) := by decide +kernel
theorem dX7_handInsBy_20 : decode cX7_handInsBy 20 = .ok (.invokevirtual 142, 3) := by decide +kernel
theorem dX7_handInsBy_23 : decode cX7_handInsBy 23 = .ok (.checkcast 191, 3) := by decide +kernel
theorem dX7_handInsBy_26 : decode cX7_handInsBy 26 = .ok (.getfield 261, 3) := by decide +kernel
theorem dX7_handInsBy_29 : decode cX7_handInsBy 29 = .ok (.iload_n 1, 1) := by decide +kernel
theorem dX7_handInsBy_30 : decode cX7_handInsBy 30 = .ok (.if_icmp .ne 6, 3) := by decide +kernel
theorem dX7_handInsBy_33 : decode cX7_handInsBy 33 = .ok (.iinc 2 1, 3) := by decide +kernel
theorem dX7_handInsBy_36 : decode cX7_handInsBy 36 = .ok (.iinc 3 1, 3) := by decide +kernel
theorem dX7_handInsBy_39 : decode cX7_handInsBy 39 = .ok (.goto (-35), 3) := by decide +kernel
theorem dX7_handInsBy_42 : decode cX7_handInsBy 42 = .ok (.iload_n 2, 1) := by decide +kernel
theorem dX7_handInsBy_43 : decode cX7_handInsBy 43 = .ok (.ireturn, 1) := by decide +kernel
theorem dX7_share_0 : decode cX7_share 0 = .ok (.iload_n 0, 1) := by decide +kernel
theorem dX7_share_1 : decode cX7_share 1 = .ok (.ifCond .le 10, 3) := by decide +kernel
theorem dX7_share_4 : decode cX7_share 4 = .ok (.bipush 60, 2) := by decide +kernel
theorem dX7_share_6 : decode cX7_share 6 = .ok (.iload_n 0, 1) := by decide +kernel
theorem dX7_share_7 : decode cX7_share 7 = .ok (.idiv, 1) := by decide +kernel
theorem dX7_share_8 : decode cX7_share 8 = .ok (.goto 4, 3) := by decide +kernel
theorem dX7_share_11 : decode cX7_share 11 = .ok (.iconst 0, 1) := by decide +kernel
theorem dX7_share_12 : decode cX7_share 12 = .ok (.ireturn, 1) := by decide +kernel
theorem dX7_placeOnBoard_0 : decode cX7_placeOnBoard 0 = .ok (.iconst 0, 1) := by decide +kernel
theorem dX7_placeOnBoard_1 : decode cX7_placeOnBoard 1 = .ok (.istore_n 3, 1) := by decide +kernel
theorem dX7_placeOnBoard_2 : decode cX7_placeOnBoard 2 = .ok (.iconst 0, 1) := by decide +kernel
theorem dX7_placeOnBoard_3 : decode cX7_placeOnBoard 3 = .ok (.istore 4, 2) := by decide +kernel
theorem dX7_placeOnBoard_5 : decode cX7_placeOnBoard 5 = .ok (.iload 4, 2) := by decide +kernel
theorem dX7_placeOnBoard_7 : decode cX7_placeOnBoard 7 = .ok (.iload_n 2, 1) := by decide +kernel
theorem dX7_placeOnBoard_8 : decode cX7_placeOnBoard 8 = .ok (.if_icmp .ge 74, 3) := by decide +kernel
theorem dX7_placeOnBoard_11 : decode cX7_placeOnBoard 11 = .ok (.aload_n 0, 1) := by decide +kernel
theorem dX7_placeOnBoard_12 : decode cX7_placeOnBoard 12 = .ok (.getfield 51, 3) := by decide +kernel
theorem dX7_placeOnBoard_15 : decode cX7_placeOnBoard 15 = .ok (.iload 4, 2) := by decide +kernel
theorem dX7_placeOnBoard_17 : decode cX7_placeOnBoard 17 = .ok (.iaload, 1) := by decide +kernel
theorem dX7_placeOnBoard_18 : decode cX7_placeOnBoard 18 = .ok (.aload_n 0, 1) := by decide +kernel
theorem dX7_placeOnBoard_19 : decode cX7_placeOnBoard 19 = .ok (.getfield 51, 3) := by decide +kernel
theorem dX7_placeOnBoard_22 : decode cX7_placeOnBoard 22 = .ok (.iload_n 1, 1) := by decide +kernel
theorem dX7_placeOnBoard_23 : decode cX7_placeOnBoard 23 = .ok (.iaload, 1) := by decide +kernel
theorem dX7_placeOnBoard_24 : decode cX7_placeOnBoard 24 = .ok (.if_icmp .le 7, 3) := by decide +kernel
theorem dX7_placeOnBoard_27 : decode cX7_placeOnBoard 27 = .ok (.iconst 1, 1) := by decide +kernel
theorem dX7_placeOnBoard_28 : decode cX7_placeOnBoard 28 = .ok (.goto 4, 3) := by decide +kernel
theorem dX7_placeOnBoard_31 : decode cX7_placeOnBoard 31 = .ok (.iconst 0, 1) := by decide +kernel
theorem dX7_placeOnBoard_32 : decode cX7_placeOnBoard 32 = .ok (.istore 5, 2) := by decide +kernel
theorem dX7_placeOnBoard_34 : decode cX7_placeOnBoard 34 = .ok (.aload_n 0, 1) := by decide +kernel
theorem dX7_placeOnBoard_35 : decode cX7_placeOnBoard 35 = .ok (.getfield 51, 3) := by decide +kernel
theorem dX7_placeOnBoard_38 : decode cX7_placeOnBoard 38 = .ok (.iload 4, 2) := by decide +kernel
theorem dX7_placeOnBoard_40 : decode cX7_placeOnBoard 40 = .ok (.iaload, 1) := by decide +kernel
theorem dX7_placeOnBoard_41 : decode cX7_placeOnBoard 41 = .ok (.aload_n 0, 1) := by decide +kernel
theorem dX7_placeOnBoard_42 : decode cX7_placeOnBoard 42 = .ok (.getfield 51, 3) := by decide +kernel
theorem dX7_placeOnBoard_45 : decode cX7_placeOnBoard 45 = .ok (.iload_n 1, 1) := by decide +kernel
theorem dX7_placeOnBoard_46 : decode cX7_placeOnBoard 46 = .ok (.iaload, 1) := by decide +kernel
theorem dX7_placeOnBoard_47 : decode cX7_placeOnBoard 47 = .ok (.if_icmp .ne 13, 3) := by decide +kernel
theorem dX7_placeOnBoard_50 : decode cX7_placeOnBoard 50 = .ok (.iload 4, 2) := by decide +kernel
theorem dX7_placeOnBoard_52 : decode cX7_placeOnBoard 52 = .ok (.iload_n 1, 1) := by decide +kernel
theorem dX7_placeOnBoard_53 : decode cX7_placeOnBoard 53 = .ok (.if_icmp .ge 7, 3) := by decide +kernel
theorem dX7_placeOnBoard_56 : decode cX7_placeOnBoard 56 = .ok (.iconst 1, 1) := by decide +kernel
theorem dX7_placeOnBoard_57 : decode cX7_placeOnBoard 57 = .ok (.goto 4, 3) := by decide +kernel
theorem dX7_placeOnBoard_60 : decode cX7_placeOnBoard 60 = .ok (.iconst 0, 1) := by decide +kernel
theorem dX7_placeOnBoard_61 : decode cX7_placeOnBoard 61 = .ok (.istore 6, 2) := by decide +kernel
theorem dX7_placeOnBoard_63 : decode cX7_placeOnBoard 63 = .ok (.iload 5, 2) := by decide +kernel
theorem dX7_placeOnBoard_65 : decode cX7_placeOnBoard 65 = .ok (.ifCond .ne 8, 3) := by decide +kernel
theorem dX7_placeOnBoard_68 : decode cX7_placeOnBoard 68 = .ok (.iload 6, 2) := by decide +kernel
theorem dX7_placeOnBoard_70 : decode cX7_placeOnBoard 70 = .ok (.ifCond .eq 6, 3) := by decide +kernel
theorem dX7_placeOnBoard_73 : decode cX7_placeOnBoard 73 = .ok (.iinc 3 1, 3) := by decide +kernel
theorem dX7_placeOnBoard_76 : decode cX7_placeOnBoard 76 = .ok (.iinc 4 1, 3) := by decide +kernel
theorem dX7_placeOnBoard_79 : decode cX7_placeOnBoard 79 = .ok (.goto (-74), 3) := by decide +kernel
theorem dX7_placeOnBoard_82 : decode cX7_placeOnBoard 82 = .ok (.iload_n 3, 1) := by decide +kernel
theorem dX7_placeOnBoard_83 : decode cX7_placeOnBoard 83 = .ok (.ireturn, 1) := by decide +kernel
set_option maxRecDepth 20000 in
theorem ggX7_gainFromFlag_X5_takers : GoodIn wsX7_gainFromFlag wsX5_takers := goodIn_r _ [5, 6, 7, 8, 3, 9, 10, 32, 33, 34, 35, 36, 37, 38, 39, 40, 41, 42, 43, 44, 45] (by decide +kernel) (by decide +kernel)
set_option maxRecDepth 20000 in
theorem gX7_gainFromFlag_X5_takers_n271 : GoodIn wsX7_gainFromFlag (wsX5_takers) := ggX7_gainFromFlag_X5_takers
set_option maxRecDepth 20000 in
theorem ggX7_gainFromFlag_J6_bitCount_0f7a4 : GoodIn wsX7_gainFromFlag wsJ6_bitCount_0f7a4 := goodIn_r _ [14, 15, 16, 17] (by decide +kernel) (by decide +kernel)
set_option maxRecDepth 20000 in
theorem gX7_gainFromFlag_J6_bitCount_0f7a4 : GoodIn wsX7_gainFromFlag (va_wsS RX7 216 yJ6_bitCount_0f7a4 wsJ6_bitCount_0f7a4) := goodIn_app (goodIn_of _ (by decide +kernel)) ggX7_gainFromFlag_J6_bitCount_0f7a4
set_option maxRecDepth 20000 in
theorem ggX7_gainFromFlag_X5_isTaken : GoodIn wsX7_gainFromFlag wsX5_isTaken := goodIn_r _ [9, 10, 32, 33, 34, 35, 36, 37, 38, 39, 40, 41, 42, 43, 44, 45] (by decide +kernel) (by decide +kernel)
set_option maxRecDepth 20000 in
theorem gX7_gainFromFlag_X5_isTaken_n254 : GoodIn wsX7_gainFromFlag (wsX5_isTaken) := ggX7_gainFromFlag_X5_isTaken
set_option maxRecDepth 20000 in
theorem ggX7_gainFromFlag_X7_share : GoodIn wsX7_gainFromFlag wsX7_share := goodIn_r _ [21] (by decide +kernel) (by decide +kernel)
set_option maxRecDepth 20000 in
theorem gX7_gainFromFlag_X7_share : GoodIn wsX7_gainFromFlag (va_wsS RX7 274 yX7_share wsX7_share) := goodIn_app (goodIn_of _ (by decide +kernel)) ggX7_gainFromFlag_X7_share
theorem dX7_gainFromFlag_0 : decode cX7_gainFromFlag 0 = .ok (.aload_n 0, 1) := by decide +kernel
theorem dX7_gainFromFlag_1 : decode cX7_gainFromFlag 1 = .ok (.getfield 54, 3) := by decide +kernel
theorem dX7_gainFromFlag_4 : decode cX7_gainFromFlag 4 = .ok (.iconst 1, 1) := by decide +kernel
theorem dX7_gainFromFlag_5 : decode cX7_gainFromFlag 5 = .ok (.isub, 1) := by decide +kernel
theorem dX7_gainFromFlag_6 : decode cX7_gainFromFlag 6 = .ok (.istore_n 3, 1) := by decide +kernel
theorem dX7_gainFromFlag_7 : decode cX7_gainFromFlag 7 = .ok (.aload_n 1, 1) := by decide +kernel
theorem dX7_gainFromFlag_8 : decode cX7_gainFromFlag 8 = .ok (.iload_n 3, 1) := by decide +kernel
theorem dX7_gainFromFlag_9 : decode cX7_gainFromFlag 9 = .ok (.bipush 100, 2) := by decide +kernel
theorem dX7_gainFromFlag_11 : decode cX7_gainFromFlag 11 = .ok (.invokevirtual 271, 3) := by decide +kernel
theorem dX7_gainFromFlag_14 : decode cX7_gainFromFlag 14 = .ok (.istore 4, 2) := by decide +kernel
theorem dX7_gainFromFlag_16 : decode cX7_gainFromFlag 16 = .ok (.iload_n 2, 1) := by decide +kernel
theorem dX7_gainFromFlag_17 : decode cX7_gainFromFlag 17 = .ok (.invokestatic 216, 3) := by decide +kernel
theorem dX7_gainFromFlag_20 : decode cX7_gainFromFlag 20 = .ok (.iconst 1, 1) := by decide +kernel
theorem dX7_gainFromFlag_21 : decode cX7_gainFromFlag 21 = .ok (.isub, 1) := by decide +kernel
theorem dX7_gainFromFlag_22 : decode cX7_gainFromFlag 22 = .ok (.istore 5, 2) := by decide +kernel
theorem dX7_gainFromFlag_24 : decode cX7_gainFromFlag 24 = .ok (.iconst 0, 1) := by decide +kernel
theorem dX7_gainFromFlag_25 : decode cX7_gainFromFlag 25 = .ok (.istore 6, 2) := by decide +kernel
theorem dX7_gainFromFlag_27 : decode cX7_gainFromFlag 27 = .ok (.iconst 0, 1) := by decide +kernel
theorem dX7_gainFromFlag_28 : decode cX7_gainFromFlag 28 = .ok (.istore 7, 2) := by decide +kernel
theorem dX7_gainFromFlag_30 : decode cX7_gainFromFlag 30 = .ok (.iload 7, 2) := by decide +kernel
theorem dX7_gainFromFlag_32 : decode cX7_gainFromFlag 32 = .ok (.iconst 5, 1) := by decide +kernel
theorem dX7_gainFromFlag_33 : decode cX7_gainFromFlag 33 = .ok (.if_icmp .ge 34, 3) := by decide +kernel
theorem dX7_gainFromFlag_36 : decode cX7_gainFromFlag 36 = .ok (.iload_n 2, 1) := by decide +kernel
theorem dX7_gainFromFlag_37 : decode cX7_gainFromFlag 37 = .ok (.iload 7, 2) := by decide +kernel
theorem dX7_gainFromFlag_39 : decode cX7_gainFromFlag 39 = .ok (.ishr, 1) := by decide +kernel
theorem dX7_gainFromFlag_40 : decode cX7_gainFromFlag 40 = .ok (.iconst 1, 1) := by decide +kernel
theorem dX7_gainFromFlag_41 : decode cX7_gainFromFlag 41 = .ok (.iand, 1) := by decide +kernel
theorem dX7_gainFromFlag_42 : decode cX7_gainFromFlag 42 = .ok (.iconst 1, 1) := by decide +kernel
theorem dX7_gainFromFlag_43 : decode cX7_gainFromFlag 43 = .ok (.if_icmp .ne 18, 3) := by decide +kernel
theorem dX7_gainFromFlag_46 : decode cX7_gainFromFlag 46 = .ok (.aload_n 1, 1) := by decide +kernel
theorem dX7_gainFromFlag_47 : decode cX7_gainFromFlag 47 = .ok (.iload 7, 2) := by decide +kernel
theorem dX7_gainFromFlag_49 : decode cX7_gainFromFlag 49 = .ok (.iload_n 3, 1) := by decide +kernel
theorem dX7_gainFromFlag_50 : decode cX7_gainFromFlag 50 = .ok (.bipush 100, 2) := by decide +kernel
theorem dX7_gainFromFlag_52 : decode cX7_gainFromFlag 52 = .ok (.invokevirtual 254, 3) := by decide +kernel
theorem dX7_gainFromFlag_55 : decode cX7_gainFromFlag 55 = .ok (.ifCond .eq 6, 3) := by decide +kernel
theorem dX7_gainFromFlag_58 : decode cX7_gainFromFlag 58 = .ok (.iinc 6 1, 3) := by decide +kernel
theorem dX7_gainFromFlag_61 : decode cX7_gainFromFlag 61 = .ok (.iinc 7 1, 3) := by decide +kernel
theorem dX7_gainFromFlag_64 : decode cX7_gainFromFlag 64 = .ok (.goto (-34), 3) := by decide +kernel
theorem dX7_gainFromFlag_67 : decode cX7_gainFromFlag 67 = .ok (.iload 4, 2) := by decide +kernel
theorem dX7_gainFromFlag_69 : decode cX7_gainFromFlag 69 = .ok (.iload 5, 2) := by decide +kernel
theorem dX7_gainFromFlag_71 : decode cX7_gainFromFlag 71 = .ok (.iadd, 1) := by decide +kernel
theorem dX7_gainFromFlag_72 : decode cX7_gainFromFlag 72 = .ok (.iload 6, 2) := by decide +kernel
theorem dX7_gainFromFlag_74 : decode cX7_gainFromFlag 74 = .ok (.isub, 1) := by decide +kernel
theorem dX7_gainFromFlag_75 : decode cX7_gainFromFlag 75 = .ok (.istore 7, 2) := by decide +kernel
theorem dX7_gainFromFlag_77 : decode cX7_gainFromFlag 77 = .ok (.iload 5, 2) := by decide +kernel
theorem dX7_gainFromFlag_79 : decode cX7_gainFromFlag 79 = .ok (.iload 7, 2) := by decide +kernel
theorem dX7_gainFromFlag_81 : decode cX7_gainFromFlag 81 = .ok (.invokestatic 274, 3) := by decide +kernel
theorem dX7_gainFromFlag_84 : decode cX7_gainFromFlag 84 = .ok (.imul, 1) := by decide +kernel
theorem dX7_gainFromFlag_85 : decode cX7_gainFromFlag 85 = .ok (.iconst 4, 1) := by decide +kernel
theorem dX7_gainFromFlag_86 : decode cX7_gainFromFlag 86 = .ok (.iload 7, 2) := by decide +kernel
theorem dX7_gainFromFlag_88 : decode cX7_gainFromFlag 88 = .ok (.imul, 1) := by decide +kernel
theorem dX7_gainFromFlag_89 : decode cX7_gainFromFlag 89 = .ok (.isub, 1) := by decide +kernel
theorem dX7_gainFromFlag_90 : decode cX7_gainFromFlag 90 = .ok (.istore 8, 2) := by decide +kernel
theorem dX7_gainFromFlag_92 : decode cX7_gainFromFlag 92 = .ok (.iload 6, 2) := by decide +kernel
theorem dX7_gainFromFlag_94 : decode cX7_gainFromFlag 94 = .ok (.iload 4, 2) := by decide +kernel
theorem dX7_gainFromFlag_96 : decode cX7_gainFromFlag 96 = .ok (.invokestatic 274, 3) := by decide +kernel
theorem dX7_gainFromFlag_99 : decode cX7_gainFromFlag 99 = .ok (.imul, 1) := by decide +kernel
theorem dX7_gainFromFlag_100 : decode cX7_gainFromFlag 100 = .ok (.iconst 4, 1) := by decide +kernel
theorem dX7_gainFromFlag_101 : decode cX7_gainFromFlag 101 = .ok (.iload 4, 2) := by decide +kernel
theorem dX7_gainFromFlag_103 : decode cX7_gainFromFlag 103 = .ok (.imul, 1) := by decide +kernel
theorem dX7_gainFromFlag_104 : decode cX7_gainFromFlag 104 = .ok (.isub, 1) := by decide +kernel
theorem dX7_gainFromFlag_105 : decode cX7_gainFromFlag 105 = .ok (.istore 9, 2) := by decide +kernel
theorem dX7_gainFromFlag_107 : decode cX7_gainFromFlag 107 = .ok (.iload 8, 2) := by decide +kernel
theorem dX7_gainFromFlag_109 : decode cX7_gainFromFlag 109 = .ok (.iload 9, 2) := by decide +kernel
theorem dX7_gainFromFlag_111 : decode cX7_gainFromFlag 111 = .ok (.isub, 1) := by decide +kernel
theorem dX7_gainFromFlag_112 : decode cX7_gainFromFlag 112 = .ok (.ireturn, 1) := by decide +kernel
theorem dX8_init_0 : decode cX8_init 0 = .ok (.aload_n 0, 1) := by decide +kernel
theorem dX8_init_1 : decode cX8_init 1 = .ok (.invokespecial 1, 3) := by decide +kernel
theorem dX8_init_4 : decode cX8_init 4 = .ok (.aload_n 0, 1) := by decide +kernel
theorem dX8_init_5 : decode cX8_init 5 = .ok (.bipush 120, 2) := by decide +kernel
theorem dX8_init_7 : decode cX8_init 7 = .ok (.newarray .int, 2) := by decide +kernel
theorem dX8_init_9 : decode cX8_init 9 = .ok (.putfield 7, 3) := by decide +kernel
theorem dX8_init_12 : decode cX8_init 12 = .ok (.aload_n 0, 1) := by decide +kernel
theorem dX8_init_13 : decode cX8_init 13 = .ok (.sipush 720, 3) := by decide +kernel
theorem dX8_init_16 : decode cX8_init 16 = .ok (.newarray .int, 2) := by decide +kernel
theorem dX8_init_18 : decode cX8_init 18 = .ok (.putfield 13, 3) := by decide +kernel
theorem dX8_init_21 : decode cX8_init 21 = .ok (.aload_n 0, 1) := by decide +kernel
theorem dX8_init_22 : decode cX8_init 22 = .ok (.sipush 720, 3) := by decide +kernel
theorem dX8_init_25 : decode cX8_init 25 = .ok (.newarray .int, 2) := by decide +kernel
theorem dX8_init_27 : decode cX8_init 27 = .ok (.putfield 16, 3) := by decide +kernel
theorem dX8_init_30 : decode cX8_init 30 = .ok (.aload_n 0, 1) := by decide +kernel
theorem dX8_init_31 : decode cX8_init 31 = .ok (.bipush 30, 2) := by decide +kernel
theorem dX8_init_33 : decode cX8_init 33 = .ok (.newarray .int, 2) := by decide +kernel
theorem dX8_init_35 : decode cX8_init 35 = .ok (.putfield 19, 3) := by decide +kernel
theorem dX8_init_38 : decode cX8_init 38 = .ok (.aload_n 0, 1) := by decide +kernel
theorem dX8_init_39 : decode cX8_init 39 = .ok (.bipush 15, 2) := by decide +kernel
theorem dX8_init_41 : decode cX8_init 41 = .ok (.newarray .boolean, 2) := by decide +kernel
theorem dX8_init_43 : decode cX8_init 43 = .ok (.putfield 22, 3) := by decide +kernel
theorem dX8_init_46 : decode cX8_init 46 = .ok (.aload_n 0, 1) := by decide +kernel
theorem dX8_init_47 : decode cX8_init 47 = .ok (.bipush 24, 2) := by decide +kernel
theorem dX8_init_49 : decode cX8_init 49 = .ok (.newarray .int, 2) := by decide +kernel
theorem dX8_init_51 : decode cX8_init 51 = .ok (.putfield 26, 3) := by decide +kernel
theorem dX8_init_54 : decode cX8_init 54 = .ok (.aload_n 0, 1) := by decide +kernel
theorem dX8_init_55 : decode cX8_init 55 = .ok (.bipush 24, 2) := by decide +kernel
theorem dX8_init_57 : decode cX8_init 57 = .ok (.newarray .int, 2) := by decide +kernel
theorem dX8_init_59 : decode cX8_init 59 = .ok (.putfield 29, 3) := by decide +kernel
theorem dX8_init_62 : decode cX8_init 62 = .ok (.aload_n 0, 1) := by decide +kernel
theorem dX8_init_63 : decode cX8_init 63 = .ok (.bipush 120, 2) := by decide +kernel
theorem dX8_init_65 : decode cX8_init 65 = .ok (.newarray .int, 2) := by decide +kernel
theorem dX8_init_67 : decode cX8_init 67 = .ok (.putfield 32, 3) := by decide +kernel
theorem dX8_init_70 : decode cX8_init 70 = .ok (.aload_n 0, 1) := by decide +kernel
theorem dX8_init_71 : decode cX8_init 71 = .ok (.bipush 8, 2) := by decide +kernel
theorem dX8_init_73 : decode cX8_init 73 = .ok (.newarray .int, 2) := by decide +kernel
theorem dX8_init_75 : decode cX8_init 75 = .ok (.putfield 35, 3) := by decide +kernel
theorem dX8_init_78 : decode cX8_init 78 = .ok (.aload_n 0, 1) := by decide +kernel
theorem dX8_init_79 : decode cX8_init 79 = .ok (.bipush 15, 2) := by decide +kernel
theorem dX8_init_81 : decode cX8_init 81 = .ok (.newarray .int, 2) := by decide +kernel
theorem dX8_init_83 : decode cX8_init 83 = .ok (.putfield 38, 3) := by decide +kernel
theorem dX8_init_86 : decode cX8_init 86 = .ok (.aload_n 0, 1) := by decide +kernel
theorem dX8_init_87 : decode cX8_init 87 = .ok (.bipush 15, 2) := by decide +kernel
theorem dX8_init_89 : decode cX8_init 89 = .ok (.newarray .int, 2) := by decide +kernel
theorem dX8_init_91 : decode cX8_init 91 = .ok (.putfield 41, 3) := by decide +kernel
theorem dX8_init_94 : decode cX8_init 94 = .ok (.aload_n 0, 1) := by decide +kernel
theorem dX8_init_95 : decode cX8_init 95 = .ok (.bipush 15, 2) := by decide +kernel
theorem dX8_init_97 : decode cX8_init 97 = .ok (.newarray .int, 2) := by decide +kernel
theorem dX8_init_99 : decode cX8_init 99 = .ok (.putfield 44, 3) := by decide +kernel
theorem dX8_init_102 : decode cX8_init 102 = .ok (.aload_n 0, 1) := by decide +kernel
theorem dX8_init_103 : decode cX8_init 103 = .ok (.bipush 7, 2) := by decide +kernel
theorem dX8_init_105 : decode cX8_init 105 = .ok (.newarray .int, 2) := by decide +kernel
theorem dX8_init_107 : decode cX8_init 107 = .ok (.putfield 47, 3) := by decide +kernel
theorem dX8_init_110 : decode cX8_init 110 = .ok (.aload_n 0, 1) := by decide +kernel
theorem dX8_init_111 : decode cX8_init 111 = .ok (.bipush 9, 2) := by decide +kernel
theorem dX8_init_113 : decode cX8_init 113 = .ok (.newarray .int, 2) := by decide +kernel
theorem dX8_init_115 : decode cX8_init 115 = .ok (.putfield 50, 3) := by decide +kernel
theorem dX8_init_118 : decode cX8_init 118 = .ok (.aload_n 0, 1) := by decide +kernel
theorem dX8_init_119 : decode cX8_init 119 = .ok (.sipush 400, 3) := by decide +kernel
theorem dX8_init_122 : decode cX8_init 122 = .ok (.newarray .int, 2) := by decide +kernel
theorem dX8_init_124 : decode cX8_init 124 = .ok (.putfield 53, 3) := by decide +kernel
theorem dX8_init_127 : decode cX8_init 127 = .ok (.aload_n 0, 1) := by decide +kernel
theorem dX8_init_128 : decode cX8_init 128 = .ok (.sipush 400, 3) := by decide +kernel
theorem dX8_init_131 : decode cX8_init 131 = .ok (.newarray .int, 2) := by decide +kernel
theorem dX8_init_133 : decode cX8_init 133 = .ok (.putfield 56, 3) := by decide +kernel
theorem dX8_init_136 : decode cX8_init 136 = .ok (.aload_n 0, 1) := by decide +kernel
theorem dX8_init_137 : decode cX8_init 137 = .ok (.sipush 400, 3) := by decide +kernel
theorem dX8_init_140 : decode cX8_init 140 = .ok (.newarray .int, 2) := by decide +kernel
theorem dX8_init_142 : decode cX8_init 142 = .ok (.putfield 59, 3) := by decide +kernel
theorem dX8_init_145 : decode cX8_init 145 = .ok (.aload_n 0, 1) := by decide +kernel
theorem dX8_init_146 : decode cX8_init 146 = .ok (.sipush 400, 3) := by decide +kernel
theorem dX8_init_149 : decode cX8_init 149 = .ok (.newarray .int, 2) := by decide +kernel
theorem dX8_init_151 : decode cX8_init 151 = .ok (.putfield 62, 3) := by decide +kernel
theorem dX8_init_154 : decode cX8_init 154 = .ok (.aload_n 0, 1) := by decide +kernel
theorem dX8_init_155 : decode cX8_init 155 = .ok (.sipush 400, 3) := by decide +kernel
theorem dX8_init_158 : decode cX8_init 158 = .ok (.newarray .int, 2) := by decide +kernel
theorem dX8_init_160 : decode cX8_init 160 = .ok (.putfield 65, 3) := by decide +kernel
theorem dX8_init_163 : decode cX8_init 163 = .ok (.aload_n 0, 1) := by decide +kernel
theorem dX8_init_164 : decode cX8_init 164 = .ok (.sipush 400, 3) := by decide +kernel
theorem dX8_init_167 : decode cX8_init 167 = .ok (.newarray .int, 2) := by decide +kernel
theorem dX8_init_169 : decode cX8_init 169 = .ok (.putfield 68, 3) := by decide +kernel
theorem dX8_init_172 : decode cX8_init 172 = .ok (.aload_n 0, 1) := by decide +kernel
theorem dX8_init_173 : decode cX8_init 173 = .ok (.sipush 1500, 3) := by decide +kernel
theorem dX8_init_176 : decode cX8_init 176 = .ok (.newarray .boolean, 2) := by decide +kernel
theorem dX8_init_178 : decode cX8_init 178 = .ok (.putfield 71, 3) := by decide +kernel
theorem dX8_init_181 : decode cX8_init 181 = .ok (.aload_n 0, 1) := by decide +kernel
theorem dX8_init_182 : decode cX8_init 182 = .ok (.bipush 45, 2) := by decide +kernel
theorem dX8_init_184 : decode cX8_init 184 = .ok (.newarray .int, 2) := by decide +kernel
theorem dX8_init_186 : decode cX8_init 186 = .ok (.putfield 74, 3) := by decide +kernel
theorem dX8_init_189 : decode cX8_init 189 = .ok (.aload_n 0, 1) := by decide +kernel
theorem dX8_init_190 : decode cX8_init 190 = .ok (.bipush 45, 2) := by decide +kernel
theorem dX8_init_192 : decode cX8_init 192 = .ok (.newarray .int, 2) := by decide +kernel
theorem dX8_init_194 : decode cX8_init 194 = .ok (.putfield 77, 3) := by decide +kernel
theorem dX8_init_197 : decode cX8_init 197 = .ok (.aload_n 0, 1) := by decide +kernel
theorem dX8_init_198 : decode cX8_init 198 = .ok (.bipush 45, 2) := by decide +kernel
theorem dX8_init_200 : decode cX8_init 200 = .ok (.newarray .int, 2) := by decide +kernel
theorem dX8_init_202 : decode cX8_init 202 = .ok (.putfield 80, 3) := by decide +kernel
theorem dX8_init_205 : decode cX8_init 205 = .ok (.aload_n 0, 1) := by decide +kernel
theorem dX8_init_206 : decode cX8_init 206 = .ok (.bipush 45, 2) := by decide +kernel
theorem dX8_init_208 : decode cX8_init 208 = .ok (.newarray .int, 2) := by decide +kernel
theorem dX8_init_210 : decode cX8_init 210 = .ok (.putfield 83, 3) := by decide +kernel
theorem dX8_init_213 : decode cX8_init 213 = .ok (.aload_n 0, 1) := by decide +kernel
theorem dX8_init_214 : decode cX8_init 214 = .ok (.bipush 18, 2) := by decide +kernel
theorem dX8_init_216 : decode cX8_init 216 = .ok (.newarray .int, 2) := by decide +kernel
theorem dX8_init_218 : decode cX8_init 218 = .ok (.dup, 1) := by decide +kernel
theorem dX8_init_219 : decode cX8_init 219 = .ok (.iconst 0, 1) := by decide +kernel
theorem dX8_init_220 : decode cX8_init 220 = .ok (.iconst 0, 1) := by decide +kernel
theorem dX8_init_221 : decode cX8_init 221 = .ok (.iastore, 1) := by decide +kernel
theorem dX8_init_222 : decode cX8_init 222 = .ok (.dup, 1) := by decide +kernel
theorem dX8_init_223 : decode cX8_init 223 = .ok (.iconst 1, 1) := by decide +kernel
theorem dX8_init_224 : decode cX8_init 224 = .ok (.iconst 1, 1) := by decide +kernel
theorem dX8_init_225 : decode cX8_init 225 = .ok (.iastore, 1) := by decide +kernel
theorem dX8_init_226 : decode cX8_init 226 = .ok (.dup, 1) := by decide +kernel
theorem dX8_init_227 : decode cX8_init 227 = .ok (.iconst 2, 1) := by decide +kernel
theorem dX8_init_228 : decode cX8_init 228 = .ok (.iconst 2, 1) := by decide +kernel
theorem dX8_init_229 : decode cX8_init 229 = .ok (.iastore, 1) := by decide +kernel
theorem dX8_init_230 : decode cX8_init 230 = .ok (.dup, 1) := by decide +kernel
theorem dX8_init_231 : decode cX8_init 231 = .ok (.iconst 3, 1) := by decide +kernel
theorem dX8_init_232 : decode cX8_init 232 = .ok (.iconst 0, 1) := by decide +kernel
theorem dX8_init_233 : decode cX8_init 233 = .ok (.iastore, 1) := by decide +kernel
theorem dX8_init_234 : decode cX8_init 234 = .ok (.dup, 1) := by decide +kernel
theorem dX8_init_235 : decode cX8_init 235 = .ok (.iconst 4, 1) := by decide +kernel
theorem dX8_init_236 : decode cX8_init 236 = .ok (.iconst 2, 1) := by decide +kernel
theorem dX8_init_237 : decode cX8_init 237 = .ok (.iastore, 1) := by decide +kernel
theorem dX8_init_238 : decode cX8_init 238 = .ok (.dup, 1) := by decide +kernel
theorem dX8_init_239 : decode cX8_init 239 = .ok (.iconst 5, 1) := by decide +kernel
theorem dX8_init_240 : decode cX8_init 240 = .ok (.iconst 1, 1) := by decide +kernel
theorem dX8_init_241 : decode cX8_init 241 = .ok (.iastore, 1) := by decide +kernel
theorem dX8_init_242 : decode cX8_init 242 = .ok (.dup, 1) := by decide +kernel
theorem dX8_init_243 : decode cX8_init 243 = .ok (.bipush 6, 2) := by decide +kernel
theorem dX8_init_245 : decode cX8_init 245 = .ok (.iconst 1, 1) := by decide +kernel
theorem dX8_init_246 : decode cX8_init 246 = .ok (.iastore, 1) := by decide +kernel
theorem dX8_init_247 : decode cX8_init 247 = .ok (.dup, 1) := by decide +kernel
theorem dX8_init_248 : decode cX8_init 248 = .ok (.bipush 7, 2) := by decide +kernel
theorem dX8_init_250 : decode cX8_init 250 = .ok (.iconst 0, 1) := by decide +kernel
theorem dX8_init_251 : decode cX8_init 251 = .ok (.iastore, 1) := by decide +kernel
theorem dX8_init_252 : decode cX8_init 252 = .ok (.dup, 1) := by decide +kernel
theorem dX8_init_253 : decode cX8_init 253 = .ok (.bipush 8, 2) := by decide +kernel
theorem dX8_init_255 : decode cX8_init 255 = .ok (.iconst 2, 1) := by decide +kernel
theorem dX8_init_256 : decode cX8_init 256 = .ok (.iastore, 1) := by decide +kernel
theorem dX8_init_257 : decode cX8_init 257 = .ok (.dup, 1) := by decide +kernel
theorem dX8_init_258 : decode cX8_init 258 = .ok (.bipush 9, 2) := by decide +kernel
theorem dX8_init_260 : decode cX8_init 260 = .ok (.iconst 1, 1) := by decide +kernel
theorem dX8_init_261 : decode cX8_init 261 = .ok (.iastore, 1) := by decide +kernel
theorem dX8_init_262 : decode cX8_init 262 = .ok (.dup, 1) := by decide +kernel
theorem dX8_init_263 : decode cX8_init 263 = .ok (.bipush 10, 2) := by decide +kernel
theorem dX8_init_265 : decode cX8_init 265 = .ok (.iconst 2, 1) := by decide +kernel
theorem dX8_init_266 : decode cX8_init 266 = .ok (.iastore, 1) := by decide +kernel
theorem dX8_init_267 : decode cX8_init 267 = .ok (.dup, 1) := by decide +kernel
theorem dX8_init_268 : decode cX8_init 268 = .ok (.bipush 11, 2) := by decide +kernel
theorem dX8_init_270 : decode cX8_init 270 = .ok (.iconst 0, 1) := by decide +kernel
theorem dX8_init_271 : decode cX8_init 271 = .ok (.iastore, 1) := by decide +kernel
theorem dX8_init_272 : decode cX8_init 272 = .ok (.dup, 1) := by decide +kernel
theorem dX8_init_273 : decode cX8_init 273 = .ok (.bipush 12, 2) := by decide +kernel
theorem dX8_init_275 : decode cX8_init 275 = .ok (.iconst 2, 1) := by decide +kernel
theorem dX8_init_276 : decode cX8_init 276 = .ok (.iastore, 1) := by decide +kernel
theorem dX8_init_277 : decode cX8_init 277 = .ok (.dup, 1) := by decide +kernel
theorem dX8_init_278 : decode cX8_init 278 = .ok (.bipush 13, 2) := by decide +kernel
theorem dX8_init_280 : decode cX8_init 280 = .ok (.iconst 0, 1) := by decide +kernel
theorem dX8_init_281 : decode cX8_init 281 = .ok (.iastore, 1) := by decide +kernel
theorem dX8_init_282 : decode cX8_init 282 = .ok (.dup, 1) := by decide +kernel
theorem dX8_init_283 : decode cX8_init 283 = .ok (.bipush 14, 2) := by decide +kernel
theorem dX8_init_285 : decode cX8_init 285 = .ok (.iconst 1, 1) := by decide +kernel
theorem dX8_init_286 : decode cX8_init 286 = .ok (.iastore, 1) := by decide +kernel
theorem dX8_init_287 : decode cX8_init 287 = .ok (.dup, 1) := by decide +kernel
theorem dX8_init_288 : decode cX8_init 288 = .ok (.bipush 15, 2) := by decide +kernel
theorem dX8_init_290 : decode cX8_init 290 = .ok (.iconst 2, 1) := by decide +kernel
theorem dX8_init_291 : decode cX8_init 291 = .ok (.iastore, 1) := by decide +kernel
theorem dX8_init_292 : decode cX8_init 292 = .ok (.dup, 1) := by decide +kernel
theorem dX8_init_293 : decode cX8_init 293 = .ok (.bipush 16, 2) := by decide +kernel
theorem dX8_init_295 : decode cX8_init 295 = .ok (.iconst 1, 1) := by decide +kernel
theorem dX8_init_296 : decode cX8_init 296 = .ok (.iastore, 1) := by decide +kernel
theorem dX8_init_297 : decode cX8_init 297 = .ok (.dup, 1) := by decide +kernel
theorem dX8_init_298 : decode cX8_init 298 = .ok (.bipush 17, 2) := by decide +kernel
theorem dX8_init_300 : decode cX8_init 300 = .ok (.iconst 0, 1) := by decide +kernel
theorem dX8_init_301 : decode cX8_init 301 = .ok (.iastore, 1) := by decide +kernel
theorem dX8_init_302 : decode cX8_init 302 = .ok (.putfield 86, 3) := by decide +kernel
theorem dX8_init_305 : decode cX8_init 305 = .ok (.aload_n 0, 1) := by decide +kernel
theorem dX8_init_306 : decode cX8_init 306 = .ok (.sipush 7500, 3) := by decide +kernel
theorem dX8_init_309 : decode cX8_init 309 = .ok (.newarray .int, 2) := by decide +kernel
theorem dX8_init_311 : decode cX8_init 311 = .ok (.putfield 89, 3) := by decide +kernel
theorem dX8_init_314 : decode cX8_init 314 = .ok (.aload_n 0, 1) := by decide +kernel
theorem dX8_init_315 : decode cX8_init 315 = .ok (.iconst 5, 1) := by decide +kernel
theorem dX8_init_316 : decode cX8_init 316 = .ok (.newarray .int, 2) := by decide +kernel
theorem dX8_init_318 : decode cX8_init 318 = .ok (.putfield 92, 3) := by decide +kernel
theorem dX8_init_321 : decode cX8_init 321 = .ok (.aload_n 0, 1) := by decide +kernel
theorem dX8_init_322 : decode cX8_init 322 = .ok (.iconst 5, 1) := by decide +kernel
theorem dX8_init_323 : decode cX8_init 323 = .ok (.newarray .int, 2) := by decide +kernel
theorem dX8_init_325 : decode cX8_init 325 = .ok (.putfield 95, 3) := by decide +kernel
theorem dX8_init_328 : decode cX8_init 328 = .ok (.aload_n 0, 1) := by decide +kernel
theorem dX8_init_329 : decode cX8_init 329 = .ok (.iconst 5, 1) := by decide +kernel
theorem dX8_init_330 : decode cX8_init 330 = .ok (.newarray .int, 2) := by decide +kernel
theorem dX8_init_332 : decode cX8_init 332 = .ok (.putfield 98, 3) := by decide +kernel
theorem dX8_init_335 : decode cX8_init 335 = .ok (.aload_n 0, 1) := by decide +kernel
theorem dX8_init_336 : decode cX8_init 336 = .ok (.iconst 5, 1) := by decide +kernel
theorem dX8_init_337 : decode cX8_init 337 = .ok (.newarray .int, 2) := by decide +kernel
theorem dX8_init_339 : decode cX8_init 339 = .ok (.putfield 101, 3) := by decide +kernel
theorem dX8_init_342 : decode cX8_init 342 = .ok (.aload_n 0, 1) := by decide +kernel
theorem dX8_init_343 : decode cX8_init 343 = .ok (.getfield 47, 3) := by decide +kernel
theorem dX8_init_346 : decode cX8_init 346 = .ok (.iconst 0, 1) := by decide +kernel
theorem dX8_init_347 : decode cX8_init 347 = .ok (.bipush 60, 2) := by decide +kernel
theorem dX8_init_349 : decode cX8_init 349 = .ok (.iastore, 1) := by decide +kernel
theorem dX8_init_350 : decode cX8_init 350 = .ok (.aload_n 0, 1) := by decide +kernel
theorem dX8_init_351 : decode cX8_init 351 = .ok (.getfield 47, 3) := by decide +kernel
theorem dX8_init_354 : decode cX8_init 354 = .ok (.iconst 2, 1) := by decide +kernel
theorem dX8_init_355 : decode cX8_init 355 = .ok (.iconst 3, 1) := by decide +kernel
theorem dX8_init_356 : decode cX8_init 356 = .ok (.iastore, 1) := by decide +kernel
theorem dX8_init_357 : decode cX8_init 357 = .ok (.aload_n 0, 1) := by decide +kernel
theorem dX8_init_358 : decode cX8_init 358 = .ok (.getfield 47, 3) := by decide +kernel
theorem dX8_init_361 : decode cX8_init 361 = .ok (.iconst 3, 1) := by decide +kernel
theorem dX8_init_362 : decode cX8_init 362 = .ok (.bipush 100, 2) := by decide +kernel
theorem dX8_init_364 : decode cX8_init 364 = .ok (.iastore, 1) := by decide +kernel
theorem dX8_init_365 : decode cX8_init 365 = .ok (.aload_n 0, 1) := by decide +kernel
theorem dX8_init_366 : decode cX8_init 366 = .ok (.getfield 47, 3) := by decide +kernel
theorem dX8_init_369 : decode cX8_init 369 = .ok (.iconst 4, 1) := by decide +kernel
theorem dX8_init_370 : decode cX8_init 370 = .ok (.iconst 1, 1) := by decide +kernel
theorem dX8_init_371 : decode cX8_init 371 = .ok (.iastore, 1) := by decide +kernel
theorem dX8_init_372 : decode cX8_init 372 = .ok (.aload_n 0, 1) := by decide +kernel
theorem dX8_init_373 : decode cX8_init 373 = .ok (.getfield 47, 3) := by decide +kernel
theorem dX8_init_376 : decode cX8_init 376 = .ok (.iconst 5, 1) := by decide +kernel
theorem dX8_init_377 : decode cX8_init 377 = .ok (.iconst 1, 1) := by decide +kernel
theorem dX8_init_378 : decode cX8_init 378 = .ok (.iastore, 1) := by decide +kernel
theorem dX8_init_379 : decode cX8_init 379 = .ok (.aload_n 0, 1) := by decide +kernel
theorem dX8_init_380 : decode cX8_init 380 = .ok (.getfield 47, 3) := by decide +kernel
theorem dX8_init_383 : decode cX8_init 383 = .ok (.bipush 6, 2) := by decide +kernel
theorem dX8_init_385 : decode cX8_init 385 = .ok (.iconst 1, 1) := by decide +kernel
theorem dX8_init_386 : decode cX8_init 386 = .ok (.iastore, 1) := by decide +kernel
theorem dX8_init_387 : decode cX8_init 387 = .ok (.return_, 1) := by decide +kernel
theorem dX8_isTeam_0 : decode cX8_isTeam 0 = .ok (.iload_n 1, 1) := by decide +kernel
theorem dX8_isTeam_1 : decode cX8_isTeam 1 = .ok (.ifCond .lt 15, 3) := by decide +kernel
theorem dX8_isTeam_4 : decode cX8_isTeam 4 = .ok (.iload_n 1, 1) := by decide +kernel
theorem dX8_isTeam_5 : decode cX8_isTeam 5 = .ok (.aload_n 0, 1) := by decide +kernel
theorem dX8_isTeam_6 : decode cX8_isTeam 6 = .ok (.getfield 104, 3) := by decide +kernel
theorem dX8_isTeam_9 : decode cX8_isTeam 9 = .ok (.if_icmp .ge 7, 3) := by decide +kernel
theorem dX8_isTeam_12 : decode cX8_isTeam 12 = .ok (.iconst 1, 1) := by decide +kernel
theorem dX8_isTeam_13 : decode cX8_isTeam 13 = .ok (.goto 4, 3) := by decide +kernel
theorem dX8_isTeam_16 : decode cX8_isTeam 16 = .ok (.iconst 0, 1) := by decide +kernel
theorem dX8_isTeam_17 : decode cX8_isTeam 17 = .ok (.ireturn, 1) := by decide +kernel
theorem dX8_isIn_0 : decode cX8_isIn 0 = .ok (.lload_n 0, 1) := by decide +kernel
theorem dX8_isIn_1 : decode cX8_isIn 1 = .ok (.lload_n 2, 1) := by decide +kernel
theorem dX8_isIn_2 : decode cX8_isIn 2 = .ok (.lcmp, 1) := by decide +kernel
theorem dX8_isIn_3 : decode cX8_isIn 3 = .ok (.ifCond .lt 14, 3) := by decide +kernel
theorem dX8_isIn_6 : decode cX8_isIn 6 = .ok (.lload_n 0, 1) := by decide +kernel
theorem dX8_isIn_7 : decode cX8_isIn 7 = .ok (.lload 4, 2) := by decide +kernel
theorem dX8_isIn_9 : decode cX8_isIn 9 = .ok (.lcmp, 1) := by decide +kernel
theorem dX8_isIn_10 : decode cX8_isIn 10 = .ok (.ifCond .gt 7, 3) := by decide +kernel
theorem dX8_isIn_13 : decode cX8_isIn 13 = .ok (.iconst 1, 1) := by decide +kernel
theorem dX8_isIn_14 : decode cX8_isIn 14 = .ok (.goto 4, 3) := by decide +kernel
theorem dX8_isIn_17 : decode cX8_isIn 17 = .ok (.iconst 0, 1) := by decide +kernel
theorem dX8_isIn_18 : decode cX8_isIn 18 = .ok (.ireturn, 1) := by decide +kernel
set_option maxRecDepth 20000 in
theorem ggX8_isPlace_X8_isTeam : GoodIn wsX8_isPlace wsX8_isTeam := goodIn_r _ [6, 7, 11, 12, 13, 14, 15, 16, 17, 18, 19, 20, 21, 22, 23, 24, 25, 26, 27, 28, 29, 30, 31, 32, 33, 34, 35, 36, 37, 38, 39, 40, 41, 42, 43, 44, 45, 46, 47, 48, 49, 50, 51, 52, 53] (by decide +kernel) (by decide +kernel)
set_option maxRecDepth 20000 in
theorem gX8_isPlace_X8_isTeam : GoodIn wsX8_isPlace (wsV RX8 108 RX8 yX8_isTeam wsX8_isTeam) := goodIn_app (goodIn_of _ (by decide +kernel)) ggX8_isPlace_X8_isTeam
set_option maxRecDepth 20000 in
theorem ggX8_isPlace_X8_isIn : GoodIn wsX8_isPlace wsX8_isIn := goodIn_r _ [10] (by decide +kernel) (by decide +kernel)
set_option maxRecDepth 20000 in
theorem gX8_isPlace_X8_isIn : GoodIn wsX8_isPlace (va_wsS RX8 114 yX8_isIn wsX8_isIn) := goodIn_app (goodIn_of _ (by decide +kernel)) ggX8_isPlace_X8_isIn
theorem dX8_isPlace_0 : decode cX8_isPlace 0 = .ok (.aload_n 0, 1) := by decide +kernel
theorem dX8_isPlace_1 : decode cX8_isPlace 1 = .ok (.iload_n 1, 1) := by decide +kernel
theorem dX8_isPlace_2 : decode cX8_isPlace 2 = .ok (.invokevirtual 108, 3) := by decide +kernel
theorem dX8_isPlace_5 : decode cX8_isPlace 5 = .ok (.ifCond .eq 19, 3) := by decide +kernel
theorem dX8_isPlace_8 : decode cX8_isPlace 8 = .ok (.iload_n 2, 1) := by decide +kernel
theorem dX8_isPlace_9 : decode cX8_isPlace 9 = .ok (.i2l, 1) := by decide +kernel
theorem dX8_isPlace_10 : decode cX8_isPlace 10 = .ok (.lconst 0, 1) := by decide +kernel
theorem dX8_isPlace_11 : decode cX8_isPlace 11 = .ok (.ldc2_w 112, 3) := by decide +kernel
theorem dX8_isPlace_14 : decode cX8_isPlace 14 = .ok (.invokestatic 114, 3) := by decide +kernel
theorem dX8_isPlace_17 : decode cX8_isPlace 17 = .ok (.ifCond .eq 7, 3) := by decide +kernel
theorem dX8_isPlace_20 : decode cX8_isPlace 20 = .ok (.iconst 1, 1) := by decide +kernel
theorem dX8_isPlace_21 : decode cX8_isPlace 21 = .ok (.goto 4, 3) := by decide +kernel
theorem dX8_isPlace_24 : decode cX8_isPlace 24 = .ok (.iconst 0, 1) := by decide +kernel
theorem dX8_isPlace_25 : decode cX8_isPlace 25 = .ok (.ireturn, 1) := by decide +kernel
theorem dX8_team_0 : decode cX8_team 0 = .ok (.aload_n 0, 1) := by decide +kernel
theorem dX8_team_1 : decode cX8_team 1 = .ok (.getfield 118, 3) := by decide +kernel
theorem dX8_team_4 : decode cX8_team 4 = .ok (.ifCond .le 6, 3) := by decide +kernel
theorem dX8_team_7 : decode cX8_team 7 = .ok (.bipush (-3), 2) := by decide +kernel
theorem dX8_team_9 : decode cX8_team 9 = .ok (.ireturn, 1) := by decide +kernel
theorem dX8_team_10 : decode cX8_team 10 = .ok (.aload_n 0, 1) := by decide +kernel
theorem dX8_team_11 : decode cX8_team 11 = .ok (.getfield 104, 3) := by decide +kernel
theorem dX8_team_14 : decode cX8_team 14 = .ok (.iconst 5, 1) := by decide +kernel
theorem dX8_team_15 : decode cX8_team 15 = .ok (.if_icmp .ne 6, 3) := by decide +kernel
theorem dX8_team_18 : decode cX8_team 18 = .ok (.bipush (-4), 2) := by decide +kernel
theorem dX8_team_20 : decode cX8_team 20 = .ok (.ireturn, 1) := by decide +kernel
theorem dX8_team_21 : decode cX8_team 21 = .ok (.aload_n 0, 1) := by decide +kernel
theorem dX8_team_22 : decode cX8_team 22 = .ok (.dup, 1) := by decide +kernel
theorem dX8_team_23 : decode cX8_team 23 = .ok (.getfield 104, 3) := by decide +kernel
theorem dX8_team_26 : decode cX8_team 26 = .ok (.iconst 1, 1) := by decide +kernel
theorem dX8_team_27 : decode cX8_team 27 = .ok (.iadd, 1) := by decide +kernel
theorem dX8_team_28 : decode cX8_team 28 = .ok (.putfield 104, 3) := by decide +kernel
theorem dX8_team_31 : decode cX8_team 31 = .ok (.aload_n 0, 1) := by decide +kernel
theorem dX8_team_32 : decode cX8_team 32 = .ok (.getfield 104, 3) := by decide +kernel
theorem dX8_team_35 : decode cX8_team 35 = .ok (.iconst 1, 1) := by decide +kernel
theorem dX8_team_36 : decode cX8_team 36 = .ok (.isub, 1) := by decide +kernel
theorem dX8_team_37 : decode cX8_team 37 = .ok (.ireturn, 1) := by decide +kernel
set_option maxRecDepth 20000 in
theorem ggX8_feed_X8_isIn : GoodIn wsX8_feed wsX8_isIn := goodIn_r _ [8] (by decide +kernel) (by decide +kernel)
set_option maxRecDepth 20000 in
theorem gX8_feed_X8_isIn : GoodIn wsX8_feed (va_wsS RX8 114 yX8_isIn wsX8_isIn) := goodIn_app (goodIn_of _ (by decide +kernel)) ggX8_feed_X8_isIn
theorem dX8_feed_0 : decode cX8_feed 0 = .ok (.iload_n 3, 1) := by decide +kernel
theorem dX8_feed_1 : decode cX8_feed 1 = .ok (.i2l, 1) := by decide +kernel
theorem dX8_feed_2 : decode cX8_feed 2 = .ok (.lconst 1, 1) := by decide +kernel
theorem dX8_feed_3 : decode cX8_feed 3 = .ok (.ldc2_w 121, 3) := by decide +kernel
theorem dX8_feed_6 : decode cX8_feed 6 = .ok (.invokestatic 114, 3) := by decide +kernel
theorem dX8_feed_9 : decode cX8_feed 9 = .ok (.ifCond .ne 6, 3) := by decide +kernel
theorem dX8_feed_12 : decode cX8_feed 12 = .ok (.bipush (-2), 2) := by decide +kernel
theorem dX8_feed_14 : decode cX8_feed 14 = .ok (.ireturn, 1) := by decide +kernel
theorem dX8_feed_15 : decode cX8_feed 15 = .ok (.aload_n 0, 1) := by decide +kernel
theorem dX8_feed_16 : decode cX8_feed 16 = .ok (.getfield 123, 3) := by decide +kernel
theorem dX8_feed_19 : decode cX8_feed 19 = .ok (.iload_n 3, 1) := by decide +kernel
theorem dX8_feed_20 : decode cX8_feed 20 = .ok (.iadd, 1) := by decide +kernel
theorem dX8_feed_21 : decode cX8_feed 21 = .ok (.bipush 120, 2) := by decide +kernel
theorem dX8_feed_23 : decode cX8_feed 23 = .ok (.if_icmp .le 6, 3) := by decide +kernel
theorem dX8_feed_26 : decode cX8_feed 26 = .ok (.bipush (-4), 2) := by decide +kernel
theorem dX8_feed_28 : decode cX8_feed 28 = .ok (.ireturn, 1) := by decide +kernel
theorem dX8_feed_29 : decode cX8_feed 29 = .ok (.iload_n 3, 1) := by decide +kernel
theorem dX8_feed_30 : decode cX8_feed 30 = .ok (.iconst 1, 1) := by decide +kernel
theorem dX8_feed_31 : decode cX8_feed 31 = .ok (.isub, 1) := by decide +kernel
theorem dX8_feed_32 : decode cX8_feed 32 = .ok (.istore 4, 2) := by decide +kernel
theorem dX8_feed_34 : decode cX8_feed 34 = .ok (.iload 4, 2) := by decide +kernel
theorem dX8_feed_36 : decode cX8_feed 36 = .ok (.ifCond .lt 40, 3) := by decide +kernel
theorem dX8_feed_39 : decode cX8_feed 39 = .ok (.aload_n 0, 1) := by decide +kernel
theorem dX8_feed_40 : decode cX8_feed 40 = .ok (.getfield 7, 3) := by decide +kernel
theorem dX8_feed_43 : decode cX8_feed 43 = .ok (.aload_n 0, 1) := by decide +kernel
theorem dX8_feed_44 : decode cX8_feed 44 = .ok (.getfield 123, 3) := by decide +kernel
theorem dX8_feed_47 : decode cX8_feed 47 = .ok (.lload_n 1, 1) := by decide +kernel
theorem dX8_feed_48 : decode cX8_feed 48 = .ok (.bipush 8, 2) := by decide +kernel
theorem dX8_feed_50 : decode cX8_feed 50 = .ok (.iload 4, 2) := by decide +kernel
theorem dX8_feed_52 : decode cX8_feed 52 = .ok (.imul, 1) := by decide +kernel
theorem dX8_feed_53 : decode cX8_feed 53 = .ok (.lshr, 1) := by decide +kernel
theorem dX8_feed_54 : decode cX8_feed 54 = .ok (.ldc2_w 126, 3) := by decide +kernel
theorem dX8_feed_57 : decode cX8_feed 57 = .ok (.land, 1) := by decide +kernel
theorem dX8_feed_58 : decode cX8_feed 58 = .ok (.l2i, 1) := by decide +kernel
theorem dX8_feed_59 : decode cX8_feed 59 = .ok (.iastore, 1) := by decide +kernel
theorem dX8_feed_60 : decode cX8_feed 60 = .ok (.aload_n 0, 1) := by decide +kernel
theorem dX8_feed_61 : decode cX8_feed 61 = .ok (.dup, 1) := by decide +kernel
theorem dX8_feed_62 : decode cX8_feed 62 = .ok (.getfield 123, 3) := by decide +kernel
theorem dX8_feed_65 : decode cX8_feed 65 = .ok (.iconst 1, 1) := by decide +kernel
theorem dX8_feed_66 : decode cX8_feed 66 = .ok (.iadd, 1) := by decide +kernel
theorem dX8_feed_67 : decode cX8_feed 67 = .ok (.putfield 123, 3) := by decide +kernel
theorem dX8_feed_70 : decode cX8_feed 70 = .ok (.iinc 4 (-1), 3) := by decide +kernel
theorem dX8_feed_73 : decode cX8_feed 73 = .ok (.goto (-39), 3) := by decide +kernel
theorem dX8_feed_76 : decode cX8_feed 76 = .ok (.aload_n 0, 1) := by decide +kernel
theorem dX8_feed_77 : decode cX8_feed 77 = .ok (.getfield 123, 3) := by decide +kernel
theorem dX8_feed_80 : decode cX8_feed 80 = .ok (.ireturn, 1) := by decide +kernel
theorem dX8_sign_0 : decode cX8_sign 0 = .ok (.aload_n 0, 1) := by decide +kernel
theorem dX8_sign_1 : decode cX8_sign 1 = .ok (.getfield 128, 3) := by decide +kernel
theorem dX8_sign_4 : decode cX8_sign 4 = .ok (.aload_n 0, 1) := by decide +kernel
theorem dX8_sign_5 : decode cX8_sign 5 = .ok (.getfield 123, 3) := by decide +kernel
theorem dX8_sign_8 : decode cX8_sign 8 = .ok (.if_icmp .ge 15, 3) := by decide +kernel
theorem dX8_sign_11 : decode cX8_sign 11 = .ok (.aload_n 0, 1) := by decide +kernel
theorem dX8_sign_12 : decode cX8_sign 12 = .ok (.getfield 7, 3) := by decide +kernel
theorem dX8_sign_15 : decode cX8_sign 15 = .ok (.aload_n 0, 1) := by decide +kernel
theorem dX8_sign_16 : decode cX8_sign 16 = .ok (.getfield 128, 3) := by decide +kernel
theorem dX8_sign_19 : decode cX8_sign 19 = .ok (.iaload, 1) := by decide +kernel
theorem dX8_sign_20 : decode cX8_sign 20 = .ok (.goto 4, 3) := by decide +kernel
theorem dX8_sign_23 : decode cX8_sign 23 = .ok (.iconst (-1), 1) := by decide +kernel
theorem dX8_sign_24 : decode cX8_sign 24 = .ok (.ireturn, 1) := by decide +kernel
set_option maxRecDepth 20000 in
theorem ggX8_isDigit_X8_sign : GoodIn wsX8_isDigit wsX8_sign := goodIn_r _ [5, 6, 7, 8, 9, 10, 11, 12, 13, 14, 15, 16, 17, 18, 19, 20, 21, 22, 23, 24, 25, 26, 27, 28, 29, 30, 31, 32, 33, 34, 35, 36, 37, 38, 39, 40, 41, 42, 43, 44, 45, 46, 47, 48, 49, 50, 51] (by decide +kernel) (by decide +kernel)
set_option maxRecDepth 20000 in
theorem gX8_isDigit_X8_sign : GoodIn wsX8_isDigit (wsV RX8 131 RX8 yX8_sign wsX8_sign) := goodIn_app (goodIn_of _ (by decide +kernel)) ggX8_isDigit_X8_sign
theorem dX8_isDigit_0 : decode cX8_isDigit 0 = .ok (.aload_n 0, 1) := by decide +kernel
theorem dX8_isDigit_1 : decode cX8_isDigit 1 = .ok (.invokevirtual 131, 3) := by decide +kernel
theorem dX8_isDigit_4 : decode cX8_isDigit 4 = .ok (.bipush 48, 2) := by decide +kernel
theorem dX8_isDigit_6 : decode cX8_isDigit 6 = .ok (.if_icmp .lt 16, 3) := by decide +kernel
theorem dX8_isDigit_9 : decode cX8_isDigit 9 = .ok (.aload_n 0, 1) := by decide +kernel
theorem dX8_isDigit_10 : decode cX8_isDigit 10 = .ok (.invokevirtual 131, 3) := by decide +kernel
theorem dX8_isDigit_13 : decode cX8_isDigit 13 = .ok (.bipush 57, 2) := by decide +kernel
theorem dX8_isDigit_15 : decode cX8_isDigit 15 = .ok (.if_icmp .gt 7, 3) := by decide +kernel
theorem dX8_isDigit_18 : decode cX8_isDigit 18 = .ok (.iconst 1, 1) := by decide +kernel
theorem dX8_isDigit_19 : decode cX8_isDigit 19 = .ok (.goto 4, 3) := by decide +kernel
theorem dX8_isDigit_22 : decode cX8_isDigit 22 = .ok (.iconst 0, 1) := by decide +kernel
theorem dX8_isDigit_23 : decode cX8_isDigit 23 = .ok (.ireturn, 1) := by decide +kernel
set_option maxRecDepth 20000 in
theorem ggX8_digits_X8_isDigit : GoodIn wsX8_digits wsX8_isDigit := goodIn_r _ [6, 7, 8, 9, 5, 10, 1, 11, 12, 13, 14, 15, 16, 17, 18, 19, 20, 21, 22, 23, 24, 25, 26, 27, 28, 29, 30, 31, 32, 33, 34, 35, 36, 37, 38, 39, 40, 41, 42, 43, 44, 45, 46, 47, 48, 49, 50, 51, 52, 53, 54, 55] (by decide +kernel) (by decide +kernel)
set_option maxRecDepth 20000 in
theorem gX8_digits_X8_isDigit : GoodIn wsX8_digits (wsV RX8 135 RX8 yX8_isDigit wsX8_isDigit) := goodIn_app (goodIn_of _ (by decide +kernel)) ggX8_digits_X8_isDigit
set_option maxRecDepth 20000 in
theorem ggX8_digits_X8_sign : GoodIn wsX8_digits wsX8_sign := goodIn_r _ [10, 1, 11, 12, 13, 14, 15, 16, 17, 18, 19, 20, 21, 22, 23, 24, 25, 26, 27, 28, 29, 30, 31, 32, 33, 34, 35, 36, 37, 38, 39, 40, 41, 42, 43, 44, 45, 46, 47, 48, 49, 50, 51, 52, 53, 54, 55] (by decide +kernel) (by decide +kernel)
set_option maxRecDepth 20000 in
theorem gX8_digits_X8_sign : GoodIn wsX8_digits (wsV RX8 131 RX8 yX8_sign wsX8_sign) := goodIn_app (goodIn_of _ (by decide +kernel)) ggX8_digits_X8_sign
theorem dX8_digits_0 : decode cX8_digits 0 = .ok (.aload_n 0, 1) := by decide +kernel
theorem dX8_digits_1 : decode cX8_digits 1 = .ok (.invokevirtual 135, 3) := by decide +kernel
theorem dX8_digits_4 : decode cX8_digits 4 = .ok (.ifCond .ne 5, 3) := by decide +kernel
theorem dX8_digits_7 : decode cX8_digits 7 = .ok (.iconst (-1), 1) := by decide +kernel
theorem dX8_digits_8 : decode cX8_digits 8 = .ok (.ireturn, 1) := by decide +kernel
theorem dX8_digits_9 : decode cX8_digits 9 = .ok (.aload_n 0, 1) := by decide +kernel
theorem dX8_digits_10 : decode cX8_digits 10 = .ok (.invokevirtual 131, 3) := by decide +kernel
theorem dX8_digits_13 : decode cX8_digits 13 = .ok (.bipush 48, 2) := by decide +kernel
theorem dX8_digits_15 : decode cX8_digits 15 = .ok (.isub, 1) := by decide +kernel
theorem dX8_digits_16 : decode cX8_digits 16 = .ok (.istore_n 2, 1) := by decide +kernel
theorem dX8_digits_17 : decode cX8_digits 17 = .ok (.aload_n 0, 1) := by decide +kernel
theorem dX8_digits_18 : decode cX8_digits 18 = .ok (.dup, 1) := by decide +kernel
theorem dX8_digits_19 : decode cX8_digits 19 = .ok (.getfield 128, 3) := by decide +kernel
theorem dX8_digits_22 : decode cX8_digits 22 = .ok (.iconst 1, 1) := by decide +kernel
theorem dX8_digits_23 : decode cX8_digits 23 = .ok (.iadd, 1) := by decide +kernel
theorem dX8_digits_24 : decode cX8_digits 24 = .ok (.putfield 128, 3) := by decide +kernel
theorem dX8_digits_27 : decode cX8_digits 27 = .ok (.iconst 1, 1) := by decide +kernel
theorem dX8_digits_28 : decode cX8_digits 28 = .ok (.istore_n 3, 1) := by decide +kernel
theorem dX8_digits_29 : decode cX8_digits 29 = .ok (.iload_n 3, 1) := by decide +kernel
theorem dX8_digits_30 : decode cX8_digits 30 = .ok (.iload_n 1, 1) := by decide +kernel
theorem dX8_digits_31 : decode cX8_digits 31 = .ok (.if_icmp .ge 43, 3) := by decide +kernel
theorem dX8_digits_34 : decode cX8_digits 34 = .ok (.iload_n 2, 1) := by decide +kernel
theorem dX8_digits_35 : decode cX8_digits 35 = .ok (.ifCond .le 39, 3) := by decide +kernel
theorem dX8_digits_38 : decode cX8_digits 38 = .ok (.aload_n 0, 1) := by decide +kernel
theorem dX8_digits_39 : decode cX8_digits 39 = .ok (.invokevirtual 135, 3) := by decide +kernel
theorem dX8_digits_42 : decode cX8_digits 42 = .ok (.ifCond .eq 32, 3) := by decide +kernel
theorem dX8_digits_45 : decode cX8_digits 45 = .ok (.bipush 10, 2) := by decide +kernel
theorem dX8_digits_47 : decode cX8_digits 47 = .ok (.iload_n 2, 1) := by decide +kernel
theorem dX8_digits_48 : decode cX8_digits 48 = .ok (.imul, 1) := by decide +kernel
theorem dX8_digits_49 : decode cX8_digits 49 = .ok (.aload_n 0, 1) := by decide +kernel
theorem dX8_digits_50 : decode cX8_digits 50 = .ok (.invokevirtual 131, 3) := by decide +kernel
theorem dX8_digits_53 : decode cX8_digits 53 = .ok (.iadd, 1) := by decide +kernel
theorem dX8_digits_54 : decode cX8_digits 54 = .ok (.bipush 48, 2) := by decide +kernel
theorem dX8_digits_56 : decode cX8_digits 56 = .ok (.isub, 1) := by decide +kernel
theorem dX8_digits_57 : decode cX8_digits 57 = .ok (.istore_n 2, 1) := by decide +kernel
theorem dX8_digits_58 : decode cX8_digits 58 = .ok (.aload_n 0, 1) := by decide +kernel
theorem dX8_digits_59 : decode cX8_digits 59 = .ok (.dup, 1) := by decide +kernel
theorem dX8_digits_60 : decode cX8_digits 60 = .ok (.getfield 128, 3) := by decide +kernel
theorem dX8_digits_63 : decode cX8_digits 63 = .ok (.iconst 1, 1) := by decide +kernel
theorem dX8_digits_64 : decode cX8_digits 64 = .ok (.iadd, 1) := by decide +kernel
theorem dX8_digits_65 : decode cX8_digits 65 = .ok (.putfield 128, 3) := by decide +kernel
theorem dX8_digits_68 : decode cX8_digits 68 = .ok (.iinc 3 1, 3) := by decide +kernel
theorem dX8_digits_71 : decode cX8_digits 71 = .ok (.goto (-42), 3) := by decide +kernel
theorem dX8_digits_74 : decode cX8_digits 74 = .ok (.iload_n 2, 1) := by decide +kernel
theorem dX8_digits_75 : decode cX8_digits 75 = .ok (.ireturn, 1) := by decide +kernel
set_option maxRecDepth 20000 in
theorem ggX8_readsStep_X8_sign : GoodIn wsX8_readsStep wsX8_sign := goodIn_r _ [9, 1, 10, 11, 20, 21, 22, 23, 24, 25, 26, 27, 28, 29, 30, 31, 32, 33, 34, 35, 36, 37, 38, 39, 40, 41, 42, 43, 44, 45, 46, 47, 48, 49, 50, 51, 52, 53, 54, 55, 56, 57, 58, 59, 60, 61, 62] (by decide +kernel) (by decide +kernel)
set_option maxRecDepth 20000 in
theorem gX8_readsStep_X8_sign : GoodIn wsX8_readsStep (wsV RX8 131 RX8 yX8_sign wsX8_sign) := goodIn_app (goodIn_of _ (by decide +kernel)) ggX8_readsStep_X8_sign
set_option maxRecDepth 20000 in
theorem ggX8_readsStep_X8_isDigit : GoodIn wsX8_readsStep wsX8_isDigit := goodIn_r _ [15, 5, 6, 7, 8, 9, 1, 10, 11, 20, 21, 22, 23, 24, 25, 26, 27, 28, 29, 30, 31, 32, 33, 34, 35, 36, 37, 38, 39, 40, 41, 42, 43, 44, 45, 46, 47, 48, 49, 50, 51, 52, 53, 54, 55, 56, 57, 58, 59, 60, 61, 62] (by decide +kernel) (by decide +kernel)
set_option maxRecDepth 20000 in
theorem gX8_readsStep_X8_isDigit : GoodIn wsX8_readsStep (wsV RX8 135 RX8 yX8_isDigit wsX8_isDigit) := goodIn_app (goodIn_of _ (by decide +kernel)) ggX8_readsStep_X8_isDigit
set_option maxRecDepth 20000 in
theorem ggX8_readsStep_X8_digits : GoodIn wsX8_readsStep wsX8_digits := goodIn_r _ [19, 1, 12, 13, 14, 8, 15, 5, 6, 7, 9, 10, 11, 20, 21, 22, 23, 24, 25, 26, 27, 28, 29, 30, 31, 32, 33, 34, 35, 36, 37, 38, 39, 40, 41, 42, 43, 44, 45, 46, 47, 48, 49, 50, 51, 52, 53, 54, 55, 56, 57, 58, 59, 60, 61, 62] (by decide +kernel) (by decide +kernel)
set_option maxRecDepth 20000 in
theorem gX8_readsStep_X8_digits : GoodIn wsX8_readsStep (wsV RX8 139 RX8 yX8_digits wsX8_digits) := goodIn_app (goodIn_of _ (by decide +kernel)) ggX8_readsStep_X8_digits
theorem dX8_readsStep_0 : decode cX8_readsStep 0 = .ok (.aload_n 0, 1) := by decide +kernel
theorem dX8_readsStep_1 : decode cX8_readsStep 1 = .ok (.invokevirtual 131, 3) := by decide +kernel
theorem dX8_readsStep_4 : decode cX8_readsStep 4 = .ok (.istore_n 1, 1) := by decide +kernel
theorem dX8_readsStep_5 : decode cX8_readsStep 5 = .ok (.iconst 0, 1) := by decide +kernel
theorem dX8_readsStep_6 : decode cX8_readsStep 6 = .ok (.istore_n 2, 1) := by decide +kernel
theorem dX8_readsStep_7 : decode cX8_readsStep 7 = .ok (.iload_n 1, 1) := by decide +kernel
theorem dX8_readsStep_8 : decode cX8_readsStep 8 = .ok (.bipush 97, 2) := by decide +kernel
theorem dX8_readsStep_10 : decode cX8_readsStep 10 = .ok (.if_icmp .eq 51, 3) := by decide +kernel
theorem dX8_readsStep_13 : decode cX8_readsStep 13 = .ok (.iload_n 1, 1) := by decide +kernel
theorem dX8_readsStep_14 : decode cX8_readsStep 14 = .ok (.bipush 98, 2) := by decide +kernel
theorem dX8_readsStep_16 : decode cX8_readsStep 16 = .ok (.if_icmp .eq 45, 3) := by decide +kernel
theorem dX8_readsStep_19 : decode cX8_readsStep 19 = .ok (.iload_n 1, 1) := by decide +kernel
theorem dX8_readsStep_20 : decode cX8_readsStep 20 = .ok (.bipush 43, 2) := by decide +kernel
theorem dX8_readsStep_22 : decode cX8_readsStep 22 = .ok (.if_icmp .eq 39, 3) := by decide +kernel
theorem dX8_readsStep_25 : decode cX8_readsStep 25 = .ok (.iload_n 1, 1) := by decide +kernel
theorem dX8_readsStep_26 : decode cX8_readsStep 26 = .ok (.bipush 45, 2) := by decide +kernel
theorem dX8_readsStep_28 : decode cX8_readsStep 28 = .ok (.if_icmp .eq 33, 3) := by decide +kernel
theorem dX8_readsStep_31 : decode cX8_readsStep 31 = .ok (.iload_n 1, 1) := by decide +kernel
theorem dX8_readsStep_32 : decode cX8_readsStep 32 = .ok (.bipush 42, 2) := by decide +kernel
theorem dX8_readsStep_34 : decode cX8_readsStep 34 = .ok (.if_icmp .eq 27, 3) := by decide +kernel
theorem dX8_readsStep_37 : decode cX8_readsStep 37 = .ok (.iload_n 1, 1) := by decide +kernel
theorem dX8_readsStep_38 : decode cX8_readsStep 38 = .ok (.bipush 61, 2) := by decide +kernel
theorem dX8_readsStep_40 : decode cX8_readsStep 40 = .ok (.if_icmp .eq 21, 3) := by decide +kernel
theorem dX8_readsStep_43 : decode cX8_readsStep 43 = .ok (.iload_n 1, 1) := by decide +kernel
theorem dX8_readsStep_44 : decode cX8_readsStep 44 = .ok (.bipush 60, 2) := by decide +kernel
theorem dX8_readsStep_46 : decode cX8_readsStep 46 = .ok (.if_icmp .eq 15, 3) := by decide +kernel
theorem dX8_readsStep_49 : decode cX8_readsStep 49 = .ok (.iload_n 1, 1) := by decide +kernel
theorem dX8_readsStep_50 : decode cX8_readsStep 50 = .ok (.bipush 111, 2) := by decide +kernel
theorem dX8_readsStep_52 : decode cX8_readsStep 52 = .ok (.if_icmp .eq 9, 3) := by decide +kernel
theorem dX8_readsStep_55 : decode cX8_readsStep 55 = .ok (.iload_n 1, 1) := by decide +kernel
theorem dX8_readsStep_56 : decode cX8_readsStep 56 = .ok (.bipush 104, 2) := by decide +kernel
theorem dX8_readsStep_58 : decode cX8_readsStep 58 = .ok (.if_icmp .ne 7, 3) := by decide +kernel
theorem dX8_readsStep_61 : decode cX8_readsStep 61 = .ok (.iconst 1, 1) := by decide +kernel
theorem dX8_readsStep_62 : decode cX8_readsStep 62 = .ok (.goto 4, 3) := by decide +kernel
theorem dX8_readsStep_65 : decode cX8_readsStep 65 = .ok (.iconst 0, 1) := by decide +kernel
theorem dX8_readsStep_66 : decode cX8_readsStep 66 = .ok (.istore_n 3, 1) := by decide +kernel
theorem dX8_readsStep_67 : decode cX8_readsStep 67 = .ok (.iload_n 1, 1) := by decide +kernel
theorem dX8_readsStep_68 : decode cX8_readsStep 68 = .ok (.bipush 108, 2) := by decide +kernel
theorem dX8_readsStep_70 : decode cX8_readsStep 70 = .ok (.if_icmp .eq 9, 3) := by decide +kernel
theorem dX8_readsStep_73 : decode cX8_readsStep 73 = .ok (.iload_n 1, 1) := by decide +kernel
theorem dX8_readsStep_74 : decode cX8_readsStep 74 = .ok (.bipush 115, 2) := by decide +kernel
theorem dX8_readsStep_76 : decode cX8_readsStep 76 = .ok (.if_icmp .ne 7, 3) := by decide +kernel
theorem dX8_readsStep_79 : decode cX8_readsStep 79 = .ok (.iconst 1, 1) := by decide +kernel
theorem dX8_readsStep_80 : decode cX8_readsStep 80 = .ok (.goto 4, 3) := by decide +kernel
theorem dX8_readsStep_83 : decode cX8_readsStep 83 = .ok (.iconst 0, 1) := by decide +kernel
theorem dX8_readsStep_84 : decode cX8_readsStep 84 = .ok (.istore 4, 2) := by decide +kernel
theorem dX8_readsStep_86 : decode cX8_readsStep 86 = .ok (.iload_n 1, 1) := by decide +kernel
theorem dX8_readsStep_87 : decode cX8_readsStep 87 = .ok (.bipush 106, 2) := by decide +kernel
theorem dX8_readsStep_89 : decode cX8_readsStep 89 = .ok (.if_icmp .eq 9, 3) := by decide +kernel
theorem dX8_readsStep_92 : decode cX8_readsStep 92 = .ok (.iload_n 1, 1) := by decide +kernel
theorem dX8_readsStep_93 : decode cX8_readsStep 93 = .ok (.bipush 103, 2) := by decide +kernel
theorem dX8_readsStep_95 : decode cX8_readsStep 95 = .ok (.if_icmp .ne 7, 3) := by decide +kernel
theorem dX8_readsStep_98 : decode cX8_readsStep 98 = .ok (.iconst 1, 1) := by decide +kernel
theorem dX8_readsStep_99 : decode cX8_readsStep 99 = .ok (.goto 4, 3) := by decide +kernel
theorem dX8_readsStep_102 : decode cX8_readsStep 102 = .ok (.iconst 0, 1) := by decide +kernel
theorem dX8_readsStep_103 : decode cX8_readsStep 103 = .ok (.istore 5, 2) := by decide +kernel
theorem dX8_readsStep_105 : decode cX8_readsStep 105 = .ok (.iload_n 3, 1) := by decide +kernel
theorem dX8_readsStep_106 : decode cX8_readsStep 106 = .ok (.ifCond .ne 21, 3) := by decide +kernel
theorem dX8_readsStep_109 : decode cX8_readsStep 109 = .ok (.iload 4, 2) := by decide +kernel
theorem dX8_readsStep_111 : decode cX8_readsStep 111 = .ok (.ifCond .ne 16, 3) := by decide +kernel
theorem dX8_readsStep_114 : decode cX8_readsStep 114 = .ok (.iload 5, 2) := by decide +kernel
theorem dX8_readsStep_116 : decode cX8_readsStep 116 = .ok (.ifCond .ne 11, 3) := by decide +kernel
theorem dX8_readsStep_119 : decode cX8_readsStep 119 = .ok (.iload_n 1, 1) := by decide +kernel
theorem dX8_readsStep_120 : decode cX8_readsStep 120 = .ok (.bipush 112, 2) := by decide +kernel
theorem dX8_readsStep_122 : decode cX8_readsStep 122 = .ok (.if_icmp .eq 5, 3) := by decide +kernel
theorem dX8_readsStep_125 : decode cX8_readsStep 125 = .ok (.iconst 0, 1) := by decide +kernel
theorem dX8_readsStep_126 : decode cX8_readsStep 126 = .ok (.ireturn, 1) := by decide +kernel
theorem dX8_readsStep_127 : decode cX8_readsStep 127 = .ok (.aload_n 0, 1) := by decide +kernel
theorem dX8_readsStep_128 : decode cX8_readsStep 128 = .ok (.dup, 1) := by decide +kernel
theorem dX8_readsStep_129 : decode cX8_readsStep 129 = .ok (.getfield 128, 3) := by decide +kernel
theorem dX8_readsStep_132 : decode cX8_readsStep 132 = .ok (.iconst 1, 1) := by decide +kernel
theorem dX8_readsStep_133 : decode cX8_readsStep 133 = .ok (.iadd, 1) := by decide +kernel
theorem dX8_readsStep_134 : decode cX8_readsStep 134 = .ok (.putfield 128, 3) := by decide +kernel
theorem dX8_readsStep_137 : decode cX8_readsStep 137 = .ok (.iload 4, 2) := by decide +kernel
theorem dX8_readsStep_139 : decode cX8_readsStep 139 = .ok (.ifCond .eq 27, 3) := by decide +kernel
theorem dX8_readsStep_142 : decode cX8_readsStep 142 = .ok (.aload_n 0, 1) := by decide +kernel
theorem dX8_readsStep_143 : decode cX8_readsStep 143 = .ok (.invokevirtual 135, 3) := by decide +kernel
theorem dX8_readsStep_146 : decode cX8_readsStep 146 = .ok (.ifCond .eq 12, 3) := by decide +kernel
theorem dX8_readsStep_149 : decode cX8_readsStep 149 = .ok (.aload_n 0, 1) := by decide +kernel
theorem dX8_readsStep_150 : decode cX8_readsStep 150 = .ok (.invokevirtual 131, 3) := by decide +kernel
theorem dX8_readsStep_153 : decode cX8_readsStep 153 = .ok (.bipush 55, 2) := by decide +kernel
theorem dX8_readsStep_155 : decode cX8_readsStep 155 = .ok (.if_icmp .le 5, 3) := by decide +kernel
theorem dX8_readsStep_158 : decode cX8_readsStep 158 = .ok (.iconst 0, 1) := by decide +kernel
theorem dX8_readsStep_159 : decode cX8_readsStep 159 = .ok (.ireturn, 1) := by decide +kernel
theorem dX8_readsStep_160 : decode cX8_readsStep 160 = .ok (.aload_n 0, 1) := by decide +kernel
theorem dX8_readsStep_161 : decode cX8_readsStep 161 = .ok (.iconst 1, 1) := by decide +kernel
theorem dX8_readsStep_162 : decode cX8_readsStep 162 = .ok (.invokevirtual 139, 3) := by decide +kernel
theorem dX8_readsStep_165 : decode cX8_readsStep 165 = .ok (.istore_n 2, 1) := by decide +kernel
theorem dX8_readsStep_166 : decode cX8_readsStep 166 = .ok (.iload 5, 2) := by decide +kernel
theorem dX8_readsStep_168 : decode cX8_readsStep 168 = .ok (.ifCond .ne 9, 3) := by decide +kernel
theorem dX8_readsStep_171 : decode cX8_readsStep 171 = .ok (.iload_n 1, 1) := by decide +kernel
theorem dX8_readsStep_172 : decode cX8_readsStep 172 = .ok (.bipush 112, 2) := by decide +kernel
theorem dX8_readsStep_174 : decode cX8_readsStep 174 = .ok (.if_icmp .ne 24, 3) := by decide +kernel
theorem dX8_readsStep_177 : decode cX8_readsStep 177 = .ok (.aload_n 0, 1) := by decide +kernel
theorem dX8_readsStep_178 : decode cX8_readsStep 178 = .ok (.iload 5, 2) := by decide +kernel
theorem dX8_readsStep_180 : decode cX8_readsStep 180 = .ok (.ifCond .eq 7, 3) := by decide +kernel
theorem dX8_readsStep_183 : decode cX8_readsStep 183 = .ok (.iconst 2, 1) := by decide +kernel
theorem dX8_readsStep_184 : decode cX8_readsStep 184 = .ok (.goto 4, 3) := by decide +kernel
theorem dX8_readsStep_187 : decode cX8_readsStep 187 = .ok (.iconst 4, 1) := by decide +kernel
theorem dX8_readsStep_188 : decode cX8_readsStep 188 = .ok (.invokevirtual 139, 3) := by decide +kernel
theorem dX8_readsStep_191 : decode cX8_readsStep 191 = .ok (.istore_n 2, 1) := by decide +kernel
theorem dX8_readsStep_192 : decode cX8_readsStep 192 = .ok (.iload_n 2, 1) := by decide +kernel
theorem dX8_readsStep_193 : decode cX8_readsStep 193 = .ok (.ifCond .ge 5, 3) := by decide +kernel
theorem dX8_readsStep_196 : decode cX8_readsStep 196 = .ok (.iconst 0, 1) := by decide +kernel
theorem dX8_readsStep_197 : decode cX8_readsStep 197 = .ok (.ireturn, 1) := by decide +kernel
theorem dX8_readsStep_198 : decode cX8_readsStep 198 = .ok (.aload_n 0, 1) := by decide +kernel
theorem dX8_readsStep_199 : decode cX8_readsStep 199 = .ok (.getfield 26, 3) := by decide +kernel
theorem dX8_readsStep_202 : decode cX8_readsStep 202 = .ok (.aload_n 0, 1) := by decide +kernel
theorem dX8_readsStep_203 : decode cX8_readsStep 203 = .ok (.getfield 143, 3) := by decide +kernel
theorem dX8_readsStep_206 : decode cX8_readsStep 206 = .ok (.iload_n 1, 1) := by decide +kernel
theorem dX8_readsStep_207 : decode cX8_readsStep 207 = .ok (.iastore, 1) := by decide +kernel
theorem dX8_readsStep_208 : decode cX8_readsStep 208 = .ok (.aload_n 0, 1) := by decide +kernel
theorem dX8_readsStep_209 : decode cX8_readsStep 209 = .ok (.getfield 29, 3) := by decide +kernel
theorem dX8_readsStep_212 : decode cX8_readsStep 212 = .ok (.aload_n 0, 1) := by decide +kernel
theorem dX8_readsStep_213 : decode cX8_readsStep 213 = .ok (.getfield 143, 3) := by decide +kernel
theorem dX8_readsStep_216 : decode cX8_readsStep 216 = .ok (.iload_n 2, 1) := by decide +kernel
theorem dX8_readsStep_217 : decode cX8_readsStep 217 = .ok (.iastore, 1) := by decide +kernel
theorem dX8_readsStep_218 : decode cX8_readsStep 218 = .ok (.aload_n 0, 1) := by decide +kernel
theorem dX8_readsStep_219 : decode cX8_readsStep 219 = .ok (.dup, 1) := by decide +kernel
end
section
theorem dX8_readsStep_220 : decode cX8_readsStep 220 = .ok (.getfield 143, 3) := by decide +kernel
theorem dX8_readsStep_223 : decode cX8_readsStep 223 = .ok (.iconst 1, 1) := by decide +kernel
theorem dX8_readsStep_224 : decode cX8_readsStep 224 = .ok (.iadd, 1) := by decide +kernel
theorem dX8_readsStep_225 : decode cX8_readsStep 225 = .ok (.putfield 143, 3) := by decide +kernel
theorem dX8_readsStep_228 : decode cX8_readsStep 228 = .ok (.iconst 1, 1) := by decide +kernel
theorem dX8_readsStep_229 : decode cX8_readsStep 229 = .ok (.ireturn, 1) := by decide +kernel
set_option maxRecDepth 20000 in
theorem ggX8_fault_X8_readsStep : GoodIn wsX8_fault wsX8_readsStep := goodIn_r _ [9, 1, 3, 2, 4, 10, 11, 12, 8, 13, 14, 15, 16, 17, 18, 19, 20, 21, 22, 23, 24, 25, 26, 27, 28, 29, 30, 31, 32, 33, 34, 35, 36, 37, 38, 39, 40, 41, 42, 43, 44, 45, 46, 47, 48, 49, 50, 51, 52, 53, 54, 55, 56, 57, 58, 59, 60, 61, 62, 63, 64, 65, 66] (by decide +kernel) (by decide +kernel)
set_option maxRecDepth 20000 in
theorem gX8_fault_X8_readsStep : GoodIn wsX8_fault (wsV RX8 146 RX8 yX8_readsStep wsX8_readsStep) := goodIn_app (goodIn_of _ (by decide +kernel)) ggX8_fault_X8_readsStep
set_option maxRecDepth 20000 in
theorem ggX8_fault_X8_sign : GoodIn wsX8_fault wsX8_sign := goodIn_r _ [13, 1, 14, 15, 24, 25, 26, 27, 28, 29, 30, 31, 32, 33, 34, 35, 36, 37, 38, 39, 40, 41, 42, 43, 44, 45, 46, 47, 48, 49, 50, 51, 52, 53, 54, 55, 56, 57, 58, 59, 60, 61, 62, 63, 64, 65, 66] (by decide +kernel) (by decide +kernel)
set_option maxRecDepth 20000 in
theorem gX8_fault_X8_sign : GoodIn wsX8_fault (wsV RX8 131 RX8 yX8_sign wsX8_sign) := goodIn_app (goodIn_of _ (by decide +kernel)) ggX8_fault_X8_sign
theorem dX8_fault_0 : decode cX8_fault 0 = .ok (.aload_n 0, 1) := by decide +kernel
theorem dX8_fault_1 : decode cX8_fault 1 = .ok (.iconst 0, 1) := by decide +kernel
theorem dX8_fault_2 : decode cX8_fault 2 = .ok (.putfield 128, 3) := by decide +kernel
theorem dX8_fault_5 : decode cX8_fault 5 = .ok (.aload_n 0, 1) := by decide +kernel
theorem dX8_fault_6 : decode cX8_fault 6 = .ok (.iconst 0, 1) := by decide +kernel
theorem dX8_fault_7 : decode cX8_fault 7 = .ok (.putfield 143, 3) := by decide +kernel
theorem dX8_fault_10 : decode cX8_fault 10 = .ok (.aload_n 0, 1) := by decide +kernel
theorem dX8_fault_11 : decode cX8_fault 11 = .ok (.invokevirtual 146, 3) := by decide +kernel
theorem dX8_fault_14 : decode cX8_fault 14 = .ok (.ifCond .ne 8, 3) := by decide +kernel
theorem dX8_fault_17 : decode cX8_fault 17 = .ok (.aload_n 0, 1) := by decide +kernel
theorem dX8_fault_18 : decode cX8_fault 18 = .ok (.getfield 128, 3) := by decide +kernel
theorem dX8_fault_21 : decode cX8_fault 21 = .ok (.ireturn, 1) := by decide +kernel
theorem dX8_fault_22 : decode cX8_fault 22 = .ok (.aload_n 0, 1) := by decide +kernel
theorem dX8_fault_23 : decode cX8_fault 23 = .ok (.invokevirtual 131, 3) := by decide +kernel
theorem dX8_fault_26 : decode cX8_fault 26 = .ok (.iconst (-1), 1) := by decide +kernel
theorem dX8_fault_27 : decode cX8_fault 27 = .ok (.if_icmp .ne 6, 3) := by decide +kernel
theorem dX8_fault_30 : decode cX8_fault 30 = .ok (.goto 39, 3) := by decide +kernel
theorem dX8_fault_33 : decode cX8_fault 33 = .ok (.aload_n 0, 1) := by decide +kernel
theorem dX8_fault_34 : decode cX8_fault 34 = .ok (.invokevirtual 131, 3) := by decide +kernel
theorem dX8_fault_37 : decode cX8_fault 37 = .ok (.bipush 59, 2) := by decide +kernel
theorem dX8_fault_39 : decode cX8_fault 39 = .ok (.if_icmp .ne 12, 3) := by decide +kernel
theorem dX8_fault_42 : decode cX8_fault 42 = .ok (.aload_n 0, 1) := by decide +kernel
theorem dX8_fault_43 : decode cX8_fault 43 = .ok (.getfield 143, 3) := by decide +kernel
theorem dX8_fault_46 : decode cX8_fault 46 = .ok (.bipush 24, 2) := by decide +kernel
theorem dX8_fault_48 : decode cX8_fault 48 = .ok (.if_icmp .ne 8, 3) := by decide +kernel
theorem dX8_fault_51 : decode cX8_fault 51 = .ok (.aload_n 0, 1) := by decide +kernel
theorem dX8_fault_52 : decode cX8_fault 52 = .ok (.getfield 128, 3) := by decide +kernel
theorem dX8_fault_55 : decode cX8_fault 55 = .ok (.ireturn, 1) := by decide +kernel
theorem dX8_fault_56 : decode cX8_fault 56 = .ok (.aload_n 0, 1) := by decide +kernel
theorem dX8_fault_57 : decode cX8_fault 57 = .ok (.dup, 1) := by decide +kernel
theorem dX8_fault_58 : decode cX8_fault 58 = .ok (.getfield 128, 3) := by decide +kernel
theorem dX8_fault_61 : decode cX8_fault 61 = .ok (.iconst 1, 1) := by decide +kernel
theorem dX8_fault_62 : decode cX8_fault 62 = .ok (.iadd, 1) := by decide +kernel
theorem dX8_fault_63 : decode cX8_fault 63 = .ok (.putfield 128, 3) := by decide +kernel
theorem dX8_fault_66 : decode cX8_fault 66 = .ok (.goto (-56), 3) := by decide +kernel
theorem dX8_fault_69 : decode cX8_fault 69 = .ok (.iconst 0, 1) := by decide +kernel
theorem dX8_fault_70 : decode cX8_fault 70 = .ok (.istore_n 1, 1) := by decide +kernel
theorem dX8_fault_71 : decode cX8_fault 71 = .ok (.iload_n 1, 1) := by decide +kernel
theorem dX8_fault_72 : decode cX8_fault 72 = .ok (.aload_n 0, 1) := by decide +kernel
theorem dX8_fault_73 : decode cX8_fault 73 = .ok (.getfield 143, 3) := by decide +kernel
theorem dX8_fault_76 : decode cX8_fault 76 = .ok (.if_icmp .ge 50, 3) := by decide +kernel
theorem dX8_fault_79 : decode cX8_fault 79 = .ok (.aload_n 0, 1) := by decide +kernel
theorem dX8_fault_80 : decode cX8_fault 80 = .ok (.getfield 26, 3) := by decide +kernel
theorem dX8_fault_83 : decode cX8_fault 83 = .ok (.iload_n 1, 1) := by decide +kernel
theorem dX8_fault_84 : decode cX8_fault 84 = .ok (.iaload, 1) := by decide +kernel
theorem dX8_fault_85 : decode cX8_fault 85 = .ok (.bipush 106, 2) := by decide +kernel
theorem dX8_fault_87 : decode cX8_fault 87 = .ok (.if_icmp .eq 14, 3) := by decide +kernel
theorem dX8_fault_90 : decode cX8_fault 90 = .ok (.aload_n 0, 1) := by decide +kernel
theorem dX8_fault_91 : decode cX8_fault 91 = .ok (.getfield 26, 3) := by decide +kernel
theorem dX8_fault_94 : decode cX8_fault 94 = .ok (.iload_n 1, 1) := by decide +kernel
theorem dX8_fault_95 : decode cX8_fault 95 = .ok (.iaload, 1) := by decide +kernel
theorem dX8_fault_96 : decode cX8_fault 96 = .ok (.bipush 103, 2) := by decide +kernel
theorem dX8_fault_98 : decode cX8_fault 98 = .ok (.if_icmp .ne 22, 3) := by decide +kernel
theorem dX8_fault_101 : decode cX8_fault 101 = .ok (.aload_n 0, 1) := by decide +kernel
theorem dX8_fault_102 : decode cX8_fault 102 = .ok (.getfield 29, 3) := by decide +kernel
theorem dX8_fault_105 : decode cX8_fault 105 = .ok (.iload_n 1, 1) := by decide +kernel
theorem dX8_fault_106 : decode cX8_fault 106 = .ok (.iaload, 1) := by decide +kernel
theorem dX8_fault_107 : decode cX8_fault 107 = .ok (.aload_n 0, 1) := by decide +kernel
theorem dX8_fault_108 : decode cX8_fault 108 = .ok (.getfield 143, 3) := by decide +kernel
theorem dX8_fault_111 : decode cX8_fault 111 = .ok (.if_icmp .lt 9, 3) := by decide +kernel
theorem dX8_fault_114 : decode cX8_fault 114 = .ok (.sipush 200, 3) := by decide +kernel
theorem dX8_fault_117 : decode cX8_fault 117 = .ok (.iload_n 1, 1) := by decide +kernel
theorem dX8_fault_118 : decode cX8_fault 118 = .ok (.iadd, 1) := by decide +kernel
theorem dX8_fault_119 : decode cX8_fault 119 = .ok (.ireturn, 1) := by decide +kernel
theorem dX8_fault_120 : decode cX8_fault 120 = .ok (.iinc 1 1, 3) := by decide +kernel
theorem dX8_fault_123 : decode cX8_fault 123 = .ok (.goto (-52), 3) := by decide +kernel
theorem dX8_fault_126 : decode cX8_fault 126 = .ok (.iconst (-1), 1) := by decide +kernel
theorem dX8_fault_127 : decode cX8_fault 127 = .ok (.ireturn, 1) := by decide +kernel
set_option maxRecDepth 20000 in
theorem ggX8_patch_X8_isPlace : GoodIn wsX8_patch wsX8_isPlace := goodIn_r _ [13, 14, 15, 16, 17, 12, 18, 19, 20, 21, 22, 45, 46, 47, 48, 49, 50, 51, 52, 53, 54, 55, 56, 57, 58, 59, 60, 61, 62, 63, 64, 65, 66, 67, 68, 69, 70, 71, 72, 73, 74, 75, 76, 77, 78, 79, 80, 81, 82, 83, 84, 85, 86, 87] (by decide +kernel) (by decide +kernel)
set_option maxRecDepth 20000 in
theorem gX8_patch_X8_isPlace : GoodIn wsX8_patch (wsV RX8 149 RX8 yX8_isPlace wsX8_isPlace) := goodIn_app (goodIn_of _ (by decide +kernel)) ggX8_patch_X8_isPlace
set_option maxRecDepth 20000 in
theorem ggX8_patch_X8_fault : GoodIn wsX8_patch wsX8_fault := goodIn_r _ [26, 27, 2, 4, 6, 28, 29, 30, 12, 31, 32, 33, 34, 35, 1, 36, 37, 38, 39, 40, 41, 42, 43, 44, 45, 46, 47, 48, 49, 50, 51, 52, 53, 54, 55, 56, 57, 58, 59, 60, 61, 62, 63, 64, 65, 66, 67, 68, 69, 70, 71, 72, 73, 74, 75, 76, 77, 78, 79, 80, 81, 82, 83, 84, 85, 86, 87] (by decide +kernel) (by decide +kernel)
set_option maxRecDepth 20000 in
theorem gX8_patch_X8_fault : GoodIn wsX8_patch (wsV RX8 153 RX8 yX8_fault wsX8_fault) := goodIn_app (goodIn_of _ (by decide +kernel)) ggX8_patch_X8_fault
theorem dX8_patch_0 : decode cX8_patch 0 = .ok (.aload_n 0, 1) := by decide +kernel
theorem dX8_patch_1 : decode cX8_patch 1 = .ok (.iload_n 1, 1) := by decide +kernel
theorem dX8_patch_2 : decode cX8_patch 2 = .ok (.iload_n 2, 1) := by decide +kernel
theorem dX8_patch_3 : decode cX8_patch 3 = .ok (.invokevirtual 149, 3) := by decide +kernel
theorem dX8_patch_6 : decode cX8_patch 6 = .ok (.ifCond .ne 5, 3) := by decide +kernel
theorem dX8_patch_9 : decode cX8_patch 9 = .ok (.iconst (-1), 1) := by decide +kernel
theorem dX8_patch_10 : decode cX8_patch 10 = .ok (.ireturn, 1) := by decide +kernel
theorem dX8_patch_11 : decode cX8_patch 11 = .ok (.iconst 3, 1) := by decide +kernel
theorem dX8_patch_12 : decode cX8_patch 12 = .ok (.iload_n 1, 1) := by decide +kernel
theorem dX8_patch_13 : decode cX8_patch 13 = .ok (.imul, 1) := by decide +kernel
theorem dX8_patch_14 : decode cX8_patch 14 = .ok (.iload_n 2, 1) := by decide +kernel
theorem dX8_patch_15 : decode cX8_patch 15 = .ok (.iadd, 1) := by decide +kernel
theorem dX8_patch_16 : decode cX8_patch 16 = .ok (.istore_n 3, 1) := by decide +kernel
theorem dX8_patch_17 : decode cX8_patch 17 = .ok (.aload_n 0, 1) := by decide +kernel
theorem dX8_patch_18 : decode cX8_patch 18 = .ok (.invokevirtual 153, 3) := by decide +kernel
theorem dX8_patch_21 : decode cX8_patch 21 = .ok (.istore 4, 2) := by decide +kernel
theorem dX8_patch_23 : decode cX8_patch 23 = .ok (.aload_n 0, 1) := by decide +kernel
theorem dX8_patch_24 : decode cX8_patch 24 = .ok (.iconst 0, 1) := by decide +kernel
theorem dX8_patch_25 : decode cX8_patch 25 = .ok (.putfield 123, 3) := by decide +kernel
theorem dX8_patch_28 : decode cX8_patch 28 = .ok (.iload 4, 2) := by decide +kernel
theorem dX8_patch_30 : decode cX8_patch 30 = .ok (.ifCond .lt 9, 3) := by decide +kernel
theorem dX8_patch_33 : decode cX8_patch 33 = .ok (.bipush (-10), 2) := by decide +kernel
theorem dX8_patch_35 : decode cX8_patch 35 = .ok (.iload 4, 2) := by decide +kernel
theorem dX8_patch_37 : decode cX8_patch 37 = .ok (.isub, 1) := by decide +kernel
theorem dX8_patch_38 : decode cX8_patch 38 = .ok (.ireturn, 1) := by decide +kernel
theorem dX8_patch_39 : decode cX8_patch 39 = .ok (.iconst 0, 1) := by decide +kernel
theorem dX8_patch_40 : decode cX8_patch 40 = .ok (.istore 5, 2) := by decide +kernel
theorem dX8_patch_42 : decode cX8_patch 42 = .ok (.iload 5, 2) := by decide +kernel
theorem dX8_patch_44 : decode cX8_patch 44 = .ok (.aload_n 0, 1) := by decide +kernel
theorem dX8_patch_45 : decode cX8_patch 45 = .ok (.getfield 143, 3) := by decide +kernel
theorem dX8_patch_48 : decode cX8_patch 48 = .ok (.if_icmp .ge 53, 3) := by decide +kernel
theorem dX8_patch_51 : decode cX8_patch 51 = .ok (.aload_n 0, 1) := by decide +kernel
theorem dX8_patch_52 : decode cX8_patch 52 = .ok (.getfield 13, 3) := by decide +kernel
theorem dX8_patch_55 : decode cX8_patch 55 = .ok (.bipush 24, 2) := by decide +kernel
theorem dX8_patch_57 : decode cX8_patch 57 = .ok (.iload_n 3, 1) := by decide +kernel
theorem dX8_patch_58 : decode cX8_patch 58 = .ok (.bipush 15, 2) := by decide +kernel
theorem dX8_patch_60 : decode cX8_patch 60 = .ok (.iadd, 1) := by decide +kernel
theorem dX8_patch_61 : decode cX8_patch 61 = .ok (.imul, 1) := by decide +kernel
theorem dX8_patch_62 : decode cX8_patch 62 = .ok (.iload 5, 2) := by decide +kernel
theorem dX8_patch_64 : decode cX8_patch 64 = .ok (.iadd, 1) := by decide +kernel
theorem dX8_patch_65 : decode cX8_patch 65 = .ok (.aload_n 0, 1) := by decide +kernel
theorem dX8_patch_66 : decode cX8_patch 66 = .ok (.getfield 26, 3) := by decide +kernel
theorem dX8_patch_69 : decode cX8_patch 69 = .ok (.iload 5, 2) := by decide +kernel
theorem dX8_patch_71 : decode cX8_patch 71 = .ok (.iaload, 1) := by decide +kernel
theorem dX8_patch_72 : decode cX8_patch 72 = .ok (.iastore, 1) := by decide +kernel
theorem dX8_patch_73 : decode cX8_patch 73 = .ok (.aload_n 0, 1) := by decide +kernel
theorem dX8_patch_74 : decode cX8_patch 74 = .ok (.getfield 16, 3) := by decide +kernel
theorem dX8_patch_77 : decode cX8_patch 77 = .ok (.bipush 24, 2) := by decide +kernel
theorem dX8_patch_79 : decode cX8_patch 79 = .ok (.iload_n 3, 1) := by decide +kernel
theorem dX8_patch_80 : decode cX8_patch 80 = .ok (.bipush 15, 2) := by decide +kernel
theorem dX8_patch_82 : decode cX8_patch 82 = .ok (.iadd, 1) := by decide +kernel
theorem dX8_patch_83 : decode cX8_patch 83 = .ok (.imul, 1) := by decide +kernel
theorem dX8_patch_84 : decode cX8_patch 84 = .ok (.iload 5, 2) := by decide +kernel
theorem dX8_patch_86 : decode cX8_patch 86 = .ok (.iadd, 1) := by decide +kernel
theorem dX8_patch_87 : decode cX8_patch 87 = .ok (.aload_n 0, 1) := by decide +kernel
theorem dX8_patch_88 : decode cX8_patch 88 = .ok (.getfield 29, 3) := by decide +kernel
theorem dX8_patch_91 : decode cX8_patch 91 = .ok (.iload 5, 2) := by decide +kernel
theorem dX8_patch_93 : decode cX8_patch 93 = .ok (.iaload, 1) := by decide +kernel
theorem dX8_patch_94 : decode cX8_patch 94 = .ok (.iastore, 1) := by decide +kernel
theorem dX8_patch_95 : decode cX8_patch 95 = .ok (.iinc 5 1, 3) := by decide +kernel
theorem dX8_patch_98 : decode cX8_patch 98 = .ok (.goto (-56), 3) := by decide +kernel
theorem dX8_patch_101 : decode cX8_patch 101 = .ok (.aload_n 0, 1) := by decide +kernel
theorem dX8_patch_102 : decode cX8_patch 102 = .ok (.getfield 19, 3) := by decide +kernel
theorem dX8_patch_105 : decode cX8_patch 105 = .ok (.iload_n 3, 1) := by decide +kernel
theorem dX8_patch_106 : decode cX8_patch 106 = .ok (.bipush 15, 2) := by decide +kernel
theorem dX8_patch_108 : decode cX8_patch 108 = .ok (.iadd, 1) := by decide +kernel
theorem dX8_patch_109 : decode cX8_patch 109 = .ok (.aload_n 0, 1) := by decide +kernel
theorem dX8_patch_110 : decode cX8_patch 110 = .ok (.getfield 143, 3) := by decide +kernel
theorem dX8_patch_113 : decode cX8_patch 113 = .ok (.iastore, 1) := by decide +kernel
theorem dX8_patch_114 : decode cX8_patch 114 = .ok (.aload_n 0, 1) := by decide +kernel
theorem dX8_patch_115 : decode cX8_patch 115 = .ok (.getfield 22, 3) := by decide +kernel
theorem dX8_patch_118 : decode cX8_patch 118 = .ok (.iload_n 3, 1) := by decide +kernel
theorem dX8_patch_119 : decode cX8_patch 119 = .ok (.iconst 1, 1) := by decide +kernel
theorem dX8_patch_120 : decode cX8_patch 120 = .ok (.bastore, 1) := by decide +kernel
theorem dX8_patch_121 : decode cX8_patch 121 = .ok (.aload_n 0, 1) := by decide +kernel
theorem dX8_patch_122 : decode cX8_patch 122 = .ok (.getfield 143, 3) := by decide +kernel
theorem dX8_patch_125 : decode cX8_patch 125 = .ok (.ireturn, 1) := by decide +kernel
set_option maxRecDepth 20000 in
theorem ggX8_unpatch_X8_isPlace : GoodIn wsX8_unpatch wsX8_isPlace := goodIn_r _ [7, 8, 9, 10, 11, 6, 12, 13, 14, 15, 16, 17, 18, 19, 20, 21, 22, 23, 24, 25, 26, 27, 28, 29, 30, 31, 32, 33, 34, 35, 36, 37, 38, 39, 40, 41, 42, 43, 44, 45, 46, 47, 48, 49, 50, 51, 52, 53, 54, 55, 56, 57, 58, 59] (by decide +kernel) (by decide +kernel)
set_option maxRecDepth 20000 in
theorem gX8_unpatch_X8_isPlace : GoodIn wsX8_unpatch (wsV RX8 149 RX8 yX8_isPlace wsX8_isPlace) := goodIn_app (goodIn_of _ (by decide +kernel)) ggX8_unpatch_X8_isPlace
theorem dX8_unpatch_0 : decode cX8_unpatch 0 = .ok (.aload_n 0, 1) := by decide +kernel
theorem dX8_unpatch_1 : decode cX8_unpatch 1 = .ok (.iload_n 1, 1) := by decide +kernel
theorem dX8_unpatch_2 : decode cX8_unpatch 2 = .ok (.iload_n 2, 1) := by decide +kernel
theorem dX8_unpatch_3 : decode cX8_unpatch 3 = .ok (.invokevirtual 149, 3) := by decide +kernel
theorem dX8_unpatch_6 : decode cX8_unpatch 6 = .ok (.ifCond .ne 5, 3) := by decide +kernel
theorem dX8_unpatch_9 : decode cX8_unpatch 9 = .ok (.iconst (-1), 1) := by decide +kernel
theorem dX8_unpatch_10 : decode cX8_unpatch 10 = .ok (.ireturn, 1) := by decide +kernel
theorem dX8_unpatch_11 : decode cX8_unpatch 11 = .ok (.iconst 3, 1) := by decide +kernel
theorem dX8_unpatch_12 : decode cX8_unpatch 12 = .ok (.iload_n 1, 1) := by decide +kernel
theorem dX8_unpatch_13 : decode cX8_unpatch 13 = .ok (.imul, 1) := by decide +kernel
theorem dX8_unpatch_14 : decode cX8_unpatch 14 = .ok (.iload_n 2, 1) := by decide +kernel
theorem dX8_unpatch_15 : decode cX8_unpatch 15 = .ok (.iadd, 1) := by decide +kernel
theorem dX8_unpatch_16 : decode cX8_unpatch 16 = .ok (.istore_n 3, 1) := by decide +kernel
theorem dX8_unpatch_17 : decode cX8_unpatch 17 = .ok (.aload_n 0, 1) := by decide +kernel
theorem dX8_unpatch_18 : decode cX8_unpatch 18 = .ok (.getfield 22, 3) := by decide +kernel
theorem dX8_unpatch_21 : decode cX8_unpatch 21 = .ok (.iload_n 3, 1) := by decide +kernel
theorem dX8_unpatch_22 : decode cX8_unpatch 22 = .ok (.baload, 1) := by decide +kernel
theorem dX8_unpatch_23 : decode cX8_unpatch 23 = .ok (.ifCond .ne 6, 3) := by decide +kernel
theorem dX8_unpatch_26 : decode cX8_unpatch 26 = .ok (.bipush (-3), 2) := by decide +kernel
theorem dX8_unpatch_28 : decode cX8_unpatch 28 = .ok (.ireturn, 1) := by decide +kernel
theorem dX8_unpatch_29 : decode cX8_unpatch 29 = .ok (.aload_n 0, 1) := by decide +kernel
theorem dX8_unpatch_30 : decode cX8_unpatch 30 = .ok (.getfield 22, 3) := by decide +kernel
theorem dX8_unpatch_33 : decode cX8_unpatch 33 = .ok (.iload_n 3, 1) := by decide +kernel
theorem dX8_unpatch_34 : decode cX8_unpatch 34 = .ok (.iconst 0, 1) := by decide +kernel
theorem dX8_unpatch_35 : decode cX8_unpatch 35 = .ok (.bastore, 1) := by decide +kernel
theorem dX8_unpatch_36 : decode cX8_unpatch 36 = .ok (.aload_n 0, 1) := by decide +kernel
theorem dX8_unpatch_37 : decode cX8_unpatch 37 = .ok (.getfield 19, 3) := by decide +kernel
theorem dX8_unpatch_40 : decode cX8_unpatch 40 = .ok (.iload_n 3, 1) := by decide +kernel
theorem dX8_unpatch_41 : decode cX8_unpatch 41 = .ok (.bipush 15, 2) := by decide +kernel
theorem dX8_unpatch_43 : decode cX8_unpatch 43 = .ok (.iadd, 1) := by decide +kernel
theorem dX8_unpatch_44 : decode cX8_unpatch 44 = .ok (.iaload, 1) := by decide +kernel
theorem dX8_unpatch_45 : decode cX8_unpatch 45 = .ok (.ireturn, 1) := by decide +kernel
set_option maxRecDepth 20000 in
theorem ggX8_cell_X8_isPlace : GoodIn wsX8_cell wsX8_isPlace := goodIn_r _ [7, 8, 9, 10, 11, 6, 12, 13, 14, 15, 16, 17, 18, 19, 20, 21, 22, 23, 24, 25, 26, 27, 28, 29, 30, 31, 32, 33, 34, 35, 36, 37, 38, 39, 40, 41, 42, 43, 44, 45, 46, 47, 48, 49, 50, 51, 52, 53, 54, 55, 56, 57, 58, 59] (by decide +kernel) (by decide +kernel)
set_option maxRecDepth 20000 in
theorem gX8_cell_X8_isPlace : GoodIn wsX8_cell (wsV RX8 149 RX8 yX8_isPlace wsX8_isPlace) := goodIn_app (goodIn_of _ (by decide +kernel)) ggX8_cell_X8_isPlace
set_option maxRecDepth 20000 in
theorem ggX8_cell_X8_isIn : GoodIn wsX8_cell wsX8_isIn := goodIn_r _ [16] (by decide +kernel) (by decide +kernel)
set_option maxRecDepth 20000 in
theorem gX8_cell_X8_isIn : GoodIn wsX8_cell (va_wsS RX8 114 yX8_isIn wsX8_isIn) := goodIn_app (goodIn_of _ (by decide +kernel)) ggX8_cell_X8_isIn
theorem dX8_cell_0 : decode cX8_cell 0 = .ok (.aload_n 0, 1) := by decide +kernel
theorem dX8_cell_1 : decode cX8_cell 1 = .ok (.iload_n 1, 1) := by decide +kernel
theorem dX8_cell_2 : decode cX8_cell 2 = .ok (.iload_n 2, 1) := by decide +kernel
theorem dX8_cell_3 : decode cX8_cell 3 = .ok (.invokevirtual 149, 3) := by decide +kernel
theorem dX8_cell_6 : decode cX8_cell 6 = .ok (.ifCond .eq 33, 3) := by decide +kernel
theorem dX8_cell_9 : decode cX8_cell 9 = .ok (.iload_n 3, 1) := by decide +kernel
theorem dX8_cell_10 : decode cX8_cell 10 = .ok (.i2l, 1) := by decide +kernel
theorem dX8_cell_11 : decode cX8_cell 11 = .ok (.lconst 0, 1) := by decide +kernel
theorem dX8_cell_12 : decode cX8_cell 12 = .ok (.ldc2_w 156, 3) := by decide +kernel
theorem dX8_cell_15 : decode cX8_cell 15 = .ok (.invokestatic 114, 3) := by decide +kernel
theorem dX8_cell_18 : decode cX8_cell 18 = .ok (.ifCond .eq 21, 3) := by decide +kernel
theorem dX8_cell_21 : decode cX8_cell 21 = .ok (.aload_n 0, 1) := by decide +kernel
theorem dX8_cell_22 : decode cX8_cell 22 = .ok (.getfield 32, 3) := by decide +kernel
theorem dX8_cell_25 : decode cX8_cell 25 = .ok (.bipush 8, 2) := by decide +kernel
theorem dX8_cell_27 : decode cX8_cell 27 = .ok (.iconst 3, 1) := by decide +kernel
theorem dX8_cell_28 : decode cX8_cell 28 = .ok (.iload_n 1, 1) := by decide +kernel
theorem dX8_cell_29 : decode cX8_cell 29 = .ok (.imul, 1) := by decide +kernel
theorem dX8_cell_30 : decode cX8_cell 30 = .ok (.iload_n 2, 1) := by decide +kernel
theorem dX8_cell_31 : decode cX8_cell 31 = .ok (.iadd, 1) := by decide +kernel
theorem dX8_cell_32 : decode cX8_cell 32 = .ok (.imul, 1) := by decide +kernel
theorem dX8_cell_33 : decode cX8_cell 33 = .ok (.iload_n 3, 1) := by decide +kernel
theorem dX8_cell_34 : decode cX8_cell 34 = .ok (.iadd, 1) := by decide +kernel
theorem dX8_cell_35 : decode cX8_cell 35 = .ok (.iaload, 1) := by decide +kernel
theorem dX8_cell_36 : decode cX8_cell 36 = .ok (.goto 4, 3) := by decide +kernel
theorem dX8_cell_39 : decode cX8_cell 39 = .ok (.iconst (-1), 1) := by decide +kernel
theorem dX8_cell_40 : decode cX8_cell 40 = .ok (.ireturn, 1) := by decide +kernel
set_option maxRecDepth 20000 in
theorem ggX8_about_X8_isPlace : GoodIn wsX8_about wsX8_isPlace := goodIn_r _ [10, 11, 12, 13, 14, 9, 15, 16, 17, 18, 19, 20, 21, 22, 23, 24, 25, 26, 27, 28, 29, 30, 31, 32, 33, 34, 35, 36, 37, 38, 39, 40, 41, 42, 43, 44, 45, 46, 47, 48, 49, 50, 51, 52, 53, 54, 55, 56, 57, 58, 59, 60, 61, 62] (by decide +kernel) (by decide +kernel)
set_option maxRecDepth 20000 in
theorem gX8_about_X8_isPlace : GoodIn wsX8_about (wsV RX8 149 RX8 yX8_isPlace wsX8_isPlace) := goodIn_app (goodIn_of _ (by decide +kernel)) ggX8_about_X8_isPlace
theorem dX8_about_0 : decode cX8_about 0 = .ok (.aload_n 0, 1) := by decide +kernel
theorem dX8_about_1 : decode cX8_about 1 = .ok (.iload_n 1, 1) := by decide +kernel
theorem dX8_about_2 : decode cX8_about 2 = .ok (.iload_n 2, 1) := by decide +kernel
theorem dX8_about_3 : decode cX8_about 3 = .ok (.invokevirtual 149, 3) := by decide +kernel
theorem dX8_about_6 : decode cX8_about 6 = .ok (.ifCond .ne 5, 3) := by decide +kernel
theorem dX8_about_9 : decode cX8_about 9 = .ok (.iconst (-1), 1) := by decide +kernel
theorem dX8_about_10 : decode cX8_about 10 = .ok (.ireturn, 1) := by decide +kernel
theorem dX8_about_11 : decode cX8_about 11 = .ok (.iconst 3, 1) := by decide +kernel
theorem dX8_about_12 : decode cX8_about 12 = .ok (.iload_n 1, 1) := by decide +kernel
theorem dX8_about_13 : decode cX8_about 13 = .ok (.imul, 1) := by decide +kernel
theorem dX8_about_14 : decode cX8_about 14 = .ok (.iload_n 2, 1) := by decide +kernel
theorem dX8_about_15 : decode cX8_about 15 = .ok (.iadd, 1) := by decide +kernel
theorem dX8_about_16 : decode cX8_about 16 = .ok (.istore 4, 2) := by decide +kernel
theorem dX8_about_18 : decode cX8_about 18 = .ok (.iload_n 3, 1) := by decide +kernel
theorem dX8_about_19 : decode cX8_about 19 = .ok (.tableswitch 81 0 4 #[33, 41, 57, 65, 73], 33) := by decide +kernel
theorem dX8_about_52 : decode cX8_about 52 = .ok (.aload_n 0, 1) := by decide +kernel
theorem dX8_about_53 : decode cX8_about 53 = .ok (.getfield 19, 3) := by decide +kernel
theorem dX8_about_56 : decode cX8_about 56 = .ok (.iload 4, 2) := by decide +kernel
theorem dX8_about_58 : decode cX8_about 58 = .ok (.iaload, 1) := by decide +kernel
theorem dX8_about_59 : decode cX8_about 59 = .ok (.ireturn, 1) := by decide +kernel
theorem dX8_about_60 : decode cX8_about 60 = .ok (.aload_n 0, 1) := by decide +kernel
theorem dX8_about_61 : decode cX8_about 61 = .ok (.getfield 22, 3) := by decide +kernel
theorem dX8_about_64 : decode cX8_about 64 = .ok (.iload 4, 2) := by decide +kernel
theorem dX8_about_66 : decode cX8_about 66 = .ok (.baload, 1) := by decide +kernel
theorem dX8_about_67 : decode cX8_about 67 = .ok (.ifCond .eq 7, 3) := by decide +kernel
theorem dX8_about_70 : decode cX8_about 70 = .ok (.iconst 1, 1) := by decide +kernel
theorem dX8_about_71 : decode cX8_about 71 = .ok (.goto 4, 3) := by decide +kernel
theorem dX8_about_74 : decode cX8_about 74 = .ok (.iconst 0, 1) := by decide +kernel
theorem dX8_about_75 : decode cX8_about 75 = .ok (.ireturn, 1) := by decide +kernel
theorem dX8_about_76 : decode cX8_about 76 = .ok (.aload_n 0, 1) := by decide +kernel
theorem dX8_about_77 : decode cX8_about 77 = .ok (.getfield 44, 3) := by decide +kernel
theorem dX8_about_80 : decode cX8_about 80 = .ok (.iload 4, 2) := by decide +kernel
theorem dX8_about_82 : decode cX8_about 82 = .ok (.iaload, 1) := by decide +kernel
theorem dX8_about_83 : decode cX8_about 83 = .ok (.ireturn, 1) := by decide +kernel
theorem dX8_about_84 : decode cX8_about 84 = .ok (.aload_n 0, 1) := by decide +kernel
theorem dX8_about_85 : decode cX8_about 85 = .ok (.getfield 38, 3) := by decide +kernel
theorem dX8_about_88 : decode cX8_about 88 = .ok (.iload 4, 2) := by decide +kernel
theorem dX8_about_90 : decode cX8_about 90 = .ok (.iaload, 1) := by decide +kernel
theorem dX8_about_91 : decode cX8_about 91 = .ok (.ireturn, 1) := by decide +kernel
theorem dX8_about_92 : decode cX8_about 92 = .ok (.aload_n 0, 1) := by decide +kernel
theorem dX8_about_93 : decode cX8_about 93 = .ok (.getfield 41, 3) := by decide +kernel
theorem dX8_about_96 : decode cX8_about 96 = .ok (.iload 4, 2) := by decide +kernel
theorem dX8_about_98 : decode cX8_about 98 = .ok (.iaload, 1) := by decide +kernel
theorem dX8_about_99 : decode cX8_about 99 = .ok (.ireturn, 1) := by decide +kernel
theorem dX8_about_100 : decode cX8_about 100 = .ok (.iconst (-1), 1) := by decide +kernel
theorem dX8_about_101 : decode cX8_about 101 = .ok (.ireturn, 1) := by decide +kernel
set_option maxRecDepth 20000 in
theorem ggX8_isSet_X8_isIn : GoodIn wsX8_isSet wsX8_isIn := goodIn_r _ [9] (by decide +kernel) (by decide +kernel)
set_option maxRecDepth 20000 in
theorem gX8_isSet_X8_isIn : GoodIn wsX8_isSet (va_wsS RX8 114 yX8_isIn wsX8_isIn) := goodIn_app (goodIn_of _ (by decide +kernel)) ggX8_isSet_X8_isIn
theorem dX8_isSet_0 : decode cX8_isSet 0 = .ok (.iload_n 0, 1) := by decide +kernel
theorem dX8_isSet_1 : decode cX8_isSet 1 = .ok (.tableswitch 71 0 3 #[31, 41, 51, 61], 31) := by decide +kernel
theorem dX8_isSet_32 : decode cX8_isSet 32 = .ok (.iload_n 1, 1) := by decide +kernel
theorem dX8_isSet_33 : decode cX8_isSet 33 = .ok (.i2l, 1) := by decide +kernel
theorem dX8_isSet_34 : decode cX8_isSet 34 = .ok (.lconst 1, 1) := by decide +kernel
theorem dX8_isSet_35 : decode cX8_isSet 35 = .ok (.ldc2_w 158, 3) := by decide +kernel
theorem dX8_isSet_38 : decode cX8_isSet 38 = .ok (.invokestatic 114, 3) := by decide +kernel
theorem dX8_isSet_41 : decode cX8_isSet 41 = .ok (.ireturn, 1) := by decide +kernel
theorem dX8_isSet_42 : decode cX8_isSet 42 = .ok (.iload_n 1, 1) := by decide +kernel
theorem dX8_isSet_43 : decode cX8_isSet 43 = .ok (.i2l, 1) := by decide +kernel
theorem dX8_isSet_44 : decode cX8_isSet 44 = .ok (.lconst 0, 1) := by decide +kernel
theorem dX8_isSet_45 : decode cX8_isSet 45 = .ok (.ldc2_w 160, 3) := by decide +kernel
theorem dX8_isSet_48 : decode cX8_isSet 48 = .ok (.invokestatic 114, 3) := by decide +kernel
theorem dX8_isSet_51 : decode cX8_isSet 51 = .ok (.ireturn, 1) := by decide +kernel
theorem dX8_isSet_52 : decode cX8_isSet 52 = .ok (.iload_n 1, 1) := by decide +kernel
theorem dX8_isSet_53 : decode cX8_isSet 53 = .ok (.i2l, 1) := by decide +kernel
theorem dX8_isSet_54 : decode cX8_isSet 54 = .ok (.lconst 1, 1) := by decide +kernel
theorem dX8_isSet_55 : decode cX8_isSet 55 = .ok (.ldc2_w 162, 3) := by decide +kernel
theorem dX8_isSet_58 : decode cX8_isSet 58 = .ok (.invokestatic 114, 3) := by decide +kernel
theorem dX8_isSet_61 : decode cX8_isSet 61 = .ok (.ireturn, 1) := by decide +kernel
theorem dX8_isSet_62 : decode cX8_isSet 62 = .ok (.iload_n 1, 1) := by decide +kernel
theorem dX8_isSet_63 : decode cX8_isSet 63 = .ok (.i2l, 1) := by decide +kernel
theorem dX8_isSet_64 : decode cX8_isSet 64 = .ok (.lconst 0, 1) := by decide +kernel
theorem dX8_isSet_65 : decode cX8_isSet 65 = .ok (.ldc2_w 164, 3) := by decide +kernel
theorem dX8_isSet_68 : decode cX8_isSet 68 = .ok (.invokestatic 114, 3) := by decide +kernel
theorem dX8_isSet_71 : decode cX8_isSet 71 = .ok (.ireturn, 1) := by decide +kernel
theorem dX8_isSet_72 : decode cX8_isSet 72 = .ok (.iload_n 1, 1) := by decide +kernel
theorem dX8_isSet_73 : decode cX8_isSet 73 = .ok (.i2l, 1) := by decide +kernel
theorem dX8_isSet_74 : decode cX8_isSet 74 = .ok (.lconst 0, 1) := by decide +kernel
theorem dX8_isSet_75 : decode cX8_isSet 75 = .ok (.ldc2_w 166, 3) := by decide +kernel
theorem dX8_isSet_78 : decode cX8_isSet 78 = .ok (.invokestatic 114, 3) := by decide +kernel
theorem dX8_isSet_81 : decode cX8_isSet 81 = .ok (.ireturn, 1) := by decide +kernel
set_option maxRecDepth 20000 in
theorem ggX8_set_X8_isIn : GoodIn wsX8_set wsX8_isIn := goodIn_r _ [7] (by decide +kernel) (by decide +kernel)
set_option maxRecDepth 20000 in
theorem gX8_set_X8_isIn : GoodIn wsX8_set (va_wsS RX8 114 yX8_isIn wsX8_isIn) := goodIn_app (goodIn_of _ (by decide +kernel)) ggX8_set_X8_isIn
set_option maxRecDepth 20000 in
theorem ggX8_set_X8_isSet : GoodIn wsX8_set wsX8_isSet := goodIn_r _ [10, 11, 12, 13, 14, 15, 4, 5, 6, 7] (by decide +kernel) (by decide +kernel)
set_option maxRecDepth 20000 in
theorem gX8_set_X8_isSet : GoodIn wsX8_set (va_wsS RX8 170 yX8_isSet wsX8_isSet) := goodIn_app (goodIn_of _ (by decide +kernel)) ggX8_set_X8_isSet
theorem dX8_set_0 : decode cX8_set 0 = .ok (.iload_n 1, 1) := by decide +kernel
theorem dX8_set_1 : decode cX8_set 1 = .ok (.i2l, 1) := by decide +kernel
theorem dX8_set_2 : decode cX8_set 2 = .ok (.lconst 0, 1) := by decide +kernel
theorem dX8_set_3 : decode cX8_set 3 = .ok (.ldc2_w 168, 3) := by decide +kernel
theorem dX8_set_6 : decode cX8_set 6 = .ok (.invokestatic 114, 3) := by decide +kernel
theorem dX8_set_9 : decode cX8_set 9 = .ok (.ifCond .ne 5, 3) := by decide +kernel
theorem dX8_set_12 : decode cX8_set 12 = .ok (.iconst (-1), 1) := by decide +kernel
theorem dX8_set_13 : decode cX8_set 13 = .ok (.ireturn, 1) := by decide +kernel
theorem dX8_set_14 : decode cX8_set 14 = .ok (.iload_n 1, 1) := by decide +kernel
theorem dX8_set_15 : decode cX8_set 15 = .ok (.iload_n 2, 1) := by decide +kernel
theorem dX8_set_16 : decode cX8_set 16 = .ok (.invokestatic 170, 3) := by decide +kernel
theorem dX8_set_19 : decode cX8_set 19 = .ok (.ifCond .ne 6, 3) := by decide +kernel
theorem dX8_set_22 : decode cX8_set 22 = .ok (.bipush (-2), 2) := by decide +kernel
theorem dX8_set_24 : decode cX8_set 24 = .ok (.ireturn, 1) := by decide +kernel
theorem dX8_set_25 : decode cX8_set 25 = .ok (.iload_n 1, 1) := by decide +kernel
theorem dX8_set_26 : decode cX8_set 26 = .ok (.iconst 1, 1) := by decide +kernel
theorem dX8_set_27 : decode cX8_set 27 = .ok (.if_icmp .eq 8, 3) := by decide +kernel
theorem dX8_set_30 : decode cX8_set 30 = .ok (.iload_n 1, 1) := by decide +kernel
theorem dX8_set_31 : decode cX8_set 31 = .ok (.iconst 2, 1) := by decide +kernel
theorem dX8_set_32 : decode cX8_set 32 = .ok (.if_icmp .ne 13, 3) := by decide +kernel
theorem dX8_set_35 : decode cX8_set 35 = .ok (.aload_n 0, 1) := by decide +kernel
theorem dX8_set_36 : decode cX8_set 36 = .ok (.getfield 118, 3) := by decide +kernel
theorem dX8_set_39 : decode cX8_set 39 = .ok (.ifCond .le 6, 3) := by decide +kernel
theorem dX8_set_42 : decode cX8_set 42 = .ok (.bipush (-3), 2) := by decide +kernel
theorem dX8_set_44 : decode cX8_set 44 = .ok (.ireturn, 1) := by decide +kernel
theorem dX8_set_45 : decode cX8_set 45 = .ok (.aload_n 0, 1) := by decide +kernel
theorem dX8_set_46 : decode cX8_set 46 = .ok (.getfield 47, 3) := by decide +kernel
theorem dX8_set_49 : decode cX8_set 49 = .ok (.iload_n 1, 1) := by decide +kernel
theorem dX8_set_50 : decode cX8_set 50 = .ok (.iaload, 1) := by decide +kernel
theorem dX8_set_51 : decode cX8_set 51 = .ok (.istore_n 3, 1) := by decide +kernel
theorem dX8_set_52 : decode cX8_set 52 = .ok (.aload_n 0, 1) := by decide +kernel
theorem dX8_set_53 : decode cX8_set 53 = .ok (.getfield 47, 3) := by decide +kernel
theorem dX8_set_56 : decode cX8_set 56 = .ok (.iload_n 1, 1) := by decide +kernel
theorem dX8_set_57 : decode cX8_set 57 = .ok (.iload_n 2, 1) := by decide +kernel
theorem dX8_set_58 : decode cX8_set 58 = .ok (.iastore, 1) := by decide +kernel
theorem dX8_set_59 : decode cX8_set 59 = .ok (.iload_n 3, 1) := by decide +kernel
theorem dX8_set_60 : decode cX8_set 60 = .ok (.ireturn, 1) := by decide +kernel
theorem dX8_pushes_0 : decode cX8_pushes 0 = .ok (.aload_n 0, 1) := by decide +kernel
theorem dX8_pushes_1 : decode cX8_pushes 1 = .ok (.getfield 50, 3) := by decide +kernel
theorem dX8_pushes_4 : decode cX8_pushes 4 = .ok (.aload_n 0, 1) := by decide +kernel
theorem dX8_pushes_5 : decode cX8_pushes 5 = .ok (.getfield 173, 3) := by decide +kernel
theorem dX8_pushes_8 : decode cX8_pushes 8 = .ok (.iload_n 1, 1) := by decide +kernel
theorem dX8_pushes_9 : decode cX8_pushes 9 = .ok (.iastore, 1) := by decide +kernel
theorem dX8_pushes_10 : decode cX8_pushes 10 = .ok (.aload_n 0, 1) := by decide +kernel
theorem dX8_pushes_11 : decode cX8_pushes 11 = .ok (.dup, 1) := by decide +kernel
theorem dX8_pushes_12 : decode cX8_pushes 12 = .ok (.getfield 173, 3) := by decide +kernel
theorem dX8_pushes_15 : decode cX8_pushes 15 = .ok (.iconst 1, 1) := by decide +kernel
theorem dX8_pushes_16 : decode cX8_pushes 16 = .ok (.iadd, 1) := by decide +kernel
theorem dX8_pushes_17 : decode cX8_pushes 17 = .ok (.putfield 173, 3) := by decide +kernel
theorem dX8_pushes_20 : decode cX8_pushes 20 = .ok (.return_, 1) := by decide +kernel
theorem dX8_of_0 : decode cX8_of 0 = .ok (.iload_n 2, 1) := by decide +kernel
theorem dX8_of_1 : decode cX8_of 1 = .ok (.lookupswitch 85 #[(42, 63), (43, 43), (45, 51), (61, 74)], 43) := by decide +kernel
theorem dX8_of_44 : decode cX8_of 44 = .ok (.iload_n 0, 1) := by decide +kernel
theorem dX8_of_45 : decode cX8_of 45 = .ok (.iload_n 1, 1) := by decide +kernel
theorem dX8_of_46 : decode cX8_of 46 = .ok (.iadd, 1) := by decide +kernel
theorem dX8_of_47 : decode cX8_of 47 = .ok (.sipush 10000, 3) := by decide +kernel
theorem dX8_of_50 : decode cX8_of 50 = .ok (.irem, 1) := by decide +kernel
theorem dX8_of_51 : decode cX8_of 51 = .ok (.ireturn, 1) := by decide +kernel
theorem dX8_of_52 : decode cX8_of 52 = .ok (.iload_n 0, 1) := by decide +kernel
theorem dX8_of_53 : decode cX8_of 53 = .ok (.iload_n 1, 1) := by decide +kernel
theorem dX8_of_54 : decode cX8_of 54 = .ok (.isub, 1) := by decide +kernel
theorem dX8_of_55 : decode cX8_of 55 = .ok (.sipush 10000, 3) := by decide +kernel
theorem dX8_of_58 : decode cX8_of 58 = .ok (.iadd, 1) := by decide +kernel
theorem dX8_of_59 : decode cX8_of 59 = .ok (.sipush 10000, 3) := by decide +kernel
theorem dX8_of_62 : decode cX8_of 62 = .ok (.irem, 1) := by decide +kernel
theorem dX8_of_63 : decode cX8_of 63 = .ok (.ireturn, 1) := by decide +kernel
theorem dX8_of_64 : decode cX8_of 64 = .ok (.iload_n 0, 1) := by decide +kernel
theorem dX8_of_65 : decode cX8_of 65 = .ok (.i2l, 1) := by decide +kernel
theorem dX8_of_66 : decode cX8_of 66 = .ok (.iload_n 1, 1) := by decide +kernel
theorem dX8_of_67 : decode cX8_of 67 = .ok (.i2l, 1) := by decide +kernel
theorem dX8_of_68 : decode cX8_of 68 = .ok (.lmul, 1) := by decide +kernel
theorem dX8_of_69 : decode cX8_of 69 = .ok (.ldc2_w 176, 3) := by decide +kernel
theorem dX8_of_72 : decode cX8_of 72 = .ok (.lrem, 1) := by decide +kernel
theorem dX8_of_73 : decode cX8_of 73 = .ok (.l2i, 1) := by decide +kernel
theorem dX8_of_74 : decode cX8_of 74 = .ok (.ireturn, 1) := by decide +kernel
theorem dX8_of_75 : decode cX8_of 75 = .ok (.iload_n 0, 1) := by decide +kernel
theorem dX8_of_76 : decode cX8_of 76 = .ok (.iload_n 1, 1) := by decide +kernel
theorem dX8_of_77 : decode cX8_of 77 = .ok (.if_icmp .ne 7, 3) := by decide +kernel
theorem dX8_of_80 : decode cX8_of 80 = .ok (.iconst 1, 1) := by decide +kernel
theorem dX8_of_81 : decode cX8_of 81 = .ok (.goto 4, 3) := by decide +kernel
theorem dX8_of_84 : decode cX8_of 84 = .ok (.iconst 0, 1) := by decide +kernel
theorem dX8_of_85 : decode cX8_of 85 = .ok (.ireturn, 1) := by decide +kernel
theorem dX8_of_86 : decode cX8_of 86 = .ok (.iload_n 0, 1) := by decide +kernel
theorem dX8_of_87 : decode cX8_of 87 = .ok (.iload_n 1, 1) := by decide +kernel
theorem dX8_of_88 : decode cX8_of 88 = .ok (.if_icmp .ge 7, 3) := by decide +kernel
theorem dX8_of_91 : decode cX8_of 91 = .ok (.iconst 1, 1) := by decide +kernel
theorem dX8_of_92 : decode cX8_of 92 = .ok (.goto 4, 3) := by decide +kernel
theorem dX8_of_95 : decode cX8_of 95 = .ok (.iconst 0, 1) := by decide +kernel
theorem dX8_of_96 : decode cX8_of 96 = .ok (.ireturn, 1) := by decide +kernel
theorem dX8_needs_0 : decode cX8_needs 0 = .ok (.iload_n 0, 1) := by decide +kernel
theorem dX8_needs_1 : decode cX8_needs 1 = .ok (.bipush 115, 2) := by decide +kernel
theorem dX8_needs_3 : decode cX8_needs 3 = .ok (.if_icmp .eq 15, 3) := by decide +kernel
theorem dX8_needs_6 : decode cX8_needs 6 = .ok (.iload_n 0, 1) := by decide +kernel
theorem dX8_needs_7 : decode cX8_needs 7 = .ok (.bipush 106, 2) := by decide +kernel
theorem dX8_needs_9 : decode cX8_needs 9 = .ok (.if_icmp .eq 9, 3) := by decide +kernel
theorem dX8_needs_12 : decode cX8_needs 12 = .ok (.iload_n 0, 1) := by decide +kernel
theorem dX8_needs_13 : decode cX8_needs 13 = .ok (.bipush 111, 2) := by decide +kernel
theorem dX8_needs_15 : decode cX8_needs 15 = .ok (.if_icmp .ne 7, 3) := by decide +kernel
theorem dX8_needs_18 : decode cX8_needs 18 = .ok (.iconst 1, 1) := by decide +kernel
theorem dX8_needs_19 : decode cX8_needs 19 = .ok (.goto 38, 3) := by decide +kernel
theorem dX8_needs_22 : decode cX8_needs 22 = .ok (.iload_n 0, 1) := by decide +kernel
theorem dX8_needs_23 : decode cX8_needs 23 = .ok (.bipush 43, 2) := by decide +kernel
theorem dX8_needs_25 : decode cX8_needs 25 = .ok (.if_icmp .eq 27, 3) := by decide +kernel
theorem dX8_needs_28 : decode cX8_needs 28 = .ok (.iload_n 0, 1) := by decide +kernel
theorem dX8_needs_29 : decode cX8_needs 29 = .ok (.bipush 45, 2) := by decide +kernel
theorem dX8_needs_31 : decode cX8_needs 31 = .ok (.if_icmp .eq 21, 3) := by decide +kernel
theorem dX8_needs_34 : decode cX8_needs 34 = .ok (.iload_n 0, 1) := by decide +kernel
theorem dX8_needs_35 : decode cX8_needs 35 = .ok (.bipush 42, 2) := by decide +kernel
theorem dX8_needs_37 : decode cX8_needs 37 = .ok (.if_icmp .eq 15, 3) := by decide +kernel
theorem dX8_needs_40 : decode cX8_needs 40 = .ok (.iload_n 0, 1) := by decide +kernel
theorem dX8_needs_41 : decode cX8_needs 41 = .ok (.bipush 61, 2) := by decide +kernel
theorem dX8_needs_43 : decode cX8_needs 43 = .ok (.if_icmp .eq 9, 3) := by decide +kernel
theorem dX8_needs_46 : decode cX8_needs 46 = .ok (.iload_n 0, 1) := by decide +kernel
theorem dX8_needs_47 : decode cX8_needs 47 = .ok (.bipush 60, 2) := by decide +kernel
theorem dX8_needs_49 : decode cX8_needs 49 = .ok (.if_icmp .ne 7, 3) := by decide +kernel
theorem dX8_needs_52 : decode cX8_needs 52 = .ok (.iconst 2, 1) := by decide +kernel
theorem dX8_needs_53 : decode cX8_needs 53 = .ok (.goto 4, 3) := by decide +kernel
theorem dX8_needs_56 : decode cX8_needs 56 = .ok (.iconst 0, 1) := by decide +kernel
theorem dX8_needs_57 : decode cX8_needs 57 = .ok (.ireturn, 1) := by decide +kernel
theorem dX8_isPush_0 : decode cX8_isPush 0 = .ok (.iload_n 0, 1) := by decide +kernel
theorem dX8_isPush_1 : decode cX8_isPush 1 = .ok (.bipush 112, 2) := by decide +kernel
theorem dX8_isPush_3 : decode cX8_isPush 3 = .ok (.if_icmp .eq 21, 3) := by decide +kernel
theorem dX8_isPush_6 : decode cX8_isPush 6 = .ok (.iload_n 0, 1) := by decide +kernel
theorem dX8_isPush_7 : decode cX8_isPush 7 = .ok (.bipush 97, 2) := by decide +kernel
theorem dX8_isPush_9 : decode cX8_isPush 9 = .ok (.if_icmp .eq 15, 3) := by decide +kernel
theorem dX8_isPush_12 : decode cX8_isPush 12 = .ok (.iload_n 0, 1) := by decide +kernel
theorem dX8_isPush_13 : decode cX8_isPush 13 = .ok (.bipush 98, 2) := by decide +kernel
theorem dX8_isPush_15 : decode cX8_isPush 15 = .ok (.if_icmp .eq 9, 3) := by decide +kernel
theorem dX8_isPush_18 : decode cX8_isPush 18 = .ok (.iload_n 0, 1) := by decide +kernel
theorem dX8_isPush_19 : decode cX8_isPush 19 = .ok (.bipush 108, 2) := by decide +kernel
theorem dX8_isPush_21 : decode cX8_isPush 21 = .ok (.if_icmp .ne 7, 3) := by decide +kernel
theorem dX8_isPush_24 : decode cX8_isPush 24 = .ok (.iconst 1, 1) := by decide +kernel
theorem dX8_isPush_25 : decode cX8_isPush 25 = .ok (.goto 4, 3) := by decide +kernel
theorem dX8_isPush_28 : decode cX8_isPush 28 = .ok (.iconst 0, 1) := by decide +kernel
theorem dX8_isPush_29 : decode cX8_isPush 29 = .ok (.ireturn, 1) := by decide +kernel
set_option maxRecDepth 20000 in
theorem ggX8_does_X8_isPush : GoodIn wsX8_does wsX8_isPush := goodIn_r _ [8] (by decide +kernel) (by decide +kernel)
set_option maxRecDepth 20000 in
theorem gX8_does_X8_isPush : GoodIn wsX8_does (va_wsS RX8 181 yX8_isPush wsX8_isPush) := goodIn_app (goodIn_of _ (by decide +kernel)) ggX8_does_X8_isPush
set_option maxRecDepth 20000 in
theorem ggX8_does_X8_pushes : GoodIn wsX8_does wsX8_pushes := goodIn_r _ [12, 4, 3, 20, 21, 22, 23, 24, 25, 26, 27, 28, 29, 30, 31, 32, 33, 34, 35, 36, 37, 38, 39, 40, 41, 42, 43, 44, 45, 46, 47, 48, 49, 50, 51, 52, 53, 54, 55, 56, 57, 58, 59, 60, 61, 62] (by decide +kernel) (by decide +kernel)
set_option maxRecDepth 20000 in
theorem gX8_does_X8_pushes : GoodIn wsX8_does (wsV RX8 184 RX8 yX8_pushes wsX8_pushes) := goodIn_app (goodIn_of _ (by decide +kernel)) ggX8_does_X8_pushes
set_option maxRecDepth 20000 in
theorem ggX8_does_X8_needs : GoodIn wsX8_does wsX8_needs := goodIn_r _ [15] (by decide +kernel) (by decide +kernel)
set_option maxRecDepth 20000 in
theorem gX8_does_X8_needs : GoodIn wsX8_does (va_wsS RX8 188 yX8_needs wsX8_needs) := goodIn_app (goodIn_of _ (by decide +kernel)) ggX8_does_X8_needs
set_option maxRecDepth 20000 in
theorem ggX8_does_X8_of : GoodIn wsX8_does wsX8_of := goodIn_r _ [18, 19] (by decide +kernel) (by decide +kernel)
set_option maxRecDepth 20000 in
theorem gX8_does_X8_of : GoodIn wsX8_does (va_wsS RX8 191 yX8_of wsX8_of) := goodIn_app (goodIn_of _ (by decide +kernel)) ggX8_does_X8_of
theorem dX8_does_0 : decode cX8_does 0 = .ok (.aload_n 0, 1) := by decide +kernel
theorem dX8_does_1 : decode cX8_does 1 = .ok (.dup, 1) := by decide +kernel
theorem dX8_does_2 : decode cX8_does 2 = .ok (.getfield 178, 3) := by decide +kernel
theorem dX8_does_5 : decode cX8_does 5 = .ok (.iconst 1, 1) := by decide +kernel
theorem dX8_does_6 : decode cX8_does 6 = .ok (.iadd, 1) := by decide +kernel
theorem dX8_does_7 : decode cX8_does 7 = .ok (.putfield 178, 3) := by decide +kernel
theorem dX8_does_10 : decode cX8_does 10 = .ok (.iload_n 2, 1) := by decide +kernel
theorem dX8_does_11 : decode cX8_does 11 = .ok (.invokestatic 181, 3) := by decide +kernel
theorem dX8_does_14 : decode cX8_does 14 = .ok (.ifCond .eq 50, 3) := by decide +kernel
theorem dX8_does_17 : decode cX8_does 17 = .ok (.aload_n 0, 1) := by decide +kernel
theorem dX8_does_18 : decode cX8_does 18 = .ok (.iload_n 2, 1) := by decide +kernel
theorem dX8_does_19 : decode cX8_does 19 = .ok (.bipush 112, 2) := by decide +kernel
theorem dX8_does_21 : decode cX8_does 21 = .ok (.if_icmp .ne 7, 3) := by decide +kernel
theorem dX8_does_24 : decode cX8_does 24 = .ok (.iload_n 3, 1) := by decide +kernel
theorem dX8_does_25 : decode cX8_does 25 = .ok (.goto 36, 3) := by decide +kernel
theorem dX8_does_28 : decode cX8_does 28 = .ok (.iload_n 2, 1) := by decide +kernel
theorem dX8_does_29 : decode cX8_does 29 = .ok (.bipush 97, 2) := by decide +kernel
theorem dX8_does_31 : decode cX8_does 31 = .ok (.if_icmp .ne 8, 3) := by decide +kernel
theorem dX8_does_34 : decode cX8_does 34 = .ok (.iload 4, 2) := by decide +kernel
theorem dX8_does_36 : decode cX8_does 36 = .ok (.goto 25, 3) := by decide +kernel
theorem dX8_does_39 : decode cX8_does 39 = .ok (.iload_n 2, 1) := by decide +kernel
theorem dX8_does_40 : decode cX8_does 40 = .ok (.bipush 98, 2) := by decide +kernel
theorem dX8_does_42 : decode cX8_does 42 = .ok (.if_icmp .ne 8, 3) := by decide +kernel
theorem dX8_does_45 : decode cX8_does 45 = .ok (.iload 5, 2) := by decide +kernel
theorem dX8_does_47 : decode cX8_does 47 = .ok (.goto 14, 3) := by decide +kernel
theorem dX8_does_50 : decode cX8_does 50 = .ok (.aload_n 0, 1) := by decide +kernel
theorem dX8_does_51 : decode cX8_does 51 = .ok (.getfield 32, 3) := by decide +kernel
theorem dX8_does_54 : decode cX8_does 54 = .ok (.bipush 8, 2) := by decide +kernel
theorem dX8_does_56 : decode cX8_does 56 = .ok (.iload_n 1, 1) := by decide +kernel
theorem dX8_does_57 : decode cX8_does 57 = .ok (.imul, 1) := by decide +kernel
theorem dX8_does_58 : decode cX8_does 58 = .ok (.iload_n 3, 1) := by decide +kernel
theorem dX8_does_59 : decode cX8_does 59 = .ok (.iadd, 1) := by decide +kernel
theorem dX8_does_60 : decode cX8_does 60 = .ok (.iaload, 1) := by decide +kernel
theorem dX8_does_61 : decode cX8_does 61 = .ok (.invokevirtual 184, 3) := by decide +kernel
theorem dX8_does_64 : decode cX8_does 64 = .ok (.iload_n 2, 1) := by decide +kernel
theorem dX8_does_65 : decode cX8_does 65 = .ok (.bipush 115, 2) := by decide +kernel
theorem dX8_does_67 : decode cX8_does 67 = .ok (.if_icmp .ne 33, 3) := by decide +kernel
theorem dX8_does_70 : decode cX8_does 70 = .ok (.aload_n 0, 1) := by decide +kernel
theorem dX8_does_71 : decode cX8_does 71 = .ok (.dup, 1) := by decide +kernel
theorem dX8_does_72 : decode cX8_does 72 = .ok (.getfield 173, 3) := by decide +kernel
theorem dX8_does_75 : decode cX8_does 75 = .ok (.iconst 1, 1) := by decide +kernel
theorem dX8_does_76 : decode cX8_does 76 = .ok (.isub, 1) := by decide +kernel
theorem dX8_does_77 : decode cX8_does 77 = .ok (.putfield 173, 3) := by decide +kernel
theorem dX8_does_80 : decode cX8_does 80 = .ok (.aload_n 0, 1) := by decide +kernel
theorem dX8_does_81 : decode cX8_does 81 = .ok (.getfield 32, 3) := by decide +kernel
theorem dX8_does_84 : decode cX8_does 84 = .ok (.bipush 8, 2) := by decide +kernel
theorem dX8_does_86 : decode cX8_does 86 = .ok (.iload_n 1, 1) := by decide +kernel
theorem dX8_does_87 : decode cX8_does 87 = .ok (.imul, 1) := by decide +kernel
theorem dX8_does_88 : decode cX8_does 88 = .ok (.iload_n 3, 1) := by decide +kernel
theorem dX8_does_89 : decode cX8_does 89 = .ok (.iadd, 1) := by decide +kernel
theorem dX8_does_90 : decode cX8_does 90 = .ok (.aload_n 0, 1) := by decide +kernel
theorem dX8_does_91 : decode cX8_does 91 = .ok (.getfield 50, 3) := by decide +kernel
theorem dX8_does_94 : decode cX8_does 94 = .ok (.aload_n 0, 1) := by decide +kernel
theorem dX8_does_95 : decode cX8_does 95 = .ok (.getfield 173, 3) := by decide +kernel
theorem dX8_does_98 : decode cX8_does 98 = .ok (.iaload, 1) := by decide +kernel
theorem dX8_does_99 : decode cX8_does 99 = .ok (.iastore, 1) := by decide +kernel
theorem dX8_does_100 : decode cX8_does 100 = .ok (.iload_n 2, 1) := by decide +kernel
theorem dX8_does_101 : decode cX8_does 101 = .ok (.invokestatic 188, 3) := by decide +kernel
theorem dX8_does_104 : decode cX8_does 104 = .ok (.iconst 2, 1) := by decide +kernel
theorem dX8_does_105 : decode cX8_does 105 = .ok (.if_icmp .ne 48, 3) := by decide +kernel
theorem dX8_does_108 : decode cX8_does 108 = .ok (.aload_n 0, 1) := by decide +kernel
theorem dX8_does_109 : decode cX8_does 109 = .ok (.dup, 1) := by decide +kernel
theorem dX8_does_110 : decode cX8_does 110 = .ok (.getfield 173, 3) := by decide +kernel
theorem dX8_does_113 : decode cX8_does 113 = .ok (.iconst 1, 1) := by decide +kernel
theorem dX8_does_114 : decode cX8_does 114 = .ok (.isub, 1) := by decide +kernel
theorem dX8_does_115 : decode cX8_does 115 = .ok (.putfield 173, 3) := by decide +kernel
theorem dX8_does_118 : decode cX8_does 118 = .ok (.aload_n 0, 1) := by decide +kernel
theorem dX8_does_119 : decode cX8_does 119 = .ok (.getfield 50, 3) := by decide +kernel
theorem dX8_does_122 : decode cX8_does 122 = .ok (.aload_n 0, 1) := by decide +kernel
theorem dX8_does_123 : decode cX8_does 123 = .ok (.getfield 173, 3) := by decide +kernel
theorem dX8_does_126 : decode cX8_does 126 = .ok (.iconst 1, 1) := by decide +kernel
theorem dX8_does_127 : decode cX8_does 127 = .ok (.isub, 1) := by decide +kernel
theorem dX8_does_128 : decode cX8_does 128 = .ok (.aload_n 0, 1) := by decide +kernel
theorem dX8_does_129 : decode cX8_does 129 = .ok (.getfield 50, 3) := by decide +kernel
theorem dX8_does_132 : decode cX8_does 132 = .ok (.aload_n 0, 1) := by decide +kernel
theorem dX8_does_133 : decode cX8_does 133 = .ok (.getfield 173, 3) := by decide +kernel
theorem dX8_does_136 : decode cX8_does 136 = .ok (.iconst 1, 1) := by decide +kernel
theorem dX8_does_137 : decode cX8_does 137 = .ok (.isub, 1) := by decide +kernel
theorem dX8_does_138 : decode cX8_does 138 = .ok (.iaload, 1) := by decide +kernel
theorem dX8_does_139 : decode cX8_does 139 = .ok (.aload_n 0, 1) := by decide +kernel
theorem dX8_does_140 : decode cX8_does 140 = .ok (.getfield 50, 3) := by decide +kernel
theorem dX8_does_143 : decode cX8_does 143 = .ok (.aload_n 0, 1) := by decide +kernel
theorem dX8_does_144 : decode cX8_does 144 = .ok (.getfield 173, 3) := by decide +kernel
theorem dX8_does_147 : decode cX8_does 147 = .ok (.iaload, 1) := by decide +kernel
theorem dX8_does_148 : decode cX8_does 148 = .ok (.iload_n 2, 1) := by decide +kernel
theorem dX8_does_149 : decode cX8_does 149 = .ok (.invokestatic 191, 3) := by decide +kernel
theorem dX8_does_152 : decode cX8_does 152 = .ok (.iastore, 1) := by decide +kernel
theorem dX8_does_153 : decode cX8_does 153 = .ok (.iload_n 2, 1) := by decide +kernel
theorem dX8_does_154 : decode cX8_does 154 = .ok (.bipush 106, 2) := by decide +kernel
theorem dX8_does_156 : decode cX8_does 156 = .ok (.if_icmp .ne 30, 3) := by decide +kernel
theorem dX8_does_159 : decode cX8_does 159 = .ok (.aload_n 0, 1) := by decide +kernel
theorem dX8_does_160 : decode cX8_does 160 = .ok (.dup, 1) := by decide +kernel
theorem dX8_does_161 : decode cX8_does 161 = .ok (.getfield 173, 3) := by decide +kernel
theorem dX8_does_164 : decode cX8_does 164 = .ok (.iconst 1, 1) := by decide +kernel
theorem dX8_does_165 : decode cX8_does 165 = .ok (.isub, 1) := by decide +kernel
theorem dX8_does_166 : decode cX8_does 166 = .ok (.putfield 173, 3) := by decide +kernel
theorem dX8_does_169 : decode cX8_does 169 = .ok (.aload_n 0, 1) := by decide +kernel
theorem dX8_does_170 : decode cX8_does 170 = .ok (.getfield 50, 3) := by decide +kernel
theorem dX8_does_173 : decode cX8_does 173 = .ok (.aload_n 0, 1) := by decide +kernel
theorem dX8_does_174 : decode cX8_does 174 = .ok (.getfield 173, 3) := by decide +kernel
theorem dX8_does_177 : decode cX8_does 177 = .ok (.iaload, 1) := by decide +kernel
theorem dX8_does_178 : decode cX8_does 178 = .ok (.ifCond .ne 8, 3) := by decide +kernel
theorem dX8_does_181 : decode cX8_does 181 = .ok (.aload_n 0, 1) := by decide +kernel
theorem dX8_does_182 : decode cX8_does 182 = .ok (.iload_n 3, 1) := by decide +kernel
theorem dX8_does_183 : decode cX8_does 183 = .ok (.putfield 178, 3) := by decide +kernel
theorem dX8_does_186 : decode cX8_does 186 = .ok (.iload_n 2, 1) := by decide +kernel
theorem dX8_does_187 : decode cX8_does 187 = .ok (.bipush 103, 2) := by decide +kernel
theorem dX8_does_189 : decode cX8_does 189 = .ok (.if_icmp .ne 8, 3) := by decide +kernel
theorem dX8_does_192 : decode cX8_does 192 = .ok (.aload_n 0, 1) := by decide +kernel
theorem dX8_does_193 : decode cX8_does 193 = .ok (.iload_n 3, 1) := by decide +kernel
theorem dX8_does_194 : decode cX8_does 194 = .ok (.putfield 178, 3) := by decide +kernel
theorem dX8_does_197 : decode cX8_does 197 = .ok (.return_, 1) := by decide +kernel
set_option maxRecDepth 20000 in
theorem ggX8_runs_X8_needs : GoodIn wsX8_runs wsX8_needs := goodIn_r _ [17] (by decide +kernel) (by decide +kernel)
set_option maxRecDepth 20000 in
theorem gX8_runs_X8_needs : GoodIn wsX8_runs (va_wsS RX8 188 yX8_needs wsX8_needs) := goodIn_app (goodIn_of _ (by decide +kernel)) ggX8_runs_X8_needs
set_option maxRecDepth 20000 in
theorem ggX8_runs_X8_isPush : GoodIn wsX8_runs wsX8_isPush := goodIn_r _ [20] (by decide +kernel) (by decide +kernel)
set_option maxRecDepth 20000 in
theorem gX8_runs_X8_isPush : GoodIn wsX8_runs (va_wsS RX8 181 yX8_isPush wsX8_isPush) := goodIn_app (goodIn_of _ (by decide +kernel)) ggX8_runs_X8_isPush
set_option maxRecDepth 20000 in
theorem ggX8_runs_X8_does : GoodIn wsX8_runs wsX8_does := goodIn_r _ [24, 2, 4, 1, 12, 18, 19, 16, 20, 25, 26, 27, 28, 14, 15, 17, 29, 30, 31, 32, 33, 34, 35, 36, 37, 38, 39, 40, 41, 42, 43, 44, 45, 46, 47, 48, 49, 50, 51, 52, 53, 54, 55, 56, 57, 58, 59, 60, 61, 62, 63, 64, 65, 66, 67, 68, 69, 70, 71, 72, 73, 74, 75] (by decide +kernel) (by decide +kernel)
set_option maxRecDepth 20000 in
theorem gX8_runs_X8_does : GoodIn wsX8_runs (wsV RX8 199 RX8 yX8_does wsX8_does) := goodIn_app (goodIn_of _ (by decide +kernel)) ggX8_runs_X8_does
theorem dX8_runs_0 : decode cX8_runs 0 = .ok (.aload_n 0, 1) := by decide +kernel
theorem dX8_runs_1 : decode cX8_runs 1 = .ok (.iconst 0, 1) := by decide +kernel
theorem dX8_runs_2 : decode cX8_runs 2 = .ok (.putfield 173, 3) := by decide +kernel
theorem dX8_runs_5 : decode cX8_runs 5 = .ok (.aload_n 0, 1) := by decide +kernel
theorem dX8_runs_6 : decode cX8_runs 6 = .ok (.iconst 0, 1) := by decide +kernel
theorem dX8_runs_7 : decode cX8_runs 7 = .ok (.putfield 178, 3) := by decide +kernel
theorem dX8_runs_10 : decode cX8_runs 10 = .ok (.iconst 0, 1) := by decide +kernel
theorem dX8_runs_11 : decode cX8_runs 11 = .ok (.istore 4, 2) := by decide +kernel
theorem dX8_runs_13 : decode cX8_runs 13 = .ok (.iload 4, 2) := by decide +kernel
theorem dX8_runs_15 : decode cX8_runs 15 = .ok (.bipush 8, 2) := by decide +kernel
theorem dX8_runs_17 : decode cX8_runs 17 = .ok (.if_icmp .ge 28, 3) := by decide +kernel
theorem dX8_runs_20 : decode cX8_runs 20 = .ok (.aload_n 0, 1) := by decide +kernel
theorem dX8_runs_21 : decode cX8_runs 21 = .ok (.getfield 35, 3) := by decide +kernel
theorem dX8_runs_24 : decode cX8_runs 24 = .ok (.iload 4, 2) := by decide +kernel
theorem dX8_runs_26 : decode cX8_runs 26 = .ok (.aload_n 0, 1) := by decide +kernel
theorem dX8_runs_27 : decode cX8_runs 27 = .ok (.getfield 32, 3) := by decide +kernel
theorem dX8_runs_30 : decode cX8_runs 30 = .ok (.bipush 8, 2) := by decide +kernel
theorem dX8_runs_32 : decode cX8_runs 32 = .ok (.iload_n 1, 1) := by decide +kernel
theorem dX8_runs_33 : decode cX8_runs 33 = .ok (.imul, 1) := by decide +kernel
theorem dX8_runs_34 : decode cX8_runs 34 = .ok (.iload 4, 2) := by decide +kernel
theorem dX8_runs_36 : decode cX8_runs 36 = .ok (.iadd, 1) := by decide +kernel
theorem dX8_runs_37 : decode cX8_runs 37 = .ok (.iaload, 1) := by decide +kernel
theorem dX8_runs_38 : decode cX8_runs 38 = .ok (.iastore, 1) := by decide +kernel
theorem dX8_runs_39 : decode cX8_runs 39 = .ok (.iinc 4 1, 3) := by decide +kernel
theorem dX8_runs_42 : decode cX8_runs 42 = .ok (.goto (-29), 3) := by decide +kernel
theorem dX8_runs_45 : decode cX8_runs 45 = .ok (.iconst 0, 1) := by decide +kernel
theorem dX8_runs_46 : decode cX8_runs 46 = .ok (.istore 4, 2) := by decide +kernel
theorem dX8_runs_48 : decode cX8_runs 48 = .ok (.aload_n 0, 1) := by decide +kernel
theorem dX8_runs_49 : decode cX8_runs 49 = .ok (.getfield 178, 3) := by decide +kernel
theorem dX8_runs_52 : decode cX8_runs 52 = .ok (.aload_n 0, 1) := by decide +kernel
theorem dX8_runs_53 : decode cX8_runs 53 = .ok (.getfield 19, 3) := by decide +kernel
theorem dX8_runs_56 : decode cX8_runs 56 = .ok (.iload_n 1, 1) := by decide +kernel
theorem dX8_runs_57 : decode cX8_runs 57 = .ok (.iaload, 1) := by decide +kernel
theorem dX8_runs_58 : decode cX8_runs 58 = .ok (.if_icmp .ge 194, 3) := by decide +kernel
theorem dX8_runs_61 : decode cX8_runs 61 = .ok (.iload 4, 2) := by decide +kernel
theorem dX8_runs_63 : decode cX8_runs 63 = .ok (.aload_n 0, 1) := by decide +kernel
theorem dX8_runs_64 : decode cX8_runs 64 = .ok (.getfield 47, 3) := by decide +kernel
theorem dX8_runs_67 : decode cX8_runs 67 = .ok (.iconst 0, 1) := by decide +kernel
theorem dX8_runs_68 : decode cX8_runs 68 = .ok (.iaload, 1) := by decide +kernel
theorem dX8_runs_69 : decode cX8_runs 69 = .ok (.if_icmp .ne 17, 3) := by decide +kernel
theorem dX8_runs_72 : decode cX8_runs 72 = .ok (.aload_n 0, 1) := by decide +kernel
theorem dX8_runs_73 : decode cX8_runs 73 = .ok (.getfield 41, 3) := by decide +kernel
theorem dX8_runs_76 : decode cX8_runs 76 = .ok (.iload_n 1, 1) := by decide +kernel
theorem dX8_runs_77 : decode cX8_runs 77 = .ok (.dup2, 1) := by decide +kernel
theorem dX8_runs_78 : decode cX8_runs 78 = .ok (.iaload, 1) := by decide +kernel
theorem dX8_runs_79 : decode cX8_runs 79 = .ok (.iconst 1, 1) := by decide +kernel
theorem dX8_runs_80 : decode cX8_runs 80 = .ok (.iadd, 1) := by decide +kernel
theorem dX8_runs_81 : decode cX8_runs 81 = .ok (.iastore, 1) := by decide +kernel
theorem dX8_runs_82 : decode cX8_runs 82 = .ok (.sipush 10001, 3) := by decide +kernel
theorem dX8_runs_85 : decode cX8_runs 85 = .ok (.ireturn, 1) := by decide +kernel
theorem dX8_runs_86 : decode cX8_runs 86 = .ok (.iinc 4 1, 3) := by decide +kernel
theorem dX8_runs_89 : decode cX8_runs 89 = .ok (.aload_n 0, 1) := by decide +kernel
theorem dX8_runs_90 : decode cX8_runs 90 = .ok (.aload_n 0, 1) := by decide +kernel
theorem dX8_runs_91 : decode cX8_runs 91 = .ok (.getfield 195, 3) := by decide +kernel
theorem dX8_runs_94 : decode cX8_runs 94 = .ok (.iconst 1, 1) := by decide +kernel
theorem dX8_runs_95 : decode cX8_runs 95 = .ok (.iadd, 1) := by decide +kernel
theorem dX8_runs_96 : decode cX8_runs 96 = .ok (.ldc 198, 2) := by decide +kernel
theorem dX8_runs_98 : decode cX8_runs 98 = .ok (.irem, 1) := by decide +kernel
theorem dX8_runs_99 : decode cX8_runs 99 = .ok (.putfield 195, 3) := by decide +kernel
theorem dX8_runs_102 : decode cX8_runs 102 = .ok (.aload_n 0, 1) := by decide +kernel
theorem dX8_runs_103 : decode cX8_runs 103 = .ok (.getfield 13, 3) := by decide +kernel
theorem dX8_runs_106 : decode cX8_runs 106 = .ok (.bipush 24, 2) := by decide +kernel
theorem dX8_runs_108 : decode cX8_runs 108 = .ok (.iload_n 1, 1) := by decide +kernel
theorem dX8_runs_109 : decode cX8_runs 109 = .ok (.imul, 1) := by decide +kernel
theorem dX8_runs_110 : decode cX8_runs 110 = .ok (.aload_n 0, 1) := by decide +kernel
theorem dX8_runs_111 : decode cX8_runs 111 = .ok (.getfield 178, 3) := by decide +kernel
theorem dX8_runs_114 : decode cX8_runs 114 = .ok (.iadd, 1) := by decide +kernel
theorem dX8_runs_115 : decode cX8_runs 115 = .ok (.iaload, 1) := by decide +kernel
theorem dX8_runs_116 : decode cX8_runs 116 = .ok (.istore 5, 2) := by decide +kernel
theorem dX8_runs_118 : decode cX8_runs 118 = .ok (.aload_n 0, 1) := by decide +kernel
theorem dX8_runs_119 : decode cX8_runs 119 = .ok (.getfield 173, 3) := by decide +kernel
theorem dX8_runs_122 : decode cX8_runs 122 = .ok (.iload 5, 2) := by decide +kernel
theorem dX8_runs_124 : decode cX8_runs 124 = .ok (.invokestatic 188, 3) := by decide +kernel
theorem dX8_runs_127 : decode cX8_runs 127 = .ok (.if_icmp .lt 20, 3) := by decide +kernel
theorem dX8_runs_130 : decode cX8_runs 130 = .ok (.iload 5, 2) := by decide +kernel
theorem dX8_runs_132 : decode cX8_runs 132 = .ok (.invokestatic 181, 3) := by decide +kernel
theorem dX8_runs_135 : decode cX8_runs 135 = .ok (.ifCond .eq 61, 3) := by decide +kernel
theorem dX8_runs_138 : decode cX8_runs 138 = .ok (.aload_n 0, 1) := by decide +kernel
theorem dX8_runs_139 : decode cX8_runs 139 = .ok (.getfield 173, 3) := by decide +kernel
theorem dX8_runs_142 : decode cX8_runs 142 = .ok (.bipush 8, 2) := by decide +kernel
theorem dX8_runs_144 : decode cX8_runs 144 = .ok (.if_icmp .ne 52, 3) := by decide +kernel
theorem dX8_runs_147 : decode cX8_runs 147 = .ok (.iconst 0, 1) := by decide +kernel
theorem dX8_runs_148 : decode cX8_runs 148 = .ok (.istore 6, 2) := by decide +kernel
theorem dX8_runs_150 : decode cX8_runs 150 = .ok (.iload 6, 2) := by decide +kernel
theorem dX8_runs_152 : decode cX8_runs 152 = .ok (.bipush 8, 2) := by decide +kernel
theorem dX8_runs_154 : decode cX8_runs 154 = .ok (.if_icmp .ge 28, 3) := by decide +kernel
theorem dX8_runs_157 : decode cX8_runs 157 = .ok (.aload_n 0, 1) := by decide +kernel
theorem dX8_runs_158 : decode cX8_runs 158 = .ok (.getfield 32, 3) := by decide +kernel
theorem dX8_runs_161 : decode cX8_runs 161 = .ok (.bipush 8, 2) := by decide +kernel
theorem dX8_runs_163 : decode cX8_runs 163 = .ok (.iload_n 1, 1) := by decide +kernel
theorem dX8_runs_164 : decode cX8_runs 164 = .ok (.imul, 1) := by decide +kernel
theorem dX8_runs_165 : decode cX8_runs 165 = .ok (.iload 6, 2) := by decide +kernel
theorem dX8_runs_167 : decode cX8_runs 167 = .ok (.iadd, 1) := by decide +kernel
theorem dX8_runs_168 : decode cX8_runs 168 = .ok (.aload_n 0, 1) := by decide +kernel
theorem dX8_runs_169 : decode cX8_runs 169 = .ok (.getfield 35, 3) := by decide +kernel
theorem dX8_runs_172 : decode cX8_runs 172 = .ok (.iload 6, 2) := by decide +kernel
theorem dX8_runs_174 : decode cX8_runs 174 = .ok (.iaload, 1) := by decide +kernel
theorem dX8_runs_175 : decode cX8_runs 175 = .ok (.iastore, 1) := by decide +kernel
theorem dX8_runs_176 : decode cX8_runs 176 = .ok (.iinc 6 1, 3) := by decide +kernel
theorem dX8_runs_179 : decode cX8_runs 179 = .ok (.goto (-29), 3) := by decide +kernel
theorem dX8_runs_182 : decode cX8_runs 182 = .ok (.aload_n 0, 1) := by decide +kernel
theorem dX8_runs_183 : decode cX8_runs 183 = .ok (.getfield 38, 3) := by decide +kernel
theorem dX8_runs_186 : decode cX8_runs 186 = .ok (.iload_n 1, 1) := by decide +kernel
theorem dX8_runs_187 : decode cX8_runs 187 = .ok (.dup2, 1) := by decide +kernel
theorem dX8_runs_188 : decode cX8_runs 188 = .ok (.iaload, 1) := by decide +kernel
theorem dX8_runs_189 : decode cX8_runs 189 = .ok (.iconst 1, 1) := by decide +kernel
theorem dX8_runs_190 : decode cX8_runs 190 = .ok (.iadd, 1) := by decide +kernel
theorem dX8_runs_191 : decode cX8_runs 191 = .ok (.iastore, 1) := by decide +kernel
theorem dX8_runs_192 : decode cX8_runs 192 = .ok (.sipush 10002, 3) := by decide +kernel
theorem dX8_runs_195 : decode cX8_runs 195 = .ok (.ireturn, 1) := by decide +kernel
theorem dX8_runs_196 : decode cX8_runs 196 = .ok (.iload 5, 2) := by decide +kernel
theorem dX8_runs_198 : decode cX8_runs 198 = .ok (.bipush 111, 2) := by decide +kernel
theorem dX8_runs_200 : decode cX8_runs 200 = .ok (.if_icmp .ne 15, 3) := by decide +kernel
theorem dX8_runs_203 : decode cX8_runs 203 = .ok (.aload_n 0, 1) := by decide +kernel
theorem dX8_runs_204 : decode cX8_runs 204 = .ok (.getfield 50, 3) := by decide +kernel
theorem dX8_runs_207 : decode cX8_runs 207 = .ok (.aload_n 0, 1) := by decide +kernel
theorem dX8_runs_208 : decode cX8_runs 208 = .ok (.getfield 173, 3) := by decide +kernel
theorem dX8_runs_211 : decode cX8_runs 211 = .ok (.iconst 1, 1) := by decide +kernel
theorem dX8_runs_212 : decode cX8_runs 212 = .ok (.isub, 1) := by decide +kernel
theorem dX8_runs_213 : decode cX8_runs 213 = .ok (.iaload, 1) := by decide +kernel
theorem dX8_runs_214 : decode cX8_runs 214 = .ok (.ireturn, 1) := by decide +kernel
theorem dX8_runs_215 : decode cX8_runs 215 = .ok (.iload 5, 2) := by decide +kernel
theorem dX8_runs_217 : decode cX8_runs 217 = .ok (.bipush 104, 2) := by decide +kernel
theorem dX8_runs_219 : decode cX8_runs 219 = .ok (.if_icmp .ne 7, 3) := by decide +kernel
theorem dX8_runs_222 : decode cX8_runs 222 = .ok (.sipush 10000, 3) := by decide +kernel
theorem dX8_runs_225 : decode cX8_runs 225 = .ok (.ireturn, 1) := by decide +kernel
theorem dX8_runs_226 : decode cX8_runs 226 = .ok (.aload_n 0, 1) := by decide +kernel
theorem dX8_runs_227 : decode cX8_runs 227 = .ok (.iload_n 1, 1) := by decide +kernel
theorem dX8_runs_228 : decode cX8_runs 228 = .ok (.iload 5, 2) := by decide +kernel
theorem dX8_runs_230 : decode cX8_runs 230 = .ok (.aload_n 0, 1) := by decide +kernel
theorem dX8_runs_231 : decode cX8_runs 231 = .ok (.getfield 16, 3) := by decide +kernel
theorem dX8_runs_234 : decode cX8_runs 234 = .ok (.bipush 24, 2) := by decide +kernel
theorem dX8_runs_236 : decode cX8_runs 236 = .ok (.iload_n 1, 1) := by decide +kernel
theorem dX8_runs_237 : decode cX8_runs 237 = .ok (.imul, 1) := by decide +kernel
theorem dX8_runs_238 : decode cX8_runs 238 = .ok (.aload_n 0, 1) := by decide +kernel
theorem dX8_runs_239 : decode cX8_runs 239 = .ok (.getfield 178, 3) := by decide +kernel
theorem dX8_runs_242 : decode cX8_runs 242 = .ok (.iadd, 1) := by decide +kernel
theorem dX8_runs_243 : decode cX8_runs 243 = .ok (.iaload, 1) := by decide +kernel
theorem dX8_runs_244 : decode cX8_runs 244 = .ok (.iload_n 2, 1) := by decide +kernel
theorem dX8_runs_245 : decode cX8_runs 245 = .ok (.iload_n 3, 1) := by decide +kernel
theorem dX8_runs_246 : decode cX8_runs 246 = .ok (.invokevirtual 199, 3) := by decide +kernel
theorem dX8_runs_249 : decode cX8_runs 249 = .ok (.goto (-201), 3) := by decide +kernel
theorem dX8_runs_252 : decode cX8_runs 252 = .ok (.sipush 10000, 3) := by decide +kernel
theorem dX8_runs_255 : decode cX8_runs 255 = .ok (.ireturn, 1) := by decide +kernel
set_option maxRecDepth 20000 in
theorem ggX8_letter_X8_isTeam : GoodIn wsX8_letter wsX8_isTeam := goodIn_r _ [11, 12, 56, 57, 58, 59, 60, 61, 62, 63, 64, 65, 66, 67, 68, 69, 70, 71, 72, 73, 74, 75, 76, 77, 78, 79, 80, 81, 82, 83, 84, 85, 86, 87, 88, 89, 90, 91, 92, 93, 94, 95, 96, 97, 98] (by decide +kernel) (by decide +kernel)
set_option maxRecDepth 20000 in
theorem gX8_letter_X8_isTeam : GoodIn wsX8_letter (wsV RX8 108 RX8 yX8_isTeam wsX8_isTeam) := goodIn_app (goodIn_of _ (by decide +kernel)) ggX8_letter_X8_isTeam
set_option maxRecDepth 20000 in
theorem ggX8_letter_X8_isPlace : GoodIn wsX8_letter wsX8_isPlace := goodIn_r _ [16, 17, 7, 8, 9, 10, 11, 12, 18, 19, 20, 56, 57, 58, 59, 60, 61, 62, 63, 64, 65, 66, 67, 68, 69, 70, 71, 72, 73, 74, 75, 76, 77, 78, 79, 80, 81, 82, 83, 84, 85, 86, 87, 88, 89, 90, 91, 92, 93, 94, 95, 96, 97, 98] (by decide +kernel) (by decide +kernel)
set_option maxRecDepth 20000 in
theorem gX8_letter_X8_isPlace : GoodIn wsX8_letter (wsV RX8 149 RX8 yX8_isPlace wsX8_isPlace) := goodIn_app (goodIn_of _ (by decide +kernel)) ggX8_letter_X8_isPlace
set_option maxRecDepth 20000 in
theorem ggX8_letter_X8_isIn : GoodIn wsX8_letter wsX8_isIn := goodIn_r _ [20] (by decide +kernel) (by decide +kernel)
set_option maxRecDepth 20000 in
theorem gX8_letter_X8_isIn : GoodIn wsX8_letter (va_wsS RX8 114 yX8_isIn wsX8_isIn) := goodIn_app (goodIn_of _ (by decide +kernel)) ggX8_letter_X8_isIn
set_option maxRecDepth 20000 in
theorem ggX8_letter_X8_runs : GoodIn wsX8_letter wsX8_runs := goodIn_r _ [24, 25, 26, 27, 28, 29, 30, 31, 32, 33, 34, 35, 36, 37, 38, 39, 10, 40, 41, 42, 43, 44, 45, 46, 47, 48, 49, 50, 51, 52, 53, 54, 55, 56, 57, 58, 59, 60, 61, 62, 63, 64, 65, 66, 67, 68, 69, 70, 71, 72, 73, 74, 75, 76, 77, 78, 79, 80, 81, 82, 83, 84, 85, 86, 87, 88, 89, 90, 91, 92, 93, 94, 95, 96, 97, 98] (by decide +kernel) (by decide +kernel)
set_option maxRecDepth 20000 in
theorem gX8_letter_X8_runs : GoodIn wsX8_letter (wsV RX8 209 RX8 yX8_runs wsX8_runs) := goodIn_app (goodIn_of _ (by decide +kernel)) ggX8_letter_X8_runs
theorem dX8_letter_0 : decode cX8_letter 0 = .ok (.aload_n 0, 1) := by decide +kernel
theorem dX8_letter_1 : decode cX8_letter 1 = .ok (.iload_n 1, 1) := by decide +kernel
theorem dX8_letter_2 : decode cX8_letter 2 = .ok (.invokevirtual 108, 3) := by decide +kernel
theorem dX8_letter_5 : decode cX8_letter 5 = .ok (.ifCond .eq 12, 3) := by decide +kernel
theorem dX8_letter_8 : decode cX8_letter 8 = .ok (.aload_n 0, 1) := by decide +kernel
theorem dX8_letter_9 : decode cX8_letter 9 = .ok (.iload_n 2, 1) := by decide +kernel
theorem dX8_letter_10 : decode cX8_letter 10 = .ok (.iload_n 3, 1) := by decide +kernel
theorem dX8_letter_11 : decode cX8_letter 11 = .ok (.invokevirtual 149, 3) := by decide +kernel
theorem dX8_letter_14 : decode cX8_letter 14 = .ok (.ifCond .ne 5, 3) := by decide +kernel
theorem dX8_letter_17 : decode cX8_letter 17 = .ok (.iconst (-1), 1) := by decide +kernel
theorem dX8_letter_18 : decode cX8_letter 18 = .ok (.ireturn, 1) := by decide +kernel
theorem dX8_letter_19 : decode cX8_letter 19 = .ok (.iload 4, 2) := by decide +kernel
theorem dX8_letter_21 : decode cX8_letter 21 = .ok (.i2l, 1) := by decide +kernel
theorem dX8_letter_22 : decode cX8_letter 22 = .ok (.lconst 0, 1) := by decide +kernel
theorem dX8_letter_23 : decode cX8_letter 23 = .ok (.ldc2_w 166, 3) := by decide +kernel
theorem dX8_letter_26 : decode cX8_letter 26 = .ok (.invokestatic 114, 3) := by decide +kernel
theorem dX8_letter_29 : decode cX8_letter 29 = .ok (.ifCond .eq 16, 3) := by decide +kernel
theorem dX8_letter_32 : decode cX8_letter 32 = .ok (.iload 5, 2) := by decide +kernel
theorem dX8_letter_34 : decode cX8_letter 34 = .ok (.i2l, 1) := by decide +kernel
theorem dX8_letter_35 : decode cX8_letter 35 = .ok (.lconst 0, 1) := by decide +kernel
theorem dX8_letter_36 : decode cX8_letter 36 = .ok (.ldc2_w 166, 3) := by decide +kernel
theorem dX8_letter_39 : decode cX8_letter 39 = .ok (.invokestatic 114, 3) := by decide +kernel
theorem dX8_letter_42 : decode cX8_letter 42 = .ok (.ifCond .ne 6, 3) := by decide +kernel
theorem dX8_letter_45 : decode cX8_letter 45 = .ok (.bipush (-2), 2) := by decide +kernel
theorem dX8_letter_47 : decode cX8_letter 47 = .ok (.ireturn, 1) := by decide +kernel
theorem dX8_letter_48 : decode cX8_letter 48 = .ok (.aload_n 0, 1) := by decide +kernel
theorem dX8_letter_49 : decode cX8_letter 49 = .ok (.getfield 203, 3) := by decide +kernel
theorem dX8_letter_52 : decode cX8_letter 52 = .ok (.sipush 400, 3) := by decide +kernel
theorem dX8_letter_55 : decode cX8_letter 55 = .ok (.if_icmp .ne 6, 3) := by decide +kernel
theorem dX8_letter_58 : decode cX8_letter 58 = .ok (.bipush (-4), 2) := by decide +kernel
theorem dX8_letter_60 : decode cX8_letter 60 = .ok (.ireturn, 1) := by decide +kernel
theorem dX8_letter_61 : decode cX8_letter 61 = .ok (.aload_n 0, 1) := by decide +kernel
theorem dX8_letter_62 : decode cX8_letter 62 = .ok (.getfield 53, 3) := by decide +kernel
theorem dX8_letter_65 : decode cX8_letter 65 = .ok (.aload_n 0, 1) := by decide +kernel
theorem dX8_letter_66 : decode cX8_letter 66 = .ok (.getfield 203, 3) := by decide +kernel
theorem dX8_letter_69 : decode cX8_letter 69 = .ok (.iconst 3, 1) := by decide +kernel
theorem dX8_letter_70 : decode cX8_letter 70 = .ok (.iload_n 2, 1) := by decide +kernel
theorem dX8_letter_71 : decode cX8_letter 71 = .ok (.imul, 1) := by decide +kernel
theorem dX8_letter_72 : decode cX8_letter 72 = .ok (.iload_n 3, 1) := by decide +kernel
theorem dX8_letter_73 : decode cX8_letter 73 = .ok (.iadd, 1) := by decide +kernel
theorem dX8_letter_74 : decode cX8_letter 74 = .ok (.iastore, 1) := by decide +kernel
theorem dX8_letter_75 : decode cX8_letter 75 = .ok (.aload_n 0, 1) := by decide +kernel
theorem dX8_letter_76 : decode cX8_letter 76 = .ok (.getfield 56, 3) := by decide +kernel
theorem dX8_letter_79 : decode cX8_letter 79 = .ok (.aload_n 0, 1) := by decide +kernel
theorem dX8_letter_80 : decode cX8_letter 80 = .ok (.getfield 203, 3) := by decide +kernel
theorem dX8_letter_83 : decode cX8_letter 83 = .ok (.iload 4, 2) := by decide +kernel
theorem dX8_letter_85 : decode cX8_letter 85 = .ok (.iastore, 1) := by decide +kernel
theorem dX8_letter_86 : decode cX8_letter 86 = .ok (.aload_n 0, 1) := by decide +kernel
theorem dX8_letter_87 : decode cX8_letter 87 = .ok (.getfield 59, 3) := by decide +kernel
theorem dX8_letter_90 : decode cX8_letter 90 = .ok (.aload_n 0, 1) := by decide +kernel
theorem dX8_letter_91 : decode cX8_letter 91 = .ok (.getfield 203, 3) := by decide +kernel
theorem dX8_letter_94 : decode cX8_letter 94 = .ok (.iload 5, 2) := by decide +kernel
theorem dX8_letter_96 : decode cX8_letter 96 = .ok (.iastore, 1) := by decide +kernel
theorem dX8_letter_97 : decode cX8_letter 97 = .ok (.aload_n 0, 1) := by decide +kernel
theorem dX8_letter_98 : decode cX8_letter 98 = .ok (.dup, 1) := by decide +kernel
theorem dX8_letter_99 : decode cX8_letter 99 = .ok (.getfield 203, 3) := by decide +kernel
theorem dX8_letter_102 : decode cX8_letter 102 = .ok (.iconst 1, 1) := by decide +kernel
theorem dX8_letter_103 : decode cX8_letter 103 = .ok (.iadd, 1) := by decide +kernel
theorem dX8_letter_104 : decode cX8_letter 104 = .ok (.putfield 203, 3) := by decide +kernel
theorem dX8_letter_107 : decode cX8_letter 107 = .ok (.aload_n 0, 1) := by decide +kernel
theorem dX8_letter_108 : decode cX8_letter 108 = .ok (.dup, 1) := by decide +kernel
theorem dX8_letter_109 : decode cX8_letter 109 = .ok (.getfield 206, 3) := by decide +kernel
theorem dX8_letter_112 : decode cX8_letter 112 = .ok (.iconst 1, 1) := by decide +kernel
theorem dX8_letter_113 : decode cX8_letter 113 = .ok (.iadd, 1) := by decide +kernel
theorem dX8_letter_114 : decode cX8_letter 114 = .ok (.putfield 206, 3) := by decide +kernel
theorem dX8_letter_117 : decode cX8_letter 117 = .ok (.aload_n 0, 1) := by decide +kernel
theorem dX8_letter_118 : decode cX8_letter 118 = .ok (.iconst 3, 1) := by decide +kernel
theorem dX8_letter_119 : decode cX8_letter 119 = .ok (.iload_n 2, 1) := by decide +kernel
theorem dX8_letter_120 : decode cX8_letter 120 = .ok (.imul, 1) := by decide +kernel
theorem dX8_letter_121 : decode cX8_letter 121 = .ok (.iload_n 3, 1) := by decide +kernel
theorem dX8_letter_122 : decode cX8_letter 122 = .ok (.iadd, 1) := by decide +kernel
theorem dX8_letter_123 : decode cX8_letter 123 = .ok (.iload 4, 2) := by decide +kernel
theorem dX8_letter_125 : decode cX8_letter 125 = .ok (.iload 5, 2) := by decide +kernel
theorem dX8_letter_127 : decode cX8_letter 127 = .ok (.invokevirtual 209, 3) := by decide +kernel
theorem dX8_letter_130 : decode cX8_letter 130 = .ok (.ireturn, 1) := by decide +kernel
theorem dX8_mix_0 : decode cX8_mix 0 = .ok (.aload_n 0, 1) := by decide +kernel
theorem dX8_mix_1 : decode cX8_mix 1 = .ok (.getfield 47, 3) := by decide +kernel
theorem dX8_mix_4 : decode cX8_mix 4 = .ok (.iconst 1, 1) := by decide +kernel
theorem dX8_mix_5 : decode cX8_mix 5 = .ok (.iaload, 1) := by decide +kernel
theorem dX8_mix_6 : decode cX8_mix 6 = .ok (.bipush 31, 2) := by decide +kernel
theorem dX8_mix_8 : decode cX8_mix 8 = .ok (.imul, 1) := by decide +kernel
theorem dX8_mix_9 : decode cX8_mix 9 = .ok (.iload_n 1, 1) := by decide +kernel
theorem dX8_mix_10 : decode cX8_mix 10 = .ok (.bipush 17, 2) := by decide +kernel
theorem dX8_mix_12 : decode cX8_mix 12 = .ok (.imul, 1) := by decide +kernel
theorem dX8_mix_13 : decode cX8_mix 13 = .ok (.iadd, 1) := by decide +kernel
theorem dX8_mix_14 : decode cX8_mix 14 = .ok (.iload_n 2, 1) := by decide +kernel
theorem dX8_mix_15 : decode cX8_mix 15 = .ok (.iconst 3, 1) := by decide +kernel
theorem dX8_mix_16 : decode cX8_mix 16 = .ok (.idiv, 1) := by decide +kernel
theorem dX8_mix_17 : decode cX8_mix 17 = .ok (.bipush 7, 2) := by decide +kernel
theorem dX8_mix_19 : decode cX8_mix 19 = .ok (.imul, 1) := by decide +kernel
theorem dX8_mix_20 : decode cX8_mix 20 = .ok (.iadd, 1) := by decide +kernel
theorem dX8_mix_21 : decode cX8_mix 21 = .ok (.iload_n 2, 1) := by decide +kernel
theorem dX8_mix_22 : decode cX8_mix 22 = .ok (.iconst 3, 1) := by decide +kernel
theorem dX8_mix_23 : decode cX8_mix 23 = .ok (.irem, 1) := by decide +kernel
theorem dX8_mix_24 : decode cX8_mix 24 = .ok (.iconst 3, 1) := by decide +kernel
theorem dX8_mix_25 : decode cX8_mix 25 = .ok (.imul, 1) := by decide +kernel
theorem dX8_mix_26 : decode cX8_mix 26 = .ok (.iadd, 1) := by decide +kernel
theorem dX8_mix_27 : decode cX8_mix 27 = .ok (.sipush 997, 3) := by decide +kernel
theorem dX8_mix_30 : decode cX8_mix 30 = .ok (.irem, 1) := by decide +kernel
theorem dX8_mix_31 : decode cX8_mix 31 = .ok (.ireturn, 1) := by decide +kernel
set_option maxRecDepth 20000 in
theorem ggX8_flagOf_X8_mix : GoodIn wsX8_flagOf wsX8_mix := goodIn_r _ [5, 6, 7, 8, 9, 10, 11, 12, 13, 14, 15, 16, 17, 18, 19, 20, 21, 22, 23, 24, 25, 26, 27, 28, 29, 30, 31, 32, 33, 34, 35, 36, 37, 38, 39, 40, 41, 42, 43, 44, 45, 46, 47, 48, 49] (by decide +kernel) (by decide +kernel)
set_option maxRecDepth 20000 in
theorem gX8_flagOf_X8_mix : GoodIn wsX8_flagOf (wsV RX8 212 RX8 yX8_mix wsX8_mix) := goodIn_app (goodIn_of _ (by decide +kernel)) ggX8_flagOf_X8_mix
theorem dX8_flagOf_0 : decode cX8_flagOf 0 = .ok (.aload_n 0, 1) := by decide +kernel
theorem dX8_flagOf_1 : decode cX8_flagOf 1 = .ok (.iload_n 1, 1) := by decide +kernel
theorem dX8_flagOf_2 : decode cX8_flagOf 2 = .ok (.iload_n 2, 1) := by decide +kernel
theorem dX8_flagOf_3 : decode cX8_flagOf 3 = .ok (.invokevirtual 212, 3) := by decide +kernel
theorem dX8_flagOf_6 : decode cX8_flagOf 6 = .ok (.bipush 13, 2) := by decide +kernel
theorem dX8_flagOf_8 : decode cX8_flagOf 8 = .ok (.imul, 1) := by decide +kernel
theorem dX8_flagOf_9 : decode cX8_flagOf 9 = .ok (.sipush 1000, 3) := by decide +kernel
theorem dX8_flagOf_12 : decode cX8_flagOf 12 = .ok (.iadd, 1) := by decide +kernel
theorem dX8_flagOf_13 : decode cX8_flagOf 13 = .ok (.sipush 10000, 3) := by decide +kernel
theorem dX8_flagOf_16 : decode cX8_flagOf 16 = .ok (.irem, 1) := by decide +kernel
theorem dX8_flagOf_17 : decode cX8_flagOf 17 = .ok (.ireturn, 1) := by decide +kernel
set_option maxRecDepth 20000 in
theorem ggX8_checks_X8_mix : GoodIn wsX8_checks wsX8_mix := goodIn_r _ [11, 5, 50, 51, 52, 53, 54, 55, 56, 57, 58, 59, 60, 61, 62, 63, 64, 65, 66, 67, 68, 69, 70, 71, 72, 73, 74, 75, 76, 77, 78, 79, 80, 81, 82, 83, 84, 85, 86, 87, 88, 89, 90, 91, 92] (by decide +kernel) (by decide +kernel)
set_option maxRecDepth 20000 in
theorem gX8_checks_X8_mix : GoodIn wsX8_checks (wsV RX8 212 RX8 yX8_mix wsX8_mix) := goodIn_app (goodIn_of _ (by decide +kernel)) ggX8_checks_X8_mix
set_option maxRecDepth 20000 in
theorem ggX8_checks_X8_flagOf : GoodIn wsX8_checks wsX8_flagOf := goodIn_r _ [15, 7, 8, 9, 10, 11, 5, 50, 51, 52, 53, 54, 55, 56, 57, 58, 59, 60, 61, 62, 63, 64, 65, 66, 67, 68, 69, 70, 71, 72, 73, 74, 75, 76, 77, 78, 79, 80, 81, 82, 83, 84, 85, 86, 87, 88, 89, 90, 91, 92] (by decide +kernel) (by decide +kernel)
set_option maxRecDepth 20000 in
theorem gX8_checks_X8_flagOf : GoodIn wsX8_checks (wsV RX8 216 RX8 yX8_flagOf wsX8_flagOf) := goodIn_app (goodIn_of _ (by decide +kernel)) ggX8_checks_X8_flagOf
set_option maxRecDepth 20000 in
theorem ggX8_checks_X8_runs : GoodIn wsX8_checks wsX8_runs := goodIn_r _ [19, 20, 21, 22, 23, 24, 5, 25, 26, 27, 28, 29, 30, 31, 32, 33, 10, 34, 35, 36, 37, 38, 39, 40, 41, 42, 43, 44, 45, 46, 47, 48, 49, 50, 51, 52, 53, 54, 55, 56, 57, 58, 59, 60, 61, 62, 63, 64, 65, 66, 67, 68, 69, 70, 71, 72, 73, 74, 75, 76, 77, 78, 79, 80, 81, 82, 83, 84, 85, 86, 87, 88, 89, 90, 91, 92] (by decide +kernel) (by decide +kernel)
set_option maxRecDepth 20000 in
theorem gX8_checks_X8_runs : GoodIn wsX8_checks (wsV RX8 209 RX8 yX8_runs wsX8_runs) := goodIn_app (goodIn_of _ (by decide +kernel)) ggX8_checks_X8_runs
theorem dX8_checks_0 : decode cX8_checks 0 = .ok (.aload_n 0, 1) := by decide +kernel
theorem dX8_checks_1 : decode cX8_checks 1 = .ok (.iload_n 1, 1) := by decide +kernel
theorem dX8_checks_2 : decode cX8_checks 2 = .ok (.iload_n 2, 1) := by decide +kernel
theorem dX8_checks_3 : decode cX8_checks 3 = .ok (.invokevirtual 212, 3) := by decide +kernel
theorem dX8_checks_6 : decode cX8_checks 6 = .ok (.istore_n 3, 1) := by decide +kernel
theorem dX8_checks_7 : decode cX8_checks 7 = .ok (.iconst 1, 1) := by decide +kernel
theorem dX8_checks_8 : decode cX8_checks 8 = .ok (.istore 4, 2) := by decide +kernel
theorem dX8_checks_10 : decode cX8_checks 10 = .ok (.iconst 0, 1) := by decide +kernel
theorem dX8_checks_11 : decode cX8_checks 11 = .ok (.istore 5, 2) := by decide +kernel
theorem dX8_checks_13 : decode cX8_checks 13 = .ok (.iconst 0, 1) := by decide +kernel
theorem dX8_checks_14 : decode cX8_checks 14 = .ok (.istore 6, 2) := by decide +kernel
theorem dX8_checks_16 : decode cX8_checks 16 = .ok (.iload 6, 2) := by decide +kernel
theorem dX8_checks_18 : decode cX8_checks 18 = .ok (.iconst 3, 1) := by decide +kernel
theorem dX8_checks_19 : decode cX8_checks 19 = .ok (.if_icmp .ge 270, 3) := by decide +kernel
theorem dX8_checks_22 : decode cX8_checks 22 = .ok (.aload_n 0, 1) := by decide +kernel
theorem dX8_checks_23 : decode cX8_checks 23 = .ok (.getfield 86, 3) := by decide +kernel
theorem dX8_checks_26 : decode cX8_checks 26 = .ok (.iconst 3, 1) := by decide +kernel
theorem dX8_checks_27 : decode cX8_checks 27 = .ok (.iload_n 3, 1) := by decide +kernel
theorem dX8_checks_28 : decode cX8_checks 28 = .ok (.bipush 6, 2) := by decide +kernel
theorem dX8_checks_30 : decode cX8_checks 30 = .ok (.irem, 1) := by decide +kernel
theorem dX8_checks_31 : decode cX8_checks 31 = .ok (.imul, 1) := by decide +kernel
theorem dX8_checks_32 : decode cX8_checks 32 = .ok (.iload 6, 2) := by decide +kernel
theorem dX8_checks_34 : decode cX8_checks 34 = .ok (.iadd, 1) := by decide +kernel
theorem dX8_checks_35 : decode cX8_checks 35 = .ok (.iaload, 1) := by decide +kernel
theorem dX8_checks_36 : decode cX8_checks 36 = .ok (.istore 7, 2) := by decide +kernel
theorem dX8_checks_38 : decode cX8_checks 38 = .ok (.iconst 3, 1) := by decide +kernel
theorem dX8_checks_39 : decode cX8_checks 39 = .ok (.iload_n 2, 1) := by decide +kernel
theorem dX8_checks_40 : decode cX8_checks 40 = .ok (.imul, 1) := by decide +kernel
theorem dX8_checks_41 : decode cX8_checks 41 = .ok (.iload 6, 2) := by decide +kernel
theorem dX8_checks_43 : decode cX8_checks 43 = .ok (.iadd, 1) := by decide +kernel
theorem dX8_checks_44 : decode cX8_checks 44 = .ok (.istore 8, 2) := by decide +kernel
theorem dX8_checks_46 : decode cX8_checks 46 = .ok (.aload_n 0, 1) := by decide +kernel
theorem dX8_checks_47 : decode cX8_checks 47 = .ok (.getfield 74, 3) := by decide +kernel
theorem dX8_checks_50 : decode cX8_checks 50 = .ok (.iload 8, 2) := by decide +kernel
theorem dX8_checks_52 : decode cX8_checks 52 = .ok (.iload 7, 2) := by decide +kernel
theorem dX8_checks_54 : decode cX8_checks 54 = .ok (.iastore, 1) := by decide +kernel
theorem dX8_checks_55 : decode cX8_checks 55 = .ok (.aload_n 0, 1) := by decide +kernel
theorem dX8_checks_56 : decode cX8_checks 56 = .ok (.getfield 77, 3) := by decide +kernel
theorem dX8_checks_59 : decode cX8_checks 59 = .ok (.iload 8, 2) := by decide +kernel
theorem dX8_checks_61 : decode cX8_checks 61 = .ok (.iload 7, 2) := by decide +kernel
theorem dX8_checks_63 : decode cX8_checks 63 = .ok (.ifCond .ne 7, 3) := by decide +kernel
theorem dX8_checks_66 : decode cX8_checks 66 = .ok (.iload_n 3, 1) := by decide +kernel
theorem dX8_checks_67 : decode cX8_checks 67 = .ok (.goto 19, 3) := by decide +kernel
theorem dX8_checks_70 : decode cX8_checks 70 = .ok (.iload 7, 2) := by decide +kernel
theorem dX8_checks_72 : decode cX8_checks 72 = .ok (.iconst 1, 1) := by decide +kernel
theorem dX8_checks_73 : decode cX8_checks 73 = .ok (.if_icmp .ne 12, 3) := by decide +kernel
theorem dX8_checks_76 : decode cX8_checks 76 = .ok (.aload_n 0, 1) := by decide +kernel
theorem dX8_checks_77 : decode cX8_checks 77 = .ok (.iload_n 1, 1) := by decide +kernel
theorem dX8_checks_78 : decode cX8_checks 78 = .ok (.iload_n 2, 1) := by decide +kernel
theorem dX8_checks_79 : decode cX8_checks 79 = .ok (.invokevirtual 216, 3) := by decide +kernel
theorem dX8_checks_82 : decode cX8_checks 82 = .ok (.goto 4, 3) := by decide +kernel
theorem dX8_checks_85 : decode cX8_checks 85 = .ok (.iconst 0, 1) := by decide +kernel
theorem dX8_checks_86 : decode cX8_checks 86 = .ok (.iastore, 1) := by decide +kernel
theorem dX8_checks_87 : decode cX8_checks 87 = .ok (.aload_n 0, 1) := by decide +kernel
theorem dX8_checks_88 : decode cX8_checks 88 = .ok (.getfield 80, 3) := by decide +kernel
theorem dX8_checks_91 : decode cX8_checks 91 = .ok (.iload 8, 2) := by decide +kernel
theorem dX8_checks_93 : decode cX8_checks 93 = .ok (.aload_n 0, 1) := by decide +kernel
theorem dX8_checks_94 : decode cX8_checks 94 = .ok (.iload_n 2, 1) := by decide +kernel
theorem dX8_checks_95 : decode cX8_checks 95 = .ok (.iload 7, 2) := by decide +kernel
theorem dX8_checks_97 : decode cX8_checks 97 = .ok (.iconst 1, 1) := by decide +kernel
theorem dX8_checks_98 : decode cX8_checks 98 = .ok (.iadd, 1) := by decide +kernel
theorem dX8_checks_99 : decode cX8_checks 99 = .ok (.aload_n 0, 1) := by decide +kernel
theorem dX8_checks_100 : decode cX8_checks 100 = .ok (.getfield 77, 3) := by decide +kernel
theorem dX8_checks_103 : decode cX8_checks 103 = .ok (.iload 8, 2) := by decide +kernel
theorem dX8_checks_105 : decode cX8_checks 105 = .ok (.iaload, 1) := by decide +kernel
theorem dX8_checks_106 : decode cX8_checks 106 = .ok (.invokevirtual 209, 3) := by decide +kernel
theorem dX8_checks_109 : decode cX8_checks 109 = .ok (.iastore, 1) := by decide +kernel
theorem dX8_checks_110 : decode cX8_checks 110 = .ok (.iload 7, 2) := by decide +kernel
theorem dX8_checks_112 : decode cX8_checks 112 = .ok (.ifCond .ne 37, 3) := by decide +kernel
theorem dX8_checks_115 : decode cX8_checks 115 = .ok (.aload_n 0, 1) := by decide +kernel
theorem dX8_checks_116 : decode cX8_checks 116 = .ok (.getfield 80, 3) := by decide +kernel
theorem dX8_checks_119 : decode cX8_checks 119 = .ok (.iload 8, 2) := by decide +kernel
theorem dX8_checks_121 : decode cX8_checks 121 = .ok (.iaload, 1) := by decide +kernel
theorem dX8_checks_122 : decode cX8_checks 122 = .ok (.iload_n 3, 1) := by decide +kernel
theorem dX8_checks_123 : decode cX8_checks 123 = .ok (.aload_n 0, 1) := by decide +kernel
theorem dX8_checks_124 : decode cX8_checks 124 = .ok (.getfield 47, 3) := by decide +kernel
theorem dX8_checks_127 : decode cX8_checks 127 = .ok (.iconst 4, 1) := by decide +kernel
theorem dX8_checks_128 : decode cX8_checks 128 = .ok (.iload_n 2, 1) := by decide +kernel
theorem dX8_checks_129 : decode cX8_checks 129 = .ok (.iconst 3, 1) := by decide +kernel
theorem dX8_checks_130 : decode cX8_checks 130 = .ok (.irem, 1) := by decide +kernel
theorem dX8_checks_131 : decode cX8_checks 131 = .ok (.iadd, 1) := by decide +kernel
theorem dX8_checks_132 : decode cX8_checks 132 = .ok (.iaload, 1) := by decide +kernel
theorem dX8_checks_133 : decode cX8_checks 133 = .ok (.iadd, 1) := by decide +kernel
theorem dX8_checks_134 : decode cX8_checks 134 = .ok (.sipush 10000, 3) := by decide +kernel
theorem dX8_checks_137 : decode cX8_checks 137 = .ok (.irem, 1) := by decide +kernel
theorem dX8_checks_138 : decode cX8_checks 138 = .ok (.if_icmp .ne 7, 3) := by decide +kernel
theorem dX8_checks_141 : decode cX8_checks 141 = .ok (.iconst 1, 1) := by decide +kernel
theorem dX8_checks_142 : decode cX8_checks 142 = .ok (.goto 87, 3) := by decide +kernel
theorem dX8_checks_145 : decode cX8_checks 145 = .ok (.iconst 0, 1) := by decide +kernel
theorem dX8_checks_146 : decode cX8_checks 146 = .ok (.goto 83, 3) := by decide +kernel
theorem dX8_checks_149 : decode cX8_checks 149 = .ok (.iload 7, 2) := by decide +kernel
theorem dX8_checks_151 : decode cX8_checks 151 = .ok (.iconst 1, 1) := by decide +kernel
theorem dX8_checks_152 : decode cX8_checks 152 = .ok (.if_icmp .ne 21, 3) := by decide +kernel
theorem dX8_checks_155 : decode cX8_checks 155 = .ok (.aload_n 0, 1) := by decide +kernel
theorem dX8_checks_156 : decode cX8_checks 156 = .ok (.getfield 80, 3) := by decide +kernel
theorem dX8_checks_159 : decode cX8_checks 159 = .ok (.iload 8, 2) := by decide +kernel
theorem dX8_checks_161 : decode cX8_checks 161 = .ok (.iaload, 1) := by decide +kernel
theorem dX8_checks_162 : decode cX8_checks 162 = .ok (.ifCond .ne 7, 3) := by decide +kernel
theorem dX8_checks_165 : decode cX8_checks 165 = .ok (.iconst 1, 1) := by decide +kernel
theorem dX8_checks_166 : decode cX8_checks 166 = .ok (.goto 63, 3) := by decide +kernel
theorem dX8_checks_169 : decode cX8_checks 169 = .ok (.iconst 0, 1) := by decide +kernel
theorem dX8_checks_170 : decode cX8_checks 170 = .ok (.goto 59, 3) := by decide +kernel
theorem dX8_checks_173 : decode cX8_checks 173 = .ok (.iload 5, 2) := by decide +kernel
theorem dX8_checks_175 : decode cX8_checks 175 = .ok (.ifCond .eq 27, 3) := by decide +kernel
theorem dX8_checks_178 : decode cX8_checks 178 = .ok (.aload_n 0, 1) := by decide +kernel
theorem dX8_checks_179 : decode cX8_checks 179 = .ok (.getfield 80, 3) := by decide +kernel
theorem dX8_checks_182 : decode cX8_checks 182 = .ok (.iload 8, 2) := by decide +kernel
theorem dX8_checks_184 : decode cX8_checks 184 = .ok (.iaload, 1) := by decide +kernel
theorem dX8_checks_185 : decode cX8_checks 185 = .ok (.aload_n 0, 1) := by decide +kernel
theorem dX8_checks_186 : decode cX8_checks 186 = .ok (.iload_n 1, 1) := by decide +kernel
theorem dX8_checks_187 : decode cX8_checks 187 = .ok (.iload_n 2, 1) := by decide +kernel
theorem dX8_checks_188 : decode cX8_checks 188 = .ok (.invokevirtual 216, 3) := by decide +kernel
theorem dX8_checks_191 : decode cX8_checks 191 = .ok (.if_icmp .ne 7, 3) := by decide +kernel
theorem dX8_checks_194 : decode cX8_checks 194 = .ok (.iconst 1, 1) := by decide +kernel
theorem dX8_checks_195 : decode cX8_checks 195 = .ok (.goto 34, 3) := by decide +kernel
theorem dX8_checks_198 : decode cX8_checks 198 = .ok (.iconst 0, 1) := by decide +kernel
theorem dX8_checks_199 : decode cX8_checks 199 = .ok (.goto 30, 3) := by decide +kernel
theorem dX8_checks_202 : decode cX8_checks 202 = .ok (.iload_n 1, 1) := by decide +kernel
theorem dX8_checks_203 : decode cX8_checks 203 = .ok (.ifCond .eq 21, 3) := by decide +kernel
theorem dX8_checks_206 : decode cX8_checks 206 = .ok (.aload_n 0, 1) := by decide +kernel
theorem dX8_checks_207 : decode cX8_checks 207 = .ok (.getfield 80, 3) := by decide +kernel
theorem dX8_checks_210 : decode cX8_checks 210 = .ok (.iload 8, 2) := by decide +kernel
theorem dX8_checks_212 : decode cX8_checks 212 = .ok (.iaload, 1) := by decide +kernel
theorem dX8_checks_213 : decode cX8_checks 213 = .ok (.aload_n 0, 1) := by decide +kernel
theorem dX8_checks_214 : decode cX8_checks 214 = .ok (.iload_n 1, 1) := by decide +kernel
theorem dX8_checks_215 : decode cX8_checks 215 = .ok (.iconst 1, 1) := by decide +kernel
theorem dX8_checks_216 : decode cX8_checks 216 = .ok (.isub, 1) := by decide +kernel
theorem dX8_checks_217 : decode cX8_checks 217 = .ok (.iload_n 2, 1) := by decide +kernel
theorem dX8_checks_218 : decode cX8_checks 218 = .ok (.invokevirtual 216, 3) := by decide +kernel
theorem dX8_checks_221 : decode cX8_checks 221 = .ok (.if_icmp .ne 7, 3) := by decide +kernel
theorem dX8_checks_224 : decode cX8_checks 224 = .ok (.iconst 1, 1) := by decide +kernel
theorem dX8_checks_225 : decode cX8_checks 225 = .ok (.goto 4, 3) := by decide +kernel
theorem dX8_checks_228 : decode cX8_checks 228 = .ok (.iconst 0, 1) := by decide +kernel
theorem dX8_checks_229 : decode cX8_checks 229 = .ok (.istore 9, 2) := by decide +kernel
theorem dX8_checks_231 : decode cX8_checks 231 = .ok (.iload 5, 2) := by decide +kernel
theorem dX8_checks_233 : decode cX8_checks 233 = .ok (.ifCond .ne 9, 3) := by decide +kernel
theorem dX8_checks_236 : decode cX8_checks 236 = .ok (.iload 7, 2) := by decide +kernel
theorem dX8_checks_238 : decode cX8_checks 238 = .ok (.iconst 1, 1) := by decide +kernel
theorem dX8_checks_239 : decode cX8_checks 239 = .ok (.if_icmp .ne 7, 3) := by decide +kernel
theorem dX8_checks_242 : decode cX8_checks 242 = .ok (.iconst 1, 1) := by decide +kernel
theorem dX8_checks_243 : decode cX8_checks 243 = .ok (.goto 4, 3) := by decide +kernel
theorem dX8_checks_246 : decode cX8_checks 246 = .ok (.iconst 0, 1) := by decide +kernel
theorem dX8_checks_247 : decode cX8_checks 247 = .ok (.istore 5, 2) := by decide +kernel
theorem dX8_checks_249 : decode cX8_checks 249 = .ok (.aload_n 0, 1) := by decide +kernel
theorem dX8_checks_250 : decode cX8_checks 250 = .ok (.getfield 83, 3) := by decide +kernel
theorem dX8_checks_253 : decode cX8_checks 253 = .ok (.iload 8, 2) := by decide +kernel
theorem dX8_checks_255 : decode cX8_checks 255 = .ok (.iload 9, 2) := by decide +kernel
theorem dX8_checks_257 : decode cX8_checks 257 = .ok (.ifCond .eq 7, 3) := by decide +kernel
theorem dX8_checks_260 : decode cX8_checks 260 = .ok (.iconst 1, 1) := by decide +kernel
theorem dX8_checks_261 : decode cX8_checks 261 = .ok (.goto 4, 3) := by decide +kernel
theorem dX8_checks_264 : decode cX8_checks 264 = .ok (.iconst 0, 1) := by decide +kernel
theorem dX8_checks_265 : decode cX8_checks 265 = .ok (.iastore, 1) := by decide +kernel
theorem dX8_checks_266 : decode cX8_checks 266 = .ok (.iload 4, 2) := by decide +kernel
theorem dX8_checks_268 : decode cX8_checks 268 = .ok (.ifCond .eq 12, 3) := by decide +kernel
theorem dX8_checks_271 : decode cX8_checks 271 = .ok (.iload 9, 2) := by decide +kernel
theorem dX8_checks_273 : decode cX8_checks 273 = .ok (.ifCond .eq 7, 3) := by decide +kernel
theorem dX8_checks_276 : decode cX8_checks 276 = .ok (.iconst 1, 1) := by decide +kernel
theorem dX8_checks_277 : decode cX8_checks 277 = .ok (.goto 4, 3) := by decide +kernel
theorem dX8_checks_280 : decode cX8_checks 280 = .ok (.iconst 0, 1) := by decide +kernel
theorem dX8_checks_281 : decode cX8_checks 281 = .ok (.istore 4, 2) := by decide +kernel
theorem dX8_checks_283 : decode cX8_checks 283 = .ok (.iinc 6 1, 3) := by decide +kernel
theorem dX8_checks_286 : decode cX8_checks 286 = .ok (.goto (-270), 3) := by decide +kernel
theorem dX8_checks_289 : decode cX8_checks 289 = .ok (.iload 4, 2) := by decide +kernel
theorem dX8_checks_291 : decode cX8_checks 291 = .ok (.ireturn, 1) := by decide +kernel
set_option maxRecDepth 20000 in
theorem ggX8_round_X8_checks : GoodIn wsX8_round wsX8_checks := goodIn_r _ [21, 22, 23, 24, 25, 26, 27, 28, 29, 30, 20, 31, 32, 33, 34, 35, 36, 37, 38, 39, 40, 41, 42, 43, 14, 44, 45, 46, 12, 47, 48, 13, 49, 50, 51, 52, 53, 54, 55, 56, 57, 58, 59, 60, 61, 62, 63, 64, 65, 66, 67, 68, 69, 70, 71, 72, 73, 74, 75, 76, 77, 78, 79, 80, 81, 82, 83, 84, 85, 86, 87, 88, 89, 90, 91, 92, 93, 94, 95, 96, 97, 98, 99, 100, 101, 102, 103, 104, 105, 106, 107, 108, 109] (by decide +kernel) (by decide +kernel)
set_option maxRecDepth 20000 in
theorem gX8_round_X8_checks : GoodIn wsX8_round (wsV RX8 222 RX8 yX8_checks wsX8_checks) := goodIn_app (goodIn_of _ (by decide +kernel)) ggX8_round_X8_checks
theorem dX8_round_0 : decode cX8_round 0 = .ok (.aload_n 0, 1) := by decide +kernel
end
section
theorem dX8_round_1 : decode cX8_round 1 = .ok (.getfield 104, 3) := by decide +kernel
theorem dX8_round_4 : decode cX8_round 4 = .ok (.ifCond .ne 6, 3) := by decide +kernel
theorem dX8_round_7 : decode cX8_round 7 = .ok (.bipush (-3), 2) := by decide +kernel
theorem dX8_round_9 : decode cX8_round 9 = .ok (.ireturn, 1) := by decide +kernel
theorem dX8_round_10 : decode cX8_round 10 = .ok (.aload_n 0, 1) := by decide +kernel
theorem dX8_round_11 : decode cX8_round 11 = .ok (.getfield 118, 3) := by decide +kernel
theorem dX8_round_14 : decode cX8_round 14 = .ok (.bipush 100, 2) := by decide +kernel
theorem dX8_round_16 : decode cX8_round 16 = .ok (.if_icmp .ne 6, 3) := by decide +kernel
theorem dX8_round_19 : decode cX8_round 19 = .ok (.bipush (-4), 2) := by decide +kernel
theorem dX8_round_21 : decode cX8_round 21 = .ok (.ireturn, 1) := by decide +kernel
theorem dX8_round_22 : decode cX8_round 22 = .ok (.iconst 0, 1) := by decide +kernel
theorem dX8_round_23 : decode cX8_round 23 = .ok (.istore_n 1, 1) := by decide +kernel
theorem dX8_round_24 : decode cX8_round 24 = .ok (.iload_n 1, 1) := by decide +kernel
theorem dX8_round_25 : decode cX8_round 25 = .ok (.aload_n 0, 1) := by decide +kernel
theorem dX8_round_26 : decode cX8_round 26 = .ok (.getfield 203, 3) := by decide +kernel
theorem dX8_round_29 : decode cX8_round 29 = .ok (.if_icmp .ge 45, 3) := by decide +kernel
theorem dX8_round_32 : decode cX8_round 32 = .ok (.aload_n 0, 1) := by decide +kernel
theorem dX8_round_33 : decode cX8_round 33 = .ok (.getfield 62, 3) := by decide +kernel
theorem dX8_round_36 : decode cX8_round 36 = .ok (.iload_n 1, 1) := by decide +kernel
theorem dX8_round_37 : decode cX8_round 37 = .ok (.aload_n 0, 1) := by decide +kernel
theorem dX8_round_38 : decode cX8_round 38 = .ok (.getfield 53, 3) := by decide +kernel
theorem dX8_round_41 : decode cX8_round 41 = .ok (.iload_n 1, 1) := by decide +kernel
theorem dX8_round_42 : decode cX8_round 42 = .ok (.iaload, 1) := by decide +kernel
theorem dX8_round_43 : decode cX8_round 43 = .ok (.iastore, 1) := by decide +kernel
theorem dX8_round_44 : decode cX8_round 44 = .ok (.aload_n 0, 1) := by decide +kernel
theorem dX8_round_45 : decode cX8_round 45 = .ok (.getfield 65, 3) := by decide +kernel
theorem dX8_round_48 : decode cX8_round 48 = .ok (.iload_n 1, 1) := by decide +kernel
theorem dX8_round_49 : decode cX8_round 49 = .ok (.aload_n 0, 1) := by decide +kernel
theorem dX8_round_50 : decode cX8_round 50 = .ok (.getfield 56, 3) := by decide +kernel
theorem dX8_round_53 : decode cX8_round 53 = .ok (.iload_n 1, 1) := by decide +kernel
theorem dX8_round_54 : decode cX8_round 54 = .ok (.iaload, 1) := by decide +kernel
theorem dX8_round_55 : decode cX8_round 55 = .ok (.iastore, 1) := by decide +kernel
theorem dX8_round_56 : decode cX8_round 56 = .ok (.aload_n 0, 1) := by decide +kernel
theorem dX8_round_57 : decode cX8_round 57 = .ok (.getfield 68, 3) := by decide +kernel
theorem dX8_round_60 : decode cX8_round 60 = .ok (.iload_n 1, 1) := by decide +kernel
theorem dX8_round_61 : decode cX8_round 61 = .ok (.aload_n 0, 1) := by decide +kernel
theorem dX8_round_62 : decode cX8_round 62 = .ok (.getfield 59, 3) := by decide +kernel
theorem dX8_round_65 : decode cX8_round 65 = .ok (.iload_n 1, 1) := by decide +kernel
theorem dX8_round_66 : decode cX8_round 66 = .ok (.iaload, 1) := by decide +kernel
theorem dX8_round_67 : decode cX8_round 67 = .ok (.iastore, 1) := by decide +kernel
theorem dX8_round_68 : decode cX8_round 68 = .ok (.iinc 1 1, 3) := by decide +kernel
theorem dX8_round_71 : decode cX8_round 71 = .ok (.goto (-47), 3) := by decide +kernel
theorem dX8_round_74 : decode cX8_round 74 = .ok (.aload_n 0, 1) := by decide +kernel
theorem dX8_round_75 : decode cX8_round 75 = .ok (.aload_n 0, 1) := by decide +kernel
theorem dX8_round_76 : decode cX8_round 76 = .ok (.getfield 203, 3) := by decide +kernel
theorem dX8_round_79 : decode cX8_round 79 = .ok (.putfield 219, 3) := by decide +kernel
theorem dX8_round_82 : decode cX8_round 82 = .ok (.aload_n 0, 1) := by decide +kernel
theorem dX8_round_83 : decode cX8_round 83 = .ok (.iconst 0, 1) := by decide +kernel
theorem dX8_round_84 : decode cX8_round 84 = .ok (.putfield 203, 3) := by decide +kernel
theorem dX8_round_87 : decode cX8_round 87 = .ok (.iconst 0, 1) := by decide +kernel
theorem dX8_round_88 : decode cX8_round 88 = .ok (.istore_n 1, 1) := by decide +kernel
theorem dX8_round_89 : decode cX8_round 89 = .ok (.iconst 0, 1) := by decide +kernel
theorem dX8_round_90 : decode cX8_round 90 = .ok (.istore_n 2, 1) := by decide +kernel
theorem dX8_round_91 : decode cX8_round 91 = .ok (.iload_n 2, 1) := by decide +kernel
theorem dX8_round_92 : decode cX8_round 92 = .ok (.iconst 3, 1) := by decide +kernel
theorem dX8_round_93 : decode cX8_round 93 = .ok (.aload_n 0, 1) := by decide +kernel
theorem dX8_round_94 : decode cX8_round 94 = .ok (.getfield 104, 3) := by decide +kernel
theorem dX8_round_97 : decode cX8_round 97 = .ok (.imul, 1) := by decide +kernel
theorem dX8_round_98 : decode cX8_round 98 = .ok (.if_icmp .ge 107, 3) := by decide +kernel
theorem dX8_round_101 : decode cX8_round 101 = .ok (.aload_n 0, 1) := by decide +kernel
theorem dX8_round_102 : decode cX8_round 102 = .ok (.getfield 22, 3) := by decide +kernel
theorem dX8_round_105 : decode cX8_round 105 = .ok (.iload_n 2, 1) := by decide +kernel
theorem dX8_round_106 : decode cX8_round 106 = .ok (.baload, 1) := by decide +kernel
theorem dX8_round_107 : decode cX8_round 107 = .ok (.ifCond .ne 6, 3) := by decide +kernel
theorem dX8_round_110 : decode cX8_round 110 = .ok (.goto 89, 3) := by decide +kernel
theorem dX8_round_113 : decode cX8_round 113 = .ok (.iconst 0, 1) := by decide +kernel
theorem dX8_round_114 : decode cX8_round 114 = .ok (.istore_n 3, 1) := by decide +kernel
theorem dX8_round_115 : decode cX8_round 115 = .ok (.iload_n 3, 1) := by decide +kernel
theorem dX8_round_116 : decode cX8_round 116 = .ok (.bipush 24, 2) := by decide +kernel
theorem dX8_round_118 : decode cX8_round 118 = .ok (.if_icmp .ge 59, 3) := by decide +kernel
theorem dX8_round_121 : decode cX8_round 121 = .ok (.aload_n 0, 1) := by decide +kernel
theorem dX8_round_122 : decode cX8_round 122 = .ok (.getfield 13, 3) := by decide +kernel
theorem dX8_round_125 : decode cX8_round 125 = .ok (.bipush 24, 2) := by decide +kernel
theorem dX8_round_127 : decode cX8_round 127 = .ok (.iload_n 2, 1) := by decide +kernel
theorem dX8_round_128 : decode cX8_round 128 = .ok (.imul, 1) := by decide +kernel
theorem dX8_round_129 : decode cX8_round 129 = .ok (.iload_n 3, 1) := by decide +kernel
theorem dX8_round_130 : decode cX8_round 130 = .ok (.iadd, 1) := by decide +kernel
theorem dX8_round_131 : decode cX8_round 131 = .ok (.aload_n 0, 1) := by decide +kernel
theorem dX8_round_132 : decode cX8_round 132 = .ok (.getfield 13, 3) := by decide +kernel
theorem dX8_round_135 : decode cX8_round 135 = .ok (.bipush 24, 2) := by decide +kernel
theorem dX8_round_137 : decode cX8_round 137 = .ok (.iload_n 2, 1) := by decide +kernel
theorem dX8_round_138 : decode cX8_round 138 = .ok (.bipush 15, 2) := by decide +kernel
theorem dX8_round_140 : decode cX8_round 140 = .ok (.iadd, 1) := by decide +kernel
theorem dX8_round_141 : decode cX8_round 141 = .ok (.imul, 1) := by decide +kernel
theorem dX8_round_142 : decode cX8_round 142 = .ok (.iload_n 3, 1) := by decide +kernel
theorem dX8_round_143 : decode cX8_round 143 = .ok (.iadd, 1) := by decide +kernel
theorem dX8_round_144 : decode cX8_round 144 = .ok (.iaload, 1) := by decide +kernel
theorem dX8_round_145 : decode cX8_round 145 = .ok (.iastore, 1) := by decide +kernel
theorem dX8_round_146 : decode cX8_round 146 = .ok (.aload_n 0, 1) := by decide +kernel
theorem dX8_round_147 : decode cX8_round 147 = .ok (.getfield 16, 3) := by decide +kernel
theorem dX8_round_150 : decode cX8_round 150 = .ok (.bipush 24, 2) := by decide +kernel
theorem dX8_round_152 : decode cX8_round 152 = .ok (.iload_n 2, 1) := by decide +kernel
theorem dX8_round_153 : decode cX8_round 153 = .ok (.imul, 1) := by decide +kernel
theorem dX8_round_154 : decode cX8_round 154 = .ok (.iload_n 3, 1) := by decide +kernel
theorem dX8_round_155 : decode cX8_round 155 = .ok (.iadd, 1) := by decide +kernel
theorem dX8_round_156 : decode cX8_round 156 = .ok (.aload_n 0, 1) := by decide +kernel
theorem dX8_round_157 : decode cX8_round 157 = .ok (.getfield 16, 3) := by decide +kernel
theorem dX8_round_160 : decode cX8_round 160 = .ok (.bipush 24, 2) := by decide +kernel
theorem dX8_round_162 : decode cX8_round 162 = .ok (.iload_n 2, 1) := by decide +kernel
theorem dX8_round_163 : decode cX8_round 163 = .ok (.bipush 15, 2) := by decide +kernel
theorem dX8_round_165 : decode cX8_round 165 = .ok (.iadd, 1) := by decide +kernel
theorem dX8_round_166 : decode cX8_round 166 = .ok (.imul, 1) := by decide +kernel
theorem dX8_round_167 : decode cX8_round 167 = .ok (.iload_n 3, 1) := by decide +kernel
theorem dX8_round_168 : decode cX8_round 168 = .ok (.iadd, 1) := by decide +kernel
theorem dX8_round_169 : decode cX8_round 169 = .ok (.iaload, 1) := by decide +kernel
theorem dX8_round_170 : decode cX8_round 170 = .ok (.iastore, 1) := by decide +kernel
theorem dX8_round_171 : decode cX8_round 171 = .ok (.iinc 3 1, 3) := by decide +kernel
theorem dX8_round_174 : decode cX8_round 174 = .ok (.goto (-59), 3) := by decide +kernel
theorem dX8_round_177 : decode cX8_round 177 = .ok (.aload_n 0, 1) := by decide +kernel
theorem dX8_round_178 : decode cX8_round 178 = .ok (.getfield 19, 3) := by decide +kernel
theorem dX8_round_181 : decode cX8_round 181 = .ok (.iload_n 2, 1) := by decide +kernel
theorem dX8_round_182 : decode cX8_round 182 = .ok (.aload_n 0, 1) := by decide +kernel
theorem dX8_round_183 : decode cX8_round 183 = .ok (.getfield 19, 3) := by decide +kernel
theorem dX8_round_186 : decode cX8_round 186 = .ok (.iload_n 2, 1) := by decide +kernel
theorem dX8_round_187 : decode cX8_round 187 = .ok (.bipush 15, 2) := by decide +kernel
theorem dX8_round_189 : decode cX8_round 189 = .ok (.iadd, 1) := by decide +kernel
theorem dX8_round_190 : decode cX8_round 190 = .ok (.iaload, 1) := by decide +kernel
theorem dX8_round_191 : decode cX8_round 191 = .ok (.iastore, 1) := by decide +kernel
theorem dX8_round_192 : decode cX8_round 192 = .ok (.aload_n 0, 1) := by decide +kernel
theorem dX8_round_193 : decode cX8_round 193 = .ok (.getfield 22, 3) := by decide +kernel
theorem dX8_round_196 : decode cX8_round 196 = .ok (.iload_n 2, 1) := by decide +kernel
theorem dX8_round_197 : decode cX8_round 197 = .ok (.iconst 0, 1) := by decide +kernel
theorem dX8_round_198 : decode cX8_round 198 = .ok (.bastore, 1) := by decide +kernel
theorem dX8_round_199 : decode cX8_round 199 = .ok (.iinc 2 1, 3) := by decide +kernel
theorem dX8_round_202 : decode cX8_round 202 = .ok (.goto (-111), 3) := by decide +kernel
theorem dX8_round_205 : decode cX8_round 205 = .ok (.iconst 0, 1) := by decide +kernel
theorem dX8_round_206 : decode cX8_round 206 = .ok (.istore_n 2, 1) := by decide +kernel
theorem dX8_round_207 : decode cX8_round 207 = .ok (.iload_n 2, 1) := by decide +kernel
theorem dX8_round_208 : decode cX8_round 208 = .ok (.iconst 3, 1) := by decide +kernel
theorem dX8_round_209 : decode cX8_round 209 = .ok (.aload_n 0, 1) := by decide +kernel
theorem dX8_round_210 : decode cX8_round 210 = .ok (.getfield 104, 3) := by decide +kernel
theorem dX8_round_213 : decode cX8_round 213 = .ok (.imul, 1) := by decide +kernel
theorem dX8_round_214 : decode cX8_round 214 = .ok (.if_icmp .ge 64, 3) := by decide +kernel
theorem dX8_round_217 : decode cX8_round 217 = .ok (.aload_n 0, 1) := by decide +kernel
theorem dX8_round_218 : decode cX8_round 218 = .ok (.aload_n 0, 1) := by decide +kernel
theorem dX8_round_219 : decode cX8_round 219 = .ok (.getfield 118, 3) := by decide +kernel
theorem dX8_round_222 : decode cX8_round 222 = .ok (.iload_n 2, 1) := by decide +kernel
theorem dX8_round_223 : decode cX8_round 223 = .ok (.invokevirtual 222, 3) := by decide +kernel
theorem dX8_round_226 : decode cX8_round 226 = .ok (.istore_n 3, 1) := by decide +kernel
theorem dX8_round_227 : decode cX8_round 227 = .ok (.aload_n 0, 1) := by decide +kernel
theorem dX8_round_228 : decode cX8_round 228 = .ok (.getfield 71, 3) := by decide +kernel
theorem dX8_round_231 : decode cX8_round 231 = .ok (.bipush 15, 2) := by decide +kernel
theorem dX8_round_233 : decode cX8_round 233 = .ok (.aload_n 0, 1) := by decide +kernel
theorem dX8_round_234 : decode cX8_round 234 = .ok (.getfield 118, 3) := by decide +kernel
theorem dX8_round_237 : decode cX8_round 237 = .ok (.imul, 1) := by decide +kernel
theorem dX8_round_238 : decode cX8_round 238 = .ok (.iload_n 2, 1) := by decide +kernel
theorem dX8_round_239 : decode cX8_round 239 = .ok (.iadd, 1) := by decide +kernel
theorem dX8_round_240 : decode cX8_round 240 = .ok (.iload_n 3, 1) := by decide +kernel
theorem dX8_round_241 : decode cX8_round 241 = .ok (.bastore, 1) := by decide +kernel
theorem dX8_round_242 : decode cX8_round 242 = .ok (.aload_n 0, 1) := by decide +kernel
theorem dX8_round_243 : decode cX8_round 243 = .ok (.getfield 44, 3) := by decide +kernel
theorem dX8_round_246 : decode cX8_round 246 = .ok (.iload_n 2, 1) := by decide +kernel
theorem dX8_round_247 : decode cX8_round 247 = .ok (.dup2, 1) := by decide +kernel
theorem dX8_round_248 : decode cX8_round 248 = .ok (.iaload, 1) := by decide +kernel
theorem dX8_round_249 : decode cX8_round 249 = .ok (.iload_n 3, 1) := by decide +kernel
theorem dX8_round_250 : decode cX8_round 250 = .ok (.ifCond .eq 7, 3) := by decide +kernel
theorem dX8_round_253 : decode cX8_round 253 = .ok (.iconst 1, 1) := by decide +kernel
theorem dX8_round_254 : decode cX8_round 254 = .ok (.goto 4, 3) := by decide +kernel
theorem dX8_round_257 : decode cX8_round 257 = .ok (.iconst 0, 1) := by decide +kernel
theorem dX8_round_258 : decode cX8_round 258 = .ok (.iadd, 1) := by decide +kernel
theorem dX8_round_259 : decode cX8_round 259 = .ok (.iastore, 1) := by decide +kernel
theorem dX8_round_260 : decode cX8_round 260 = .ok (.iload_n 1, 1) := by decide +kernel
theorem dX8_round_261 : decode cX8_round 261 = .ok (.iload_n 3, 1) := by decide +kernel
theorem dX8_round_262 : decode cX8_round 262 = .ok (.ifCond .eq 7, 3) := by decide +kernel
theorem dX8_round_265 : decode cX8_round 265 = .ok (.iconst 1, 1) := by decide +kernel
theorem dX8_round_266 : decode cX8_round 266 = .ok (.goto 4, 3) := by decide +kernel
theorem dX8_round_269 : decode cX8_round 269 = .ok (.iconst 0, 1) := by decide +kernel
theorem dX8_round_270 : decode cX8_round 270 = .ok (.iadd, 1) := by decide +kernel
theorem dX8_round_271 : decode cX8_round 271 = .ok (.istore_n 1, 1) := by decide +kernel
theorem dX8_round_272 : decode cX8_round 272 = .ok (.iinc 2 1, 3) := by decide +kernel
theorem dX8_round_275 : decode cX8_round 275 = .ok (.goto (-68), 3) := by decide +kernel
theorem dX8_round_278 : decode cX8_round 278 = .ok (.aload_n 0, 1) := by decide +kernel
theorem dX8_round_279 : decode cX8_round 279 = .ok (.dup, 1) := by decide +kernel
theorem dX8_round_280 : decode cX8_round 280 = .ok (.getfield 118, 3) := by decide +kernel
theorem dX8_round_283 : decode cX8_round 283 = .ok (.iconst 1, 1) := by decide +kernel
theorem dX8_round_284 : decode cX8_round 284 = .ok (.iadd, 1) := by decide +kernel
theorem dX8_round_285 : decode cX8_round 285 = .ok (.putfield 118, 3) := by decide +kernel
theorem dX8_round_288 : decode cX8_round 288 = .ok (.iload_n 1, 1) := by decide +kernel
theorem dX8_round_289 : decode cX8_round 289 = .ok (.ireturn, 1) := by decide +kernel
set_option maxRecDepth 20000 in
theorem ggX8_up_X8_isPlace : GoodIn wsX8_up wsX8_isPlace := goodIn_r _ [7, 8, 9, 10, 11, 6, 12, 13, 14, 15, 16, 17, 18, 19, 20, 21, 22, 23, 24, 25, 26, 27, 28, 29, 30, 31, 32, 33, 34, 35, 36, 37, 38, 39, 40, 41, 42, 43, 44, 45, 46, 47, 48, 49, 50, 51, 52, 53, 54, 55, 56, 57, 58, 59] (by decide +kernel) (by decide +kernel)
set_option maxRecDepth 20000 in
theorem gX8_up_X8_isPlace : GoodIn wsX8_up (wsV RX8 149 RX8 yX8_isPlace wsX8_isPlace) := goodIn_app (goodIn_of _ (by decide +kernel)) ggX8_up_X8_isPlace
set_option maxRecDepth 20000 in
theorem ggX8_up_X8_isIn : GoodIn wsX8_up wsX8_isIn := goodIn_r _ [16] (by decide +kernel) (by decide +kernel)
set_option maxRecDepth 20000 in
theorem gX8_up_X8_isIn : GoodIn wsX8_up (va_wsS RX8 114 yX8_isIn wsX8_isIn) := goodIn_app (goodIn_of _ (by decide +kernel)) ggX8_up_X8_isIn
theorem dX8_up_0 : decode cX8_up 0 = .ok (.aload_n 0, 1) := by decide +kernel
theorem dX8_up_1 : decode cX8_up 1 = .ok (.iload_n 1, 1) := by decide +kernel
theorem dX8_up_2 : decode cX8_up 2 = .ok (.iload_n 2, 1) := by decide +kernel
theorem dX8_up_3 : decode cX8_up 3 = .ok (.invokevirtual 149, 3) := by decide +kernel
theorem dX8_up_6 : decode cX8_up 6 = .ok (.ifCond .eq 45, 3) := by decide +kernel
theorem dX8_up_9 : decode cX8_up 9 = .ok (.iload_n 3, 1) := by decide +kernel
theorem dX8_up_10 : decode cX8_up 10 = .ok (.i2l, 1) := by decide +kernel
theorem dX8_up_11 : decode cX8_up 11 = .ok (.lconst 0, 1) := by decide +kernel
theorem dX8_up_12 : decode cX8_up 12 = .ok (.aload_n 0, 1) := by decide +kernel
theorem dX8_up_13 : decode cX8_up 13 = .ok (.getfield 118, 3) := by decide +kernel
theorem dX8_up_16 : decode cX8_up 16 = .ok (.iconst 1, 1) := by decide +kernel
theorem dX8_up_17 : decode cX8_up 17 = .ok (.isub, 1) := by decide +kernel
theorem dX8_up_18 : decode cX8_up 18 = .ok (.i2l, 1) := by decide +kernel
theorem dX8_up_19 : decode cX8_up 19 = .ok (.invokestatic 114, 3) := by decide +kernel
theorem dX8_up_22 : decode cX8_up 22 = .ok (.ifCond .eq 29, 3) := by decide +kernel
theorem dX8_up_25 : decode cX8_up 25 = .ok (.aload_n 0, 1) := by decide +kernel
theorem dX8_up_26 : decode cX8_up 26 = .ok (.getfield 71, 3) := by decide +kernel
theorem dX8_up_29 : decode cX8_up 29 = .ok (.bipush 15, 2) := by decide +kernel
theorem dX8_up_31 : decode cX8_up 31 = .ok (.iload_n 3, 1) := by decide +kernel
theorem dX8_up_32 : decode cX8_up 32 = .ok (.imul, 1) := by decide +kernel
theorem dX8_up_33 : decode cX8_up 33 = .ok (.iconst 3, 1) := by decide +kernel
theorem dX8_up_34 : decode cX8_up 34 = .ok (.iload_n 1, 1) := by decide +kernel
theorem dX8_up_35 : decode cX8_up 35 = .ok (.imul, 1) := by decide +kernel
theorem dX8_up_36 : decode cX8_up 36 = .ok (.iadd, 1) := by decide +kernel
theorem dX8_up_37 : decode cX8_up 37 = .ok (.iload_n 2, 1) := by decide +kernel
theorem dX8_up_38 : decode cX8_up 38 = .ok (.iadd, 1) := by decide +kernel
theorem dX8_up_39 : decode cX8_up 39 = .ok (.baload, 1) := by decide +kernel
theorem dX8_up_40 : decode cX8_up 40 = .ok (.ifCond .eq 7, 3) := by decide +kernel
theorem dX8_up_43 : decode cX8_up 43 = .ok (.iconst 1, 1) := by decide +kernel
theorem dX8_up_44 : decode cX8_up 44 = .ok (.goto 8, 3) := by decide +kernel
theorem dX8_up_47 : decode cX8_up 47 = .ok (.iconst 0, 1) := by decide +kernel
theorem dX8_up_48 : decode cX8_up 48 = .ok (.goto 4, 3) := by decide +kernel
theorem dX8_up_51 : decode cX8_up 51 = .ok (.iconst (-1), 1) := by decide +kernel
theorem dX8_up_52 : decode cX8_up 52 = .ok (.ireturn, 1) := by decide +kernel
set_option maxRecDepth 20000 in
theorem ggX8_check_X8_isPlace : GoodIn wsX8_check wsX8_isPlace := goodIn_r _ [11, 1, 12, 13, 14, 10, 15, 16, 17, 18, 19, 20, 21, 22, 23, 24, 25, 26, 27, 28, 29, 30, 31, 32, 33, 34, 35, 36, 37, 38, 39, 40, 41, 42, 43, 44, 45, 46, 47, 48, 49, 50, 51, 52, 53, 54, 55, 56, 57, 58, 59, 60, 61, 62] (by decide +kernel) (by decide +kernel)
set_option maxRecDepth 20000 in
theorem gX8_check_X8_isPlace : GoodIn wsX8_check (wsV RX8 149 RX8 yX8_isPlace wsX8_isPlace) := goodIn_app (goodIn_of _ (by decide +kernel)) ggX8_check_X8_isPlace
set_option maxRecDepth 20000 in
theorem ggX8_check_X8_isIn : GoodIn wsX8_check wsX8_isIn := goodIn_r _ [19] (by decide +kernel) (by decide +kernel)
set_option maxRecDepth 20000 in
theorem gX8_check_X8_isIn : GoodIn wsX8_check (va_wsS RX8 114 yX8_isIn wsX8_isIn) := goodIn_app (goodIn_of _ (by decide +kernel)) ggX8_check_X8_isIn
theorem dX8_check_0 : decode cX8_check 0 = .ok (.aload_n 0, 1) := by decide +kernel
theorem dX8_check_1 : decode cX8_check 1 = .ok (.iload_n 1, 1) := by decide +kernel
theorem dX8_check_2 : decode cX8_check 2 = .ok (.iload_n 2, 1) := by decide +kernel
theorem dX8_check_3 : decode cX8_check 3 = .ok (.invokevirtual 149, 3) := by decide +kernel
theorem dX8_check_6 : decode cX8_check 6 = .ok (.ifCond .eq 22, 3) := by decide +kernel
theorem dX8_check_9 : decode cX8_check 9 = .ok (.iload_n 3, 1) := by decide +kernel
theorem dX8_check_10 : decode cX8_check 10 = .ok (.i2l, 1) := by decide +kernel
theorem dX8_check_11 : decode cX8_check 11 = .ok (.lconst 0, 1) := by decide +kernel
theorem dX8_check_12 : decode cX8_check 12 = .ok (.ldc2_w 112, 3) := by decide +kernel
theorem dX8_check_15 : decode cX8_check 15 = .ok (.invokestatic 114, 3) := by decide +kernel
theorem dX8_check_18 : decode cX8_check 18 = .ok (.ifCond .eq 10, 3) := by decide +kernel
theorem dX8_check_21 : decode cX8_check 21 = .ok (.aload_n 0, 1) := by decide +kernel
theorem dX8_check_22 : decode cX8_check 22 = .ok (.getfield 118, 3) := by decide +kernel
theorem dX8_check_25 : decode cX8_check 25 = .ok (.ifCond .ne 5, 3) := by decide +kernel
theorem dX8_check_28 : decode cX8_check 28 = .ok (.iconst (-1), 1) := by decide +kernel
theorem dX8_check_29 : decode cX8_check 29 = .ok (.ireturn, 1) := by decide +kernel
theorem dX8_check_30 : decode cX8_check 30 = .ok (.iconst 3, 1) := by decide +kernel
theorem dX8_check_31 : decode cX8_check 31 = .ok (.iconst 3, 1) := by decide +kernel
theorem dX8_check_32 : decode cX8_check 32 = .ok (.iload_n 1, 1) := by decide +kernel
theorem dX8_check_33 : decode cX8_check 33 = .ok (.imul, 1) := by decide +kernel
theorem dX8_check_34 : decode cX8_check 34 = .ok (.iload_n 2, 1) := by decide +kernel
theorem dX8_check_35 : decode cX8_check 35 = .ok (.iadd, 1) := by decide +kernel
theorem dX8_check_36 : decode cX8_check 36 = .ok (.imul, 1) := by decide +kernel
theorem dX8_check_37 : decode cX8_check 37 = .ok (.iload_n 3, 1) := by decide +kernel
theorem dX8_check_38 : decode cX8_check 38 = .ok (.iadd, 1) := by decide +kernel
theorem dX8_check_39 : decode cX8_check 39 = .ok (.istore 5, 2) := by decide +kernel
theorem dX8_check_41 : decode cX8_check 41 = .ok (.iload 4, 2) := by decide +kernel
theorem dX8_check_43 : decode cX8_check 43 = .ok (.tableswitch 61 0 3 #[29, 37, 45, 53], 29) := by decide +kernel
theorem dX8_check_72 : decode cX8_check 72 = .ok (.aload_n 0, 1) := by decide +kernel
theorem dX8_check_73 : decode cX8_check 73 = .ok (.getfield 74, 3) := by decide +kernel
theorem dX8_check_76 : decode cX8_check 76 = .ok (.iload 5, 2) := by decide +kernel
theorem dX8_check_78 : decode cX8_check 78 = .ok (.iaload, 1) := by decide +kernel
theorem dX8_check_79 : decode cX8_check 79 = .ok (.ireturn, 1) := by decide +kernel
theorem dX8_check_80 : decode cX8_check 80 = .ok (.aload_n 0, 1) := by decide +kernel
theorem dX8_check_81 : decode cX8_check 81 = .ok (.getfield 77, 3) := by decide +kernel
theorem dX8_check_84 : decode cX8_check 84 = .ok (.iload 5, 2) := by decide +kernel
theorem dX8_check_86 : decode cX8_check 86 = .ok (.iaload, 1) := by decide +kernel
theorem dX8_check_87 : decode cX8_check 87 = .ok (.ireturn, 1) := by decide +kernel
theorem dX8_check_88 : decode cX8_check 88 = .ok (.aload_n 0, 1) := by decide +kernel
theorem dX8_check_89 : decode cX8_check 89 = .ok (.getfield 80, 3) := by decide +kernel
theorem dX8_check_92 : decode cX8_check 92 = .ok (.iload 5, 2) := by decide +kernel
theorem dX8_check_94 : decode cX8_check 94 = .ok (.iaload, 1) := by decide +kernel
theorem dX8_check_95 : decode cX8_check 95 = .ok (.ireturn, 1) := by decide +kernel
theorem dX8_check_96 : decode cX8_check 96 = .ok (.aload_n 0, 1) := by decide +kernel
theorem dX8_check_97 : decode cX8_check 97 = .ok (.getfield 83, 3) := by decide +kernel
theorem dX8_check_100 : decode cX8_check 100 = .ok (.iload 5, 2) := by decide +kernel
theorem dX8_check_102 : decode cX8_check 102 = .ok (.iaload, 1) := by decide +kernel
theorem dX8_check_103 : decode cX8_check 103 = .ok (.ireturn, 1) := by decide +kernel
theorem dX8_check_104 : decode cX8_check 104 = .ok (.iconst (-1), 1) := by decide +kernel
theorem dX8_check_105 : decode cX8_check 105 = .ok (.ireturn, 1) := by decide +kernel
set_option maxRecDepth 20000 in
theorem ggX8_flag_X8_isPlace : GoodIn wsX8_flag wsX8_isPlace := goodIn_r _ [6, 7, 8, 9, 10, 5, 11, 12, 13, 14, 15, 25, 26, 27, 28, 29, 30, 31, 32, 33, 34, 35, 36, 37, 38, 39, 40, 41, 42, 43, 44, 45, 46, 47, 48, 49, 50, 51, 52, 53, 54, 55, 56, 57, 58, 59, 60, 61, 62, 63, 64, 65, 66, 67] (by decide +kernel) (by decide +kernel)
set_option maxRecDepth 20000 in
theorem gX8_flag_X8_isPlace : GoodIn wsX8_flag (wsV RX8 149 RX8 yX8_isPlace wsX8_isPlace) := goodIn_app (goodIn_of _ (by decide +kernel)) ggX8_flag_X8_isPlace
set_option maxRecDepth 20000 in
theorem ggX8_flag_X8_isIn : GoodIn wsX8_flag wsX8_isIn := goodIn_r _ [15] (by decide +kernel) (by decide +kernel)
set_option maxRecDepth 20000 in
theorem gX8_flag_X8_isIn : GoodIn wsX8_flag (va_wsS RX8 114 yX8_isIn wsX8_isIn) := goodIn_app (goodIn_of _ (by decide +kernel)) ggX8_flag_X8_isIn
set_option maxRecDepth 20000 in
theorem ggX8_flag_X8_flagOf : GoodIn wsX8_flag wsX8_flagOf := goodIn_r _ [19, 20, 21, 22, 5, 23, 24, 25, 26, 27, 28, 29, 30, 31, 32, 33, 34, 35, 36, 37, 38, 39, 40, 41, 42, 43, 44, 45, 46, 47, 48, 49, 50, 51, 52, 53, 54, 55, 56, 57, 58, 59, 60, 61, 62, 63, 64, 65, 66, 67] (by decide +kernel) (by decide +kernel)
set_option maxRecDepth 20000 in
theorem gX8_flag_X8_flagOf : GoodIn wsX8_flag (wsV RX8 216 RX8 yX8_flagOf wsX8_flagOf) := goodIn_app (goodIn_of _ (by decide +kernel)) ggX8_flag_X8_flagOf
theorem dX8_flag_0 : decode cX8_flag 0 = .ok (.aload_n 0, 1) := by decide +kernel
theorem dX8_flag_1 : decode cX8_flag 1 = .ok (.iload_n 1, 1) := by decide +kernel
theorem dX8_flag_2 : decode cX8_flag 2 = .ok (.iload_n 2, 1) := by decide +kernel
theorem dX8_flag_3 : decode cX8_flag 3 = .ok (.invokevirtual 149, 3) := by decide +kernel
theorem dX8_flag_6 : decode cX8_flag 6 = .ok (.ifCond .eq 32, 3) := by decide +kernel
theorem dX8_flag_9 : decode cX8_flag 9 = .ok (.iload_n 3, 1) := by decide +kernel
theorem dX8_flag_10 : decode cX8_flag 10 = .ok (.i2l, 1) := by decide +kernel
theorem dX8_flag_11 : decode cX8_flag 11 = .ok (.lconst 0, 1) := by decide +kernel
theorem dX8_flag_12 : decode cX8_flag 12 = .ok (.aload_n 0, 1) := by decide +kernel
theorem dX8_flag_13 : decode cX8_flag 13 = .ok (.getfield 118, 3) := by decide +kernel
theorem dX8_flag_16 : decode cX8_flag 16 = .ok (.iconst 1, 1) := by decide +kernel
theorem dX8_flag_17 : decode cX8_flag 17 = .ok (.isub, 1) := by decide +kernel
theorem dX8_flag_18 : decode cX8_flag 18 = .ok (.i2l, 1) := by decide +kernel
theorem dX8_flag_19 : decode cX8_flag 19 = .ok (.invokestatic 114, 3) := by decide +kernel
theorem dX8_flag_22 : decode cX8_flag 22 = .ok (.ifCond .eq 16, 3) := by decide +kernel
theorem dX8_flag_25 : decode cX8_flag 25 = .ok (.aload_n 0, 1) := by decide +kernel
theorem dX8_flag_26 : decode cX8_flag 26 = .ok (.iload_n 3, 1) := by decide +kernel
theorem dX8_flag_27 : decode cX8_flag 27 = .ok (.iconst 3, 1) := by decide +kernel
theorem dX8_flag_28 : decode cX8_flag 28 = .ok (.iload_n 1, 1) := by decide +kernel
theorem dX8_flag_29 : decode cX8_flag 29 = .ok (.imul, 1) := by decide +kernel
theorem dX8_flag_30 : decode cX8_flag 30 = .ok (.iload_n 2, 1) := by decide +kernel
theorem dX8_flag_31 : decode cX8_flag 31 = .ok (.iadd, 1) := by decide +kernel
theorem dX8_flag_32 : decode cX8_flag 32 = .ok (.invokevirtual 216, 3) := by decide +kernel
theorem dX8_flag_35 : decode cX8_flag 35 = .ok (.goto 4, 3) := by decide +kernel
theorem dX8_flag_38 : decode cX8_flag 38 = .ok (.iconst (-1), 1) := by decide +kernel
theorem dX8_flag_39 : decode cX8_flag 39 = .ok (.ireturn, 1) := by decide +kernel
theorem dX8_handed_0 : decode cX8_handed 0 = .ok (.aload_n 0, 1) := by decide +kernel
theorem dX8_handed_1 : decode cX8_handed 1 = .ok (.getfield 89, 3) := by decide +kernel
theorem dX8_handed_4 : decode cX8_handed 4 = .ok (.bipush 75, 2) := by decide +kernel
theorem dX8_handed_6 : decode cX8_handed 6 = .ok (.iload_n 1, 1) := by decide +kernel
theorem dX8_handed_7 : decode cX8_handed 7 = .ok (.imul, 1) := by decide +kernel
theorem dX8_handed_8 : decode cX8_handed 8 = .ok (.iconst 5, 1) := by decide +kernel
theorem dX8_handed_9 : decode cX8_handed 9 = .ok (.iload_n 2, 1) := by decide +kernel
theorem dX8_handed_10 : decode cX8_handed 10 = .ok (.imul, 1) := by decide +kernel
theorem dX8_handed_11 : decode cX8_handed 11 = .ok (.iadd, 1) := by decide +kernel
theorem dX8_handed_12 : decode cX8_handed 12 = .ok (.iload_n 3, 1) := by decide +kernel
theorem dX8_handed_13 : decode cX8_handed 13 = .ok (.iadd, 1) := by decide +kernel
theorem dX8_handed_14 : decode cX8_handed 14 = .ok (.iaload, 1) := by decide +kernel
theorem dX8_handed_15 : decode cX8_handed 15 = .ok (.iconst 1, 1) := by decide +kernel
theorem dX8_handed_16 : decode cX8_handed 16 = .ok (.isub, 1) := by decide +kernel
theorem dX8_handed_17 : decode cX8_handed 17 = .ok (.ireturn, 1) := by decide +kernel
set_option maxRecDepth 20000 in
theorem ggX8_hand_X8_isTeam : GoodIn wsX8_hand wsX8_isTeam := goodIn_r _ [10, 11, 32, 33, 34, 35, 36, 37, 38, 39, 40, 41, 42, 43, 44, 45, 46, 47, 48, 49, 50, 51, 52, 53, 54, 55, 56, 57, 58, 59, 60, 61, 62, 63, 64, 65, 66, 67, 68, 69, 70, 71, 72, 73, 74] (by decide +kernel) (by decide +kernel)
set_option maxRecDepth 20000 in
theorem gX8_hand_X8_isTeam : GoodIn wsX8_hand (wsV RX8 108 RX8 yX8_isTeam wsX8_isTeam) := goodIn_app (goodIn_of _ (by decide +kernel)) ggX8_hand_X8_isTeam
set_option maxRecDepth 20000 in
theorem ggX8_hand_X8_isPlace : GoodIn wsX8_hand wsX8_isPlace := goodIn_r _ [15, 16, 6, 7, 8, 9, 10, 11, 17, 18, 19, 32, 33, 34, 35, 36, 37, 38, 39, 40, 41, 42, 43, 44, 45, 46, 47, 48, 49, 50, 51, 52, 53, 54, 55, 56, 57, 58, 59, 60, 61, 62, 63, 64, 65, 66, 67, 68, 69, 70, 71, 72, 73, 74] (by decide +kernel) (by decide +kernel)
set_option maxRecDepth 20000 in
theorem gX8_hand_X8_isPlace : GoodIn wsX8_hand (wsV RX8 149 RX8 yX8_isPlace wsX8_isPlace) := goodIn_app (goodIn_of _ (by decide +kernel)) ggX8_hand_X8_isPlace
set_option maxRecDepth 20000 in
theorem ggX8_hand_X8_isIn : GoodIn wsX8_hand wsX8_isIn := goodIn_r _ [19] (by decide +kernel) (by decide +kernel)
set_option maxRecDepth 20000 in
theorem gX8_hand_X8_isIn : GoodIn wsX8_hand (va_wsS RX8 114 yX8_isIn wsX8_isIn) := goodIn_app (goodIn_of _ (by decide +kernel)) ggX8_hand_X8_isIn
set_option maxRecDepth 20000 in
theorem ggX8_hand_X8_flagOf : GoodIn wsX8_hand wsX8_flagOf := goodIn_r _ [23, 24, 25, 26, 9, 27, 3, 32, 33, 34, 35, 36, 37, 38, 39, 40, 41, 42, 43, 44, 45, 46, 47, 48, 49, 50, 51, 52, 53, 54, 55, 56, 57, 58, 59, 60, 61, 62, 63, 64, 65, 66, 67, 68, 69, 70, 71, 72, 73, 74] (by decide +kernel) (by decide +kernel)
set_option maxRecDepth 20000 in
theorem gX8_hand_X8_flagOf : GoodIn wsX8_hand (wsV RX8 216 RX8 yX8_flagOf wsX8_flagOf) := goodIn_app (goodIn_of _ (by decide +kernel)) ggX8_hand_X8_flagOf
set_option maxRecDepth 20000 in
theorem ggX8_hand_X8_handed : GoodIn wsX8_hand wsX8_handed := goodIn_r _ [31, 4, 32, 33, 34, 35, 36, 37, 38, 39, 40, 41, 42, 43, 44, 45, 46, 47, 48, 49, 50, 51, 52, 53, 54, 55, 56, 57, 58, 59, 60, 61, 62, 63, 64, 65, 66, 67, 68, 69, 70, 71, 72, 73, 74] (by decide +kernel) (by decide +kernel)
set_option maxRecDepth 20000 in
theorem gX8_hand_X8_handed : GoodIn wsX8_hand (wsV RX8 225 RX8 yX8_handed wsX8_handed) := goodIn_app (goodIn_of _ (by decide +kernel)) ggX8_hand_X8_handed
theorem dX8_hand_0 : decode cX8_hand 0 = .ok (.aload_n 0, 1) := by decide +kernel
theorem dX8_hand_1 : decode cX8_hand 1 = .ok (.iload_n 1, 1) := by decide +kernel
theorem dX8_hand_2 : decode cX8_hand 2 = .ok (.invokevirtual 108, 3) := by decide +kernel
theorem dX8_hand_5 : decode cX8_hand 5 = .ok (.ifCond .eq 12, 3) := by decide +kernel
theorem dX8_hand_8 : decode cX8_hand 8 = .ok (.aload_n 0, 1) := by decide +kernel
theorem dX8_hand_9 : decode cX8_hand 9 = .ok (.iload_n 2, 1) := by decide +kernel
theorem dX8_hand_10 : decode cX8_hand 10 = .ok (.iload_n 3, 1) := by decide +kernel
theorem dX8_hand_11 : decode cX8_hand 11 = .ok (.invokevirtual 149, 3) := by decide +kernel
theorem dX8_hand_14 : decode cX8_hand 14 = .ok (.ifCond .ne 5, 3) := by decide +kernel
theorem dX8_hand_17 : decode cX8_hand 17 = .ok (.iconst (-1), 1) := by decide +kernel
theorem dX8_hand_18 : decode cX8_hand 18 = .ok (.ireturn, 1) := by decide +kernel
theorem dX8_hand_19 : decode cX8_hand 19 = .ok (.iload 4, 2) := by decide +kernel
theorem dX8_hand_21 : decode cX8_hand 21 = .ok (.i2l, 1) := by decide +kernel
theorem dX8_hand_22 : decode cX8_hand 22 = .ok (.lconst 0, 1) := by decide +kernel
theorem dX8_hand_23 : decode cX8_hand 23 = .ok (.ldc2_w 166, 3) := by decide +kernel
theorem dX8_hand_26 : decode cX8_hand 26 = .ok (.invokestatic 114, 3) := by decide +kernel
theorem dX8_hand_29 : decode cX8_hand 29 = .ok (.ifCond .eq 8, 3) := by decide +kernel
theorem dX8_hand_32 : decode cX8_hand 32 = .ok (.iload_n 1, 1) := by decide +kernel
theorem dX8_hand_33 : decode cX8_hand 33 = .ok (.iload_n 2, 1) := by decide +kernel
theorem dX8_hand_34 : decode cX8_hand 34 = .ok (.if_icmp .ne 6, 3) := by decide +kernel
theorem dX8_hand_37 : decode cX8_hand 37 = .ok (.bipush (-2), 2) := by decide +kernel
theorem dX8_hand_39 : decode cX8_hand 39 = .ok (.ireturn, 1) := by decide +kernel
theorem dX8_hand_40 : decode cX8_hand 40 = .ok (.iconst 3, 1) := by decide +kernel
theorem dX8_hand_41 : decode cX8_hand 41 = .ok (.iload_n 2, 1) := by decide +kernel
theorem dX8_hand_42 : decode cX8_hand 42 = .ok (.imul, 1) := by decide +kernel
theorem dX8_hand_43 : decode cX8_hand 43 = .ok (.iload_n 3, 1) := by decide +kernel
theorem dX8_hand_44 : decode cX8_hand 44 = .ok (.iadd, 1) := by decide +kernel
theorem dX8_hand_45 : decode cX8_hand 45 = .ok (.istore 5, 2) := by decide +kernel
theorem dX8_hand_47 : decode cX8_hand 47 = .ok (.aload_n 0, 1) := by decide +kernel
theorem dX8_hand_48 : decode cX8_hand 48 = .ok (.getfield 118, 3) := by decide +kernel
theorem dX8_hand_51 : decode cX8_hand 51 = .ok (.iconst 1, 1) := by decide +kernel
theorem dX8_hand_52 : decode cX8_hand 52 = .ok (.isub, 1) := by decide +kernel
theorem dX8_hand_53 : decode cX8_hand 53 = .ok (.istore 6, 2) := by decide +kernel
theorem dX8_hand_55 : decode cX8_hand 55 = .ok (.iload 6, 2) := by decide +kernel
theorem dX8_hand_57 : decode cX8_hand 57 = .ok (.ifCond .lt 87, 3) := by decide +kernel
theorem dX8_hand_60 : decode cX8_hand 60 = .ok (.iload 6, 2) := by decide +kernel
theorem dX8_hand_62 : decode cX8_hand 62 = .ok (.aload_n 0, 1) := by decide +kernel
theorem dX8_hand_63 : decode cX8_hand 63 = .ok (.getfield 118, 3) := by decide +kernel
theorem dX8_hand_66 : decode cX8_hand 66 = .ok (.aload_n 0, 1) := by decide +kernel
theorem dX8_hand_67 : decode cX8_hand 67 = .ok (.getfield 47, 3) := by decide +kernel
theorem dX8_hand_70 : decode cX8_hand 70 = .ok (.iconst 2, 1) := by decide +kernel
theorem dX8_hand_71 : decode cX8_hand 71 = .ok (.iaload, 1) := by decide +kernel
theorem dX8_hand_72 : decode cX8_hand 72 = .ok (.isub, 1) := by decide +kernel
theorem dX8_hand_73 : decode cX8_hand 73 = .ok (.if_icmp .lt 71, 3) := by decide +kernel
theorem dX8_hand_76 : decode cX8_hand 76 = .ok (.aload_n 0, 1) := by decide +kernel
theorem dX8_hand_77 : decode cX8_hand 77 = .ok (.iload 6, 2) := by decide +kernel
theorem dX8_hand_79 : decode cX8_hand 79 = .ok (.iload 5, 2) := by decide +kernel
theorem dX8_hand_81 : decode cX8_hand 81 = .ok (.invokevirtual 216, 3) := by decide +kernel
theorem dX8_hand_84 : decode cX8_hand 84 = .ok (.iload 4, 2) := by decide +kernel
theorem dX8_hand_86 : decode cX8_hand 86 = .ok (.if_icmp .ne 52, 3) := by decide +kernel
theorem dX8_hand_89 : decode cX8_hand 89 = .ok (.aload_n 0, 1) := by decide +kernel
theorem dX8_hand_90 : decode cX8_hand 90 = .ok (.iload 6, 2) := by decide +kernel
theorem dX8_hand_92 : decode cX8_hand 92 = .ok (.iload 5, 2) := by decide +kernel
theorem dX8_hand_94 : decode cX8_hand 94 = .ok (.iload_n 1, 1) := by decide +kernel
theorem dX8_hand_95 : decode cX8_hand 95 = .ok (.invokevirtual 225, 3) := by decide +kernel
theorem dX8_hand_98 : decode cX8_hand 98 = .ok (.ifCond .lt 6, 3) := by decide +kernel
theorem dX8_hand_101 : decode cX8_hand 101 = .ok (.goto 37, 3) := by decide +kernel
theorem dX8_hand_104 : decode cX8_hand 104 = .ok (.aload_n 0, 1) := by decide +kernel
theorem dX8_hand_105 : decode cX8_hand 105 = .ok (.getfield 89, 3) := by decide +kernel
theorem dX8_hand_108 : decode cX8_hand 108 = .ok (.bipush 75, 2) := by decide +kernel
theorem dX8_hand_110 : decode cX8_hand 110 = .ok (.iload 6, 2) := by decide +kernel
theorem dX8_hand_112 : decode cX8_hand 112 = .ok (.imul, 1) := by decide +kernel
theorem dX8_hand_113 : decode cX8_hand 113 = .ok (.iconst 5, 1) := by decide +kernel
theorem dX8_hand_114 : decode cX8_hand 114 = .ok (.iload 5, 2) := by decide +kernel
theorem dX8_hand_116 : decode cX8_hand 116 = .ok (.imul, 1) := by decide +kernel
theorem dX8_hand_117 : decode cX8_hand 117 = .ok (.iadd, 1) := by decide +kernel
theorem dX8_hand_118 : decode cX8_hand 118 = .ok (.iload_n 1, 1) := by decide +kernel
theorem dX8_hand_119 : decode cX8_hand 119 = .ok (.iadd, 1) := by decide +kernel
theorem dX8_hand_120 : decode cX8_hand 120 = .ok (.aload_n 0, 1) := by decide +kernel
theorem dX8_hand_121 : decode cX8_hand 121 = .ok (.getfield 118, 3) := by decide +kernel
theorem dX8_hand_124 : decode cX8_hand 124 = .ok (.iastore, 1) := by decide +kernel
theorem dX8_hand_125 : decode cX8_hand 125 = .ok (.aload_n 0, 1) := by decide +kernel
theorem dX8_hand_126 : decode cX8_hand 126 = .ok (.dup, 1) := by decide +kernel
theorem dX8_hand_127 : decode cX8_hand 127 = .ok (.getfield 228, 3) := by decide +kernel
theorem dX8_hand_130 : decode cX8_hand 130 = .ok (.iconst 1, 1) := by decide +kernel
theorem dX8_hand_131 : decode cX8_hand 131 = .ok (.iadd, 1) := by decide +kernel
theorem dX8_hand_132 : decode cX8_hand 132 = .ok (.putfield 228, 3) := by decide +kernel
theorem dX8_hand_135 : decode cX8_hand 135 = .ok (.iload 6, 2) := by decide +kernel
theorem dX8_hand_137 : decode cX8_hand 137 = .ok (.ireturn, 1) := by decide +kernel
theorem dX8_hand_138 : decode cX8_hand 138 = .ok (.iinc 6 (-1), 3) := by decide +kernel
theorem dX8_hand_141 : decode cX8_hand 141 = .ok (.goto (-86), 3) := by decide +kernel
theorem dX8_hand_144 : decode cX8_hand 144 = .ok (.bipush (-3), 2) := by decide +kernel
theorem dX8_hand_146 : decode cX8_hand 146 = .ok (.ireturn, 1) := by decide +kernel
set_option maxRecDepth 20000 in
theorem ggX8_findPoints_X8_stolen : GoodIn wsX8_findPoints wsX8_stolen := goodIn_r _ [12, 6, 2, 4, 3, 13, 14, 15, 11, 16, 17, 18, 19, 20, 21, 22, 23, 24, 25, 26, 27, 28, 29, 30, 31, 32, 33, 34, 35, 36, 37, 38, 39, 40, 41, 42, 43, 44, 45, 46, 47, 48, 49, 50, 51, 52, 53, 54, 55, 56, 57, 58, 59, 60, 61, 62, 63, 64] (by decide +kernel) (by decide +kernel)
set_option maxRecDepth 20000 in
theorem gX8_findPoints_X8_stolen : GoodIn wsX8_findPoints (wsV RX8 231 RX8 yX8_stolen wsX8_stolen) := goodIn_app (goodIn_of _ (by decide +kernel)) ggX8_findPoints_X8_stolen
theorem dX8_findPoints_0 : decode cX8_findPoints 0 = .ok (.iconst 0, 1) := by decide +kernel
theorem dX8_findPoints_1 : decode cX8_findPoints 1 = .ok (.istore_n 2, 1) := by decide +kernel
theorem dX8_findPoints_2 : decode cX8_findPoints 2 = .ok (.iload_n 2, 1) := by decide +kernel
theorem dX8_findPoints_3 : decode cX8_findPoints 3 = .ok (.iconst 5, 1) := by decide +kernel
theorem dX8_findPoints_4 : decode cX8_findPoints 4 = .ok (.if_icmp .ge 37, 3) := by decide +kernel
theorem dX8_findPoints_7 : decode cX8_findPoints 7 = .ok (.aload_n 0, 1) := by decide +kernel
theorem dX8_findPoints_8 : decode cX8_findPoints 8 = .ok (.getfield 92, 3) := by decide +kernel
theorem dX8_findPoints_11 : decode cX8_findPoints 11 = .ok (.iload_n 2, 1) := by decide +kernel
theorem dX8_findPoints_12 : decode cX8_findPoints 12 = .ok (.iconst 0, 1) := by decide +kernel
theorem dX8_findPoints_13 : decode cX8_findPoints 13 = .ok (.iastore, 1) := by decide +kernel
theorem dX8_findPoints_14 : decode cX8_findPoints 14 = .ok (.aload_n 0, 1) := by decide +kernel
theorem dX8_findPoints_15 : decode cX8_findPoints 15 = .ok (.getfield 95, 3) := by decide +kernel
theorem dX8_findPoints_18 : decode cX8_findPoints 18 = .ok (.iload_n 2, 1) := by decide +kernel
theorem dX8_findPoints_19 : decode cX8_findPoints 19 = .ok (.iconst 0, 1) := by decide +kernel
theorem dX8_findPoints_20 : decode cX8_findPoints 20 = .ok (.iastore, 1) := by decide +kernel
theorem dX8_findPoints_21 : decode cX8_findPoints 21 = .ok (.aload_n 0, 1) := by decide +kernel
theorem dX8_findPoints_22 : decode cX8_findPoints 22 = .ok (.getfield 98, 3) := by decide +kernel
theorem dX8_findPoints_25 : decode cX8_findPoints 25 = .ok (.iload_n 2, 1) := by decide +kernel
theorem dX8_findPoints_26 : decode cX8_findPoints 26 = .ok (.iconst 0, 1) := by decide +kernel
theorem dX8_findPoints_27 : decode cX8_findPoints 27 = .ok (.iastore, 1) := by decide +kernel
theorem dX8_findPoints_28 : decode cX8_findPoints 28 = .ok (.aload_n 0, 1) := by decide +kernel
theorem dX8_findPoints_29 : decode cX8_findPoints 29 = .ok (.getfield 101, 3) := by decide +kernel
theorem dX8_findPoints_32 : decode cX8_findPoints 32 = .ok (.iload_n 2, 1) := by decide +kernel
theorem dX8_findPoints_33 : decode cX8_findPoints 33 = .ok (.iconst 0, 1) := by decide +kernel
theorem dX8_findPoints_34 : decode cX8_findPoints 34 = .ok (.iastore, 1) := by decide +kernel
theorem dX8_findPoints_35 : decode cX8_findPoints 35 = .ok (.iinc 2 1, 3) := by decide +kernel
theorem dX8_findPoints_38 : decode cX8_findPoints 38 = .ok (.goto (-36), 3) := by decide +kernel
theorem dX8_findPoints_41 : decode cX8_findPoints 41 = .ok (.iconst 0, 1) := by decide +kernel
theorem dX8_findPoints_42 : decode cX8_findPoints 42 = .ok (.istore_n 2, 1) := by decide +kernel
theorem dX8_findPoints_43 : decode cX8_findPoints 43 = .ok (.iload_n 2, 1) := by decide +kernel
theorem dX8_findPoints_44 : decode cX8_findPoints 44 = .ok (.aload_n 0, 1) := by decide +kernel
theorem dX8_findPoints_45 : decode cX8_findPoints 45 = .ok (.getfield 118, 3) := by decide +kernel
theorem dX8_findPoints_48 : decode cX8_findPoints 48 = .ok (.if_icmp .ge 66, 3) := by decide +kernel
theorem dX8_findPoints_51 : decode cX8_findPoints 51 = .ok (.iconst 0, 1) := by decide +kernel
theorem dX8_findPoints_52 : decode cX8_findPoints 52 = .ok (.istore_n 3, 1) := by decide +kernel
theorem dX8_findPoints_53 : decode cX8_findPoints 53 = .ok (.iload_n 3, 1) := by decide +kernel
theorem dX8_findPoints_54 : decode cX8_findPoints 54 = .ok (.iconst 3, 1) := by decide +kernel
theorem dX8_findPoints_55 : decode cX8_findPoints 55 = .ok (.aload_n 0, 1) := by decide +kernel
theorem dX8_findPoints_56 : decode cX8_findPoints 56 = .ok (.getfield 104, 3) := by decide +kernel
theorem dX8_findPoints_59 : decode cX8_findPoints 59 = .ok (.imul, 1) := by decide +kernel
theorem dX8_findPoints_60 : decode cX8_findPoints 60 = .ok (.if_icmp .ge 48, 3) := by decide +kernel
theorem dX8_findPoints_63 : decode cX8_findPoints 63 = .ok (.iload_n 2, 1) := by decide +kernel
theorem dX8_findPoints_64 : decode cX8_findPoints 64 = .ok (.iload_n 1, 1) := by decide +kernel
theorem dX8_findPoints_65 : decode cX8_findPoints 65 = .ok (.if_icmp .ge 30, 3) := by decide +kernel
theorem dX8_findPoints_68 : decode cX8_findPoints 68 = .ok (.aload_n 0, 1) := by decide +kernel
theorem dX8_findPoints_69 : decode cX8_findPoints 69 = .ok (.getfield 71, 3) := by decide +kernel
theorem dX8_findPoints_72 : decode cX8_findPoints 72 = .ok (.bipush 15, 2) := by decide +kernel
theorem dX8_findPoints_74 : decode cX8_findPoints 74 = .ok (.iload_n 2, 1) := by decide +kernel
theorem dX8_findPoints_75 : decode cX8_findPoints 75 = .ok (.imul, 1) := by decide +kernel
theorem dX8_findPoints_76 : decode cX8_findPoints 76 = .ok (.iload_n 3, 1) := by decide +kernel
theorem dX8_findPoints_77 : decode cX8_findPoints 77 = .ok (.iadd, 1) := by decide +kernel
theorem dX8_findPoints_78 : decode cX8_findPoints 78 = .ok (.baload, 1) := by decide +kernel
theorem dX8_findPoints_79 : decode cX8_findPoints 79 = .ok (.ifCond .eq 16, 3) := by decide +kernel
theorem dX8_findPoints_82 : decode cX8_findPoints 82 = .ok (.aload_n 0, 1) := by decide +kernel
theorem dX8_findPoints_83 : decode cX8_findPoints 83 = .ok (.getfield 92, 3) := by decide +kernel
theorem dX8_findPoints_86 : decode cX8_findPoints 86 = .ok (.iload_n 3, 1) := by decide +kernel
theorem dX8_findPoints_87 : decode cX8_findPoints 87 = .ok (.iconst 3, 1) := by decide +kernel
theorem dX8_findPoints_88 : decode cX8_findPoints 88 = .ok (.idiv, 1) := by decide +kernel
theorem dX8_findPoints_89 : decode cX8_findPoints 89 = .ok (.dup2, 1) := by decide +kernel
theorem dX8_findPoints_90 : decode cX8_findPoints 90 = .ok (.iaload, 1) := by decide +kernel
theorem dX8_findPoints_91 : decode cX8_findPoints 91 = .ok (.bipush 10, 2) := by decide +kernel
theorem dX8_findPoints_93 : decode cX8_findPoints 93 = .ok (.iadd, 1) := by decide +kernel
theorem dX8_findPoints_94 : decode cX8_findPoints 94 = .ok (.iastore, 1) := by decide +kernel
theorem dX8_findPoints_95 : decode cX8_findPoints 95 = .ok (.aload_n 0, 1) := by decide +kernel
theorem dX8_findPoints_96 : decode cX8_findPoints 96 = .ok (.iload_n 2, 1) := by decide +kernel
theorem dX8_findPoints_97 : decode cX8_findPoints 97 = .ok (.iload_n 3, 1) := by decide +kernel
theorem dX8_findPoints_98 : decode cX8_findPoints 98 = .ok (.iload_n 1, 1) := by decide +kernel
theorem dX8_findPoints_99 : decode cX8_findPoints 99 = .ok (.invokevirtual 231, 3) := by decide +kernel
theorem dX8_findPoints_102 : decode cX8_findPoints 102 = .ok (.iinc 3 1, 3) := by decide +kernel
theorem dX8_findPoints_105 : decode cX8_findPoints 105 = .ok (.goto (-52), 3) := by decide +kernel
theorem dX8_findPoints_108 : decode cX8_findPoints 108 = .ok (.iinc 2 1, 3) := by decide +kernel
theorem dX8_findPoints_111 : decode cX8_findPoints 111 = .ok (.goto (-68), 3) := by decide +kernel
theorem dX8_findPoints_114 : decode cX8_findPoints 114 = .ok (.return_, 1) := by decide +kernel
set_option maxRecDepth 20000 in
theorem ggX8_stolen_X8_isHanded : GoodIn wsX8_stolen wsX8_isHanded := goodIn_r _ [9, 10, 11, 12, 8, 13, 14, 15, 16, 17, 18, 19, 20, 21, 22, 23, 24, 25, 26, 27, 28, 29, 30, 31, 32, 33, 34, 35, 36, 37, 38, 39, 40, 41, 42, 43, 44, 45, 46, 47, 48, 49, 50, 51, 52, 53, 54, 55, 56, 57] (by decide +kernel) (by decide +kernel)
set_option maxRecDepth 20000 in
theorem gX8_stolen_X8_isHanded : GoodIn wsX8_stolen (wsV RX8 235 RX8 yX8_isHanded wsX8_isHanded) := goodIn_app (goodIn_of _ (by decide +kernel)) ggX8_stolen_X8_isHanded
theorem dX8_stolen_0 : decode cX8_stolen 0 = .ok (.iconst 0, 1) := by decide +kernel
theorem dX8_stolen_1 : decode cX8_stolen 1 = .ok (.istore 4, 2) := by decide +kernel
theorem dX8_stolen_3 : decode cX8_stolen 3 = .ok (.iconst 0, 1) := by decide +kernel
theorem dX8_stolen_4 : decode cX8_stolen 4 = .ok (.istore 5, 2) := by decide +kernel
theorem dX8_stolen_6 : decode cX8_stolen 6 = .ok (.iload 5, 2) := by decide +kernel
theorem dX8_stolen_8 : decode cX8_stolen 8 = .ok (.aload_n 0, 1) := by decide +kernel
theorem dX8_stolen_9 : decode cX8_stolen 9 = .ok (.getfield 104, 3) := by decide +kernel
theorem dX8_stolen_12 : decode cX8_stolen 12 = .ok (.if_icmp .ge 31, 3) := by decide +kernel
theorem dX8_stolen_15 : decode cX8_stolen 15 = .ok (.iload 4, 2) := by decide +kernel
theorem dX8_stolen_17 : decode cX8_stolen 17 = .ok (.aload_n 0, 1) := by decide +kernel
theorem dX8_stolen_18 : decode cX8_stolen 18 = .ok (.iload_n 1, 1) := by decide +kernel
theorem dX8_stolen_19 : decode cX8_stolen 19 = .ok (.iload_n 2, 1) := by decide +kernel
theorem dX8_stolen_20 : decode cX8_stolen 20 = .ok (.iload 5, 2) := by decide +kernel
theorem dX8_stolen_22 : decode cX8_stolen 22 = .ok (.iload_n 3, 1) := by decide +kernel
theorem dX8_stolen_23 : decode cX8_stolen 23 = .ok (.invokevirtual 235, 3) := by decide +kernel
theorem dX8_stolen_26 : decode cX8_stolen 26 = .ok (.ifCond .eq 7, 3) := by decide +kernel
theorem dX8_stolen_29 : decode cX8_stolen 29 = .ok (.iconst 1, 1) := by decide +kernel
theorem dX8_stolen_30 : decode cX8_stolen 30 = .ok (.goto 4, 3) := by decide +kernel
theorem dX8_stolen_33 : decode cX8_stolen 33 = .ok (.iconst 0, 1) := by decide +kernel
theorem dX8_stolen_34 : decode cX8_stolen 34 = .ok (.iadd, 1) := by decide +kernel
theorem dX8_stolen_35 : decode cX8_stolen 35 = .ok (.istore 4, 2) := by decide +kernel
theorem dX8_stolen_37 : decode cX8_stolen 37 = .ok (.iinc 5 1, 3) := by decide +kernel
theorem dX8_stolen_40 : decode cX8_stolen 40 = .ok (.goto (-34), 3) := by decide +kernel
theorem dX8_stolen_43 : decode cX8_stolen 43 = .ok (.iconst 0, 1) := by decide +kernel
theorem dX8_stolen_44 : decode cX8_stolen 44 = .ok (.istore 5, 2) := by decide +kernel
theorem dX8_stolen_46 : decode cX8_stolen 46 = .ok (.iload 5, 2) := by decide +kernel
theorem dX8_stolen_48 : decode cX8_stolen 48 = .ok (.aload_n 0, 1) := by decide +kernel
theorem dX8_stolen_49 : decode cX8_stolen 49 = .ok (.getfield 104, 3) := by decide +kernel
theorem dX8_stolen_52 : decode cX8_stolen 52 = .ok (.if_icmp .ge 50, 3) := by decide +kernel
theorem dX8_stolen_55 : decode cX8_stolen 55 = .ok (.aload_n 0, 1) := by decide +kernel
theorem dX8_stolen_56 : decode cX8_stolen 56 = .ok (.iload_n 1, 1) := by decide +kernel
theorem dX8_stolen_57 : decode cX8_stolen 57 = .ok (.iload_n 2, 1) := by decide +kernel
theorem dX8_stolen_58 : decode cX8_stolen 58 = .ok (.iload 5, 2) := by decide +kernel
theorem dX8_stolen_60 : decode cX8_stolen 60 = .ok (.iload_n 3, 1) := by decide +kernel
theorem dX8_stolen_61 : decode cX8_stolen 61 = .ok (.invokevirtual 235, 3) := by decide +kernel
theorem dX8_stolen_64 : decode cX8_stolen 64 = .ok (.ifCond .ne 6, 3) := by decide +kernel
theorem dX8_stolen_67 : decode cX8_stolen 67 = .ok (.goto 29, 3) := by decide +kernel
theorem dX8_stolen_70 : decode cX8_stolen 70 = .ok (.aload_n 0, 1) := by decide +kernel
theorem dX8_stolen_71 : decode cX8_stolen 71 = .ok (.getfield 95, 3) := by decide +kernel
theorem dX8_stolen_74 : decode cX8_stolen 74 = .ok (.iload 5, 2) := by decide +kernel
theorem dX8_stolen_76 : decode cX8_stolen 76 = .ok (.dup2, 1) := by decide +kernel
theorem dX8_stolen_77 : decode cX8_stolen 77 = .ok (.iaload, 1) := by decide +kernel
theorem dX8_stolen_78 : decode cX8_stolen 78 = .ok (.bipush 60, 2) := by decide +kernel
theorem dX8_stolen_80 : decode cX8_stolen 80 = .ok (.iload 4, 2) := by decide +kernel
theorem dX8_stolen_82 : decode cX8_stolen 82 = .ok (.idiv, 1) := by decide +kernel
theorem dX8_stolen_83 : decode cX8_stolen 83 = .ok (.iadd, 1) := by decide +kernel
theorem dX8_stolen_84 : decode cX8_stolen 84 = .ok (.iastore, 1) := by decide +kernel
theorem dX8_stolen_85 : decode cX8_stolen 85 = .ok (.aload_n 0, 1) := by decide +kernel
theorem dX8_stolen_86 : decode cX8_stolen 86 = .ok (.getfield 101, 3) := by decide +kernel
theorem dX8_stolen_89 : decode cX8_stolen 89 = .ok (.iload 5, 2) := by decide +kernel
theorem dX8_stolen_91 : decode cX8_stolen 91 = .ok (.dup2, 1) := by decide +kernel
theorem dX8_stolen_92 : decode cX8_stolen 92 = .ok (.iaload, 1) := by decide +kernel
theorem dX8_stolen_93 : decode cX8_stolen 93 = .ok (.iconst 1, 1) := by decide +kernel
theorem dX8_stolen_94 : decode cX8_stolen 94 = .ok (.iadd, 1) := by decide +kernel
theorem dX8_stolen_95 : decode cX8_stolen 95 = .ok (.iastore, 1) := by decide +kernel
theorem dX8_stolen_96 : decode cX8_stolen 96 = .ok (.iinc 5 1, 3) := by decide +kernel
theorem dX8_stolen_99 : decode cX8_stolen 99 = .ok (.goto (-53), 3) := by decide +kernel
theorem dX8_stolen_102 : decode cX8_stolen 102 = .ok (.aload_n 0, 1) := by decide +kernel
theorem dX8_stolen_103 : decode cX8_stolen 103 = .ok (.getfield 98, 3) := by decide +kernel
theorem dX8_stolen_106 : decode cX8_stolen 106 = .ok (.iload_n 2, 1) := by decide +kernel
theorem dX8_stolen_107 : decode cX8_stolen 107 = .ok (.iconst 3, 1) := by decide +kernel
theorem dX8_stolen_108 : decode cX8_stolen 108 = .ok (.idiv, 1) := by decide +kernel
theorem dX8_stolen_109 : decode cX8_stolen 109 = .ok (.dup2, 1) := by decide +kernel
theorem dX8_stolen_110 : decode cX8_stolen 110 = .ok (.iaload, 1) := by decide +kernel
theorem dX8_stolen_111 : decode cX8_stolen 111 = .ok (.iconst 4, 1) := by decide +kernel
theorem dX8_stolen_112 : decode cX8_stolen 112 = .ok (.iload 4, 2) := by decide +kernel
theorem dX8_stolen_114 : decode cX8_stolen 114 = .ok (.imul, 1) := by decide +kernel
theorem dX8_stolen_115 : decode cX8_stolen 115 = .ok (.iadd, 1) := by decide +kernel
theorem dX8_stolen_116 : decode cX8_stolen 116 = .ok (.iastore, 1) := by decide +kernel
theorem dX8_stolen_117 : decode cX8_stolen 117 = .ok (.return_, 1) := by decide +kernel
set_option maxRecDepth 20000 in
theorem ggX8_isHanded_X8_handed : GoodIn wsX8_isHanded wsX8_handed := goodIn_r _ [5, 6, 7, 8, 9, 10, 11, 12, 13, 14, 15, 16, 17, 18, 19, 20, 21, 22, 23, 24, 25, 26, 27, 28, 29, 30, 31, 32, 33, 34, 35, 36, 37, 38, 39, 40, 41, 42, 43, 44, 45, 46, 47, 48, 49] (by decide +kernel) (by decide +kernel)
set_option maxRecDepth 20000 in
theorem gX8_isHanded_X8_handed : GoodIn wsX8_isHanded (wsV RX8 225 RX8 yX8_handed wsX8_handed) := goodIn_app (goodIn_of _ (by decide +kernel)) ggX8_isHanded_X8_handed
theorem dX8_isHanded_0 : decode cX8_isHanded 0 = .ok (.aload_n 0, 1) := by decide +kernel
theorem dX8_isHanded_1 : decode cX8_isHanded 1 = .ok (.iload_n 1, 1) := by decide +kernel
theorem dX8_isHanded_2 : decode cX8_isHanded 2 = .ok (.iload_n 2, 1) := by decide +kernel
theorem dX8_isHanded_3 : decode cX8_isHanded 3 = .ok (.iload_n 3, 1) := by decide +kernel
theorem dX8_isHanded_4 : decode cX8_isHanded 4 = .ok (.invokevirtual 225, 3) := by decide +kernel
theorem dX8_isHanded_7 : decode cX8_isHanded 7 = .ok (.istore 5, 2) := by decide +kernel
theorem dX8_isHanded_9 : decode cX8_isHanded 9 = .ok (.iload 5, 2) := by decide +kernel
theorem dX8_isHanded_11 : decode cX8_isHanded 11 = .ok (.ifCond .lt 14, 3) := by decide +kernel
theorem dX8_isHanded_14 : decode cX8_isHanded 14 = .ok (.iload 5, 2) := by decide +kernel
theorem dX8_isHanded_16 : decode cX8_isHanded 16 = .ok (.iload 4, 2) := by decide +kernel
theorem dX8_isHanded_18 : decode cX8_isHanded 18 = .ok (.if_icmp .ge 7, 3) := by decide +kernel
theorem dX8_isHanded_21 : decode cX8_isHanded 21 = .ok (.iconst 1, 1) := by decide +kernel
theorem dX8_isHanded_22 : decode cX8_isHanded 22 = .ok (.goto 4, 3) := by decide +kernel
theorem dX8_isHanded_25 : decode cX8_isHanded 25 = .ok (.iconst 0, 1) := by decide +kernel
theorem dX8_isHanded_26 : decode cX8_isHanded 26 = .ok (.ireturn, 1) := by decide +kernel
theorem dX8_sum_0 : decode cX8_sum 0 = .ok (.aload_n 0, 1) := by decide +kernel
theorem dX8_sum_1 : decode cX8_sum 1 = .ok (.getfield 92, 3) := by decide +kernel
theorem dX8_sum_4 : decode cX8_sum 4 = .ok (.iload_n 1, 1) := by decide +kernel
theorem dX8_sum_5 : decode cX8_sum 5 = .ok (.iaload, 1) := by decide +kernel
theorem dX8_sum_6 : decode cX8_sum 6 = .ok (.aload_n 0, 1) := by decide +kernel
theorem dX8_sum_7 : decode cX8_sum 7 = .ok (.getfield 95, 3) := by decide +kernel
theorem dX8_sum_10 : decode cX8_sum 10 = .ok (.iload_n 1, 1) := by decide +kernel
theorem dX8_sum_11 : decode cX8_sum 11 = .ok (.iaload, 1) := by decide +kernel
theorem dX8_sum_12 : decode cX8_sum 12 = .ok (.iadd, 1) := by decide +kernel
theorem dX8_sum_13 : decode cX8_sum 13 = .ok (.aload_n 0, 1) := by decide +kernel
theorem dX8_sum_14 : decode cX8_sum 14 = .ok (.getfield 98, 3) := by decide +kernel
theorem dX8_sum_17 : decode cX8_sum 17 = .ok (.iload_n 1, 1) := by decide +kernel
theorem dX8_sum_18 : decode cX8_sum 18 = .ok (.iaload, 1) := by decide +kernel
theorem dX8_sum_19 : decode cX8_sum 19 = .ok (.isub, 1) := by decide +kernel
theorem dX8_sum_20 : decode cX8_sum 20 = .ok (.ireturn, 1) := by decide +kernel
set_option maxRecDepth 20000 in
theorem ggX8_points_X8_isTeam : GoodIn wsX8_points wsX8_isTeam := goodIn_r _ [10, 11, 35, 36, 37, 38, 39, 40, 41, 42, 43, 44, 45, 46, 47, 48, 49, 50, 51, 52, 53, 54, 55, 56, 57, 58, 59, 60, 61, 62, 63, 64, 65, 66, 67, 68, 69, 70, 71, 72, 73, 74, 75, 76, 77] (by decide +kernel) (by decide +kernel)
set_option maxRecDepth 20000 in
theorem gX8_points_X8_isTeam : GoodIn wsX8_points (wsV RX8 108 RX8 yX8_isTeam wsX8_isTeam) := goodIn_app (goodIn_of _ (by decide +kernel)) ggX8_points_X8_isTeam
set_option maxRecDepth 20000 in
theorem ggX8_points_X8_findPoints : GoodIn wsX8_points wsX8_findPoints := goodIn_r _ [15, 2, 3, 4, 5, 16, 11, 17, 18, 19, 20, 9, 21, 22, 23, 24, 25, 26, 27, 28, 29, 30, 35, 36, 37, 38, 39, 40, 41, 42, 43, 44, 45, 46, 47, 48, 49, 50, 51, 52, 53, 54, 55, 56, 57, 58, 59, 60, 61, 62, 63, 64, 65, 66, 67, 68, 69, 70, 71, 72, 73, 74, 75, 76, 77] (by decide +kernel) (by decide +kernel)
set_option maxRecDepth 20000 in
theorem gX8_points_X8_findPoints : GoodIn wsX8_points (wsV RX8 240 RX8 yX8_findPoints wsX8_findPoints) := goodIn_app (goodIn_of _ (by decide +kernel)) ggX8_points_X8_findPoints
set_option maxRecDepth 20000 in
theorem ggX8_points_X8_sum : GoodIn wsX8_points wsX8_sum := goodIn_r _ [34, 2, 3, 4, 35, 36, 37, 38, 39, 40, 41, 42, 43, 44, 45, 46, 47, 48, 49, 50, 51, 52, 53, 54, 55, 56, 57, 58, 59, 60, 61, 62, 63, 64, 65, 66, 67, 68, 69, 70, 71, 72, 73, 74, 75, 76, 77] (by decide +kernel) (by decide +kernel)
set_option maxRecDepth 20000 in
theorem gX8_points_X8_sum : GoodIn wsX8_points (wsV RX8 243 RX8 yX8_sum wsX8_sum) := goodIn_app (goodIn_of _ (by decide +kernel)) ggX8_points_X8_sum
theorem dX8_points_0 : decode cX8_points 0 = .ok (.aload_n 0, 1) := by decide +kernel
theorem dX8_points_1 : decode cX8_points 1 = .ok (.iload_n 1, 1) := by decide +kernel
theorem dX8_points_2 : decode cX8_points 2 = .ok (.invokevirtual 108, 3) := by decide +kernel
theorem dX8_points_5 : decode cX8_points 5 = .ok (.ifCond .ne 6, 3) := by decide +kernel
theorem dX8_points_8 : decode cX8_points 8 = .ok (.ldc 239, 2) := by decide +kernel
theorem dX8_points_10 : decode cX8_points 10 = .ok (.ireturn, 1) := by decide +kernel
theorem dX8_points_11 : decode cX8_points 11 = .ok (.aload_n 0, 1) := by decide +kernel
theorem dX8_points_12 : decode cX8_points 12 = .ok (.sipush 1000, 3) := by decide +kernel
theorem dX8_points_15 : decode cX8_points 15 = .ok (.invokevirtual 240, 3) := by decide +kernel
theorem dX8_points_18 : decode cX8_points 18 = .ok (.iload_n 2, 1) := by decide +kernel
theorem dX8_points_19 : decode cX8_points 19 = .ok (.tableswitch 67 0 4 #[33, 39, 46, 53, 60], 33) := by decide +kernel
theorem dX8_points_52 : decode cX8_points 52 = .ok (.aload_n 0, 1) := by decide +kernel
theorem dX8_points_53 : decode cX8_points 53 = .ok (.iload_n 1, 1) := by decide +kernel
theorem dX8_points_54 : decode cX8_points 54 = .ok (.invokevirtual 243, 3) := by decide +kernel
theorem dX8_points_57 : decode cX8_points 57 = .ok (.ireturn, 1) := by decide +kernel
theorem dX8_points_58 : decode cX8_points 58 = .ok (.aload_n 0, 1) := by decide +kernel
theorem dX8_points_59 : decode cX8_points 59 = .ok (.getfield 92, 3) := by decide +kernel
theorem dX8_points_62 : decode cX8_points 62 = .ok (.iload_n 1, 1) := by decide +kernel
theorem dX8_points_63 : decode cX8_points 63 = .ok (.iaload, 1) := by decide +kernel
theorem dX8_points_64 : decode cX8_points 64 = .ok (.ireturn, 1) := by decide +kernel
theorem dX8_points_65 : decode cX8_points 65 = .ok (.aload_n 0, 1) := by decide +kernel
theorem dX8_points_66 : decode cX8_points 66 = .ok (.getfield 95, 3) := by decide +kernel
theorem dX8_points_69 : decode cX8_points 69 = .ok (.iload_n 1, 1) := by decide +kernel
theorem dX8_points_70 : decode cX8_points 70 = .ok (.iaload, 1) := by decide +kernel
theorem dX8_points_71 : decode cX8_points 71 = .ok (.ireturn, 1) := by decide +kernel
theorem dX8_points_72 : decode cX8_points 72 = .ok (.aload_n 0, 1) := by decide +kernel
theorem dX8_points_73 : decode cX8_points 73 = .ok (.getfield 98, 3) := by decide +kernel
theorem dX8_points_76 : decode cX8_points 76 = .ok (.iload_n 1, 1) := by decide +kernel
theorem dX8_points_77 : decode cX8_points 77 = .ok (.iaload, 1) := by decide +kernel
theorem dX8_points_78 : decode cX8_points 78 = .ok (.ireturn, 1) := by decide +kernel
theorem dX8_points_79 : decode cX8_points 79 = .ok (.aload_n 0, 1) := by decide +kernel
theorem dX8_points_80 : decode cX8_points 80 = .ok (.getfield 101, 3) := by decide +kernel
theorem dX8_points_83 : decode cX8_points 83 = .ok (.iload_n 1, 1) := by decide +kernel
theorem dX8_points_84 : decode cX8_points 84 = .ok (.iaload, 1) := by decide +kernel
theorem dX8_points_85 : decode cX8_points 85 = .ok (.ireturn, 1) := by decide +kernel
theorem dX8_points_86 : decode cX8_points 86 = .ok (.ldc 239, 2) := by decide +kernel
theorem dX8_points_88 : decode cX8_points 88 = .ok (.ireturn, 1) := by decide +kernel
set_option maxRecDepth 20000 in
theorem ggX8_board_X8_isTeam : GoodIn wsX8_board wsX8_isTeam := goodIn_r _ [8, 3, 39, 40, 41, 42, 43, 44, 45, 46, 47, 48, 49, 50, 51, 52, 53, 54, 55, 56, 57, 58, 59, 60, 61, 62, 63, 64, 65, 66, 67, 68, 69, 70, 71, 72, 73, 74, 75, 76, 77, 78, 79, 80, 81] (by decide +kernel) (by decide +kernel)
set_option maxRecDepth 20000 in
theorem gX8_board_X8_isTeam : GoodIn wsX8_board (wsV RX8 108 RX8 yX8_isTeam wsX8_isTeam) := goodIn_app (goodIn_of _ (by decide +kernel)) ggX8_board_X8_isTeam
set_option maxRecDepth 20000 in
theorem ggX8_board_X8_isIn : GoodIn wsX8_board wsX8_isIn := goodIn_r _ [11] (by decide +kernel) (by decide +kernel)
set_option maxRecDepth 20000 in
theorem gX8_board_X8_isIn : GoodIn wsX8_board (va_wsS RX8 114 yX8_isIn wsX8_isIn) := goodIn_app (goodIn_of _ (by decide +kernel)) ggX8_board_X8_isIn
set_option maxRecDepth 20000 in
theorem ggX8_board_X8_findPoints : GoodIn wsX8_board wsX8_findPoints := goodIn_r _ [15, 16, 17, 18, 19, 20, 3, 21, 22, 23, 24, 7, 25, 26, 27, 28, 29, 30, 31, 32, 33, 34, 39, 40, 41, 42, 43, 44, 45, 46, 47, 48, 49, 50, 51, 52, 53, 54, 55, 56, 57, 58, 59, 60, 61, 62, 63, 64, 65, 66, 67, 68, 69, 70, 71, 72, 73, 74, 75, 76, 77, 78, 79, 80, 81] (by decide +kernel) (by decide +kernel)
set_option maxRecDepth 20000 in
theorem gX8_board_X8_findPoints : GoodIn wsX8_board (wsV RX8 240 RX8 yX8_findPoints wsX8_findPoints) := goodIn_app (goodIn_of _ (by decide +kernel)) ggX8_board_X8_findPoints
set_option maxRecDepth 20000 in
theorem ggX8_board_X8_sum : GoodIn wsX8_board wsX8_sum := goodIn_r _ [38, 16, 17, 18, 39, 40, 41, 42, 43, 44, 45, 46, 47, 48, 49, 50, 51, 52, 53, 54, 55, 56, 57, 58, 59, 60, 61, 62, 63, 64, 65, 66, 67, 68, 69, 70, 71, 72, 73, 74, 75, 76, 77, 78, 79, 80, 81] (by decide +kernel) (by decide +kernel)
set_option maxRecDepth 20000 in
theorem gX8_board_X8_sum : GoodIn wsX8_board (wsV RX8 243 RX8 yX8_sum wsX8_sum) := goodIn_app (goodIn_of _ (by decide +kernel)) ggX8_board_X8_sum
theorem dX8_board_0 : decode cX8_board 0 = .ok (.aload_n 0, 1) := by decide +kernel
theorem dX8_board_1 : decode cX8_board 1 = .ok (.iload_n 1, 1) := by decide +kernel
theorem dX8_board_2 : decode cX8_board 2 = .ok (.invokevirtual 108, 3) := by decide +kernel
theorem dX8_board_5 : decode cX8_board 5 = .ok (.ifCond .eq 13, 3) := by decide +kernel
theorem dX8_board_8 : decode cX8_board 8 = .ok (.iload_n 2, 1) := by decide +kernel
theorem dX8_board_9 : decode cX8_board 9 = .ok (.i2l, 1) := by decide +kernel
theorem dX8_board_10 : decode cX8_board 10 = .ok (.lconst 0, 1) := by decide +kernel
theorem dX8_board_11 : decode cX8_board 11 = .ok (.lconst 1, 1) := by decide +kernel
theorem dX8_board_12 : decode cX8_board 12 = .ok (.invokestatic 114, 3) := by decide +kernel
theorem dX8_board_15 : decode cX8_board 15 = .ok (.ifCond .ne 6, 3) := by decide +kernel
theorem dX8_board_18 : decode cX8_board 18 = .ok (.ldc 239, 2) := by decide +kernel
theorem dX8_board_20 : decode cX8_board 20 = .ok (.ireturn, 1) := by decide +kernel
theorem dX8_board_21 : decode cX8_board 21 = .ok (.aload_n 0, 1) := by decide +kernel
theorem dX8_board_22 : decode cX8_board 22 = .ok (.aload_n 0, 1) := by decide +kernel
theorem dX8_board_23 : decode cX8_board 23 = .ok (.getfield 47, 3) := by decide +kernel
theorem dX8_board_26 : decode cX8_board 26 = .ok (.iconst 3, 1) := by decide +kernel
theorem dX8_board_27 : decode cX8_board 27 = .ok (.iaload, 1) := by decide +kernel
theorem dX8_board_28 : decode cX8_board 28 = .ok (.invokevirtual 240, 3) := by decide +kernel
theorem dX8_board_31 : decode cX8_board 31 = .ok (.iconst 0, 1) := by decide +kernel
theorem dX8_board_32 : decode cX8_board 32 = .ok (.istore_n 3, 1) := by decide +kernel
theorem dX8_board_33 : decode cX8_board 33 = .ok (.iload_n 3, 1) := by decide +kernel
theorem dX8_board_34 : decode cX8_board 34 = .ok (.aload_n 0, 1) := by decide +kernel
theorem dX8_board_35 : decode cX8_board 35 = .ok (.getfield 104, 3) := by decide +kernel
theorem dX8_board_38 : decode cX8_board 38 = .ok (.if_icmp .ge 94, 3) := by decide +kernel
theorem dX8_board_41 : decode cX8_board 41 = .ok (.iconst 0, 1) := by decide +kernel
theorem dX8_board_42 : decode cX8_board 42 = .ok (.istore 4, 2) := by decide +kernel
theorem dX8_board_44 : decode cX8_board 44 = .ok (.iconst 0, 1) := by decide +kernel
theorem dX8_board_45 : decode cX8_board 45 = .ok (.istore 5, 2) := by decide +kernel
theorem dX8_board_47 : decode cX8_board 47 = .ok (.iload 5, 2) := by decide +kernel
theorem dX8_board_49 : decode cX8_board 49 = .ok (.aload_n 0, 1) := by decide +kernel
theorem dX8_board_50 : decode cX8_board 50 = .ok (.getfield 104, 3) := by decide +kernel
theorem dX8_board_53 : decode cX8_board 53 = .ok (.if_icmp .ge 53, 3) := by decide +kernel
theorem dX8_board_56 : decode cX8_board 56 = .ok (.iload 4, 2) := by decide +kernel
theorem dX8_board_58 : decode cX8_board 58 = .ok (.aload_n 0, 1) := by decide +kernel
theorem dX8_board_59 : decode cX8_board 59 = .ok (.iload 5, 2) := by decide +kernel
theorem dX8_board_61 : decode cX8_board 61 = .ok (.invokevirtual 243, 3) := by decide +kernel
theorem dX8_board_64 : decode cX8_board 64 = .ok (.aload_n 0, 1) := by decide +kernel
theorem dX8_board_65 : decode cX8_board 65 = .ok (.iload_n 3, 1) := by decide +kernel
theorem dX8_board_66 : decode cX8_board 66 = .ok (.invokevirtual 243, 3) := by decide +kernel
theorem dX8_board_69 : decode cX8_board 69 = .ok (.if_icmp .gt 23, 3) := by decide +kernel
theorem dX8_board_72 : decode cX8_board 72 = .ok (.aload_n 0, 1) := by decide +kernel
theorem dX8_board_73 : decode cX8_board 73 = .ok (.iload 5, 2) := by decide +kernel
theorem dX8_board_75 : decode cX8_board 75 = .ok (.invokevirtual 243, 3) := by decide +kernel
theorem dX8_board_78 : decode cX8_board 78 = .ok (.aload_n 0, 1) := by decide +kernel
theorem dX8_board_79 : decode cX8_board 79 = .ok (.iload_n 3, 1) := by decide +kernel
theorem dX8_board_80 : decode cX8_board 80 = .ok (.invokevirtual 243, 3) := by decide +kernel
theorem dX8_board_83 : decode cX8_board 83 = .ok (.if_icmp .ne 13, 3) := by decide +kernel
theorem dX8_board_86 : decode cX8_board 86 = .ok (.iload 5, 2) := by decide +kernel
theorem dX8_board_88 : decode cX8_board 88 = .ok (.iload_n 3, 1) := by decide +kernel
theorem dX8_board_89 : decode cX8_board 89 = .ok (.if_icmp .ge 7, 3) := by decide +kernel
theorem dX8_board_92 : decode cX8_board 92 = .ok (.iconst 1, 1) := by decide +kernel
theorem dX8_board_93 : decode cX8_board 93 = .ok (.goto 4, 3) := by decide +kernel
theorem dX8_board_96 : decode cX8_board 96 = .ok (.iconst 0, 1) := by decide +kernel
theorem dX8_board_97 : decode cX8_board 97 = .ok (.iadd, 1) := by decide +kernel
theorem dX8_board_98 : decode cX8_board 98 = .ok (.istore 4, 2) := by decide +kernel
theorem dX8_board_100 : decode cX8_board 100 = .ok (.iinc 5 1, 3) := by decide +kernel
theorem dX8_board_103 : decode cX8_board 103 = .ok (.goto (-56), 3) := by decide +kernel
theorem dX8_board_106 : decode cX8_board 106 = .ok (.iload 4, 2) := by decide +kernel
theorem dX8_board_108 : decode cX8_board 108 = .ok (.iload_n 1, 1) := by decide +kernel
theorem dX8_board_109 : decode cX8_board 109 = .ok (.if_icmp .ne 17, 3) := by decide +kernel
theorem dX8_board_112 : decode cX8_board 112 = .ok (.iload_n 2, 1) := by decide +kernel
theorem dX8_board_113 : decode cX8_board 113 = .ok (.ifCond .ne 7, 3) := by decide +kernel
theorem dX8_board_116 : decode cX8_board 116 = .ok (.iload_n 3, 1) := by decide +kernel
theorem dX8_board_117 : decode cX8_board 117 = .ok (.goto 8, 3) := by decide +kernel
theorem dX8_board_120 : decode cX8_board 120 = .ok (.aload_n 0, 1) := by decide +kernel
theorem dX8_board_121 : decode cX8_board 121 = .ok (.iload_n 3, 1) := by decide +kernel
theorem dX8_board_122 : decode cX8_board 122 = .ok (.invokevirtual 243, 3) := by decide +kernel
theorem dX8_board_125 : decode cX8_board 125 = .ok (.ireturn, 1) := by decide +kernel
theorem dX8_board_126 : decode cX8_board 126 = .ok (.iinc 3 1, 3) := by decide +kernel
theorem dX8_board_129 : decode cX8_board 129 = .ok (.goto (-96), 3) := by decide +kernel
theorem dX8_board_132 : decode cX8_board 132 = .ok (.ldc 239, 2) := by decide +kernel
theorem dX8_board_134 : decode cX8_board 134 = .ok (.ireturn, 1) := by decide +kernel
set_option maxRecDepth 20000 in
theorem ggX8_sumOf_X8_findPoints : GoodIn wsX8_sumOf wsX8_findPoints := goodIn_r _ [6, 7, 8, 9, 10, 11, 1, 12, 13, 14, 15, 5, 16, 17, 18, 19, 20, 21, 22, 23, 24, 25, 30, 31, 32, 33, 34, 35, 36, 37, 38, 39, 40, 41, 42, 43, 44, 45, 46, 47, 48, 49, 50, 51, 52, 53, 54, 55, 56, 57, 58, 59, 60, 61, 62, 63, 64, 65, 66, 67, 68, 69, 70, 71, 72] (by decide +kernel) (by decide +kernel)
set_option maxRecDepth 20000 in
theorem gX8_sumOf_X8_findPoints : GoodIn wsX8_sumOf (wsV RX8 240 RX8 yX8_findPoints wsX8_findPoints) := goodIn_app (goodIn_of _ (by decide +kernel)) ggX8_sumOf_X8_findPoints
set_option maxRecDepth 20000 in
theorem ggX8_sumOf_X8_sum : GoodIn wsX8_sumOf wsX8_sum := goodIn_r _ [29, 7, 8, 9, 30, 31, 32, 33, 34, 35, 36, 37, 38, 39, 40, 41, 42, 43, 44, 45, 46, 47, 48, 49, 50, 51, 52, 53, 54, 55, 56, 57, 58, 59, 60, 61, 62, 63, 64, 65, 66, 67, 68, 69, 70, 71, 72] (by decide +kernel) (by decide +kernel)
set_option maxRecDepth 20000 in
theorem gX8_sumOf_X8_sum : GoodIn wsX8_sumOf (wsV RX8 243 RX8 yX8_sum wsX8_sum) := goodIn_app (goodIn_of _ (by decide +kernel)) ggX8_sumOf_X8_sum
theorem dX8_sumOf_0 : decode cX8_sumOf 0 = .ok (.aload_n 0, 1) := by decide +kernel
theorem dX8_sumOf_1 : decode cX8_sumOf 1 = .ok (.sipush 1000, 3) := by decide +kernel
theorem dX8_sumOf_4 : decode cX8_sumOf 4 = .ok (.invokevirtual 240, 3) := by decide +kernel
theorem dX8_sumOf_7 : decode cX8_sumOf 7 = .ok (.iconst 0, 1) := by decide +kernel
theorem dX8_sumOf_8 : decode cX8_sumOf 8 = .ok (.istore_n 2, 1) := by decide +kernel
theorem dX8_sumOf_9 : decode cX8_sumOf 9 = .ok (.iconst 0, 1) := by decide +kernel
theorem dX8_sumOf_10 : decode cX8_sumOf 10 = .ok (.istore_n 3, 1) := by decide +kernel
theorem dX8_sumOf_11 : decode cX8_sumOf 11 = .ok (.iload_n 3, 1) := by decide +kernel
theorem dX8_sumOf_12 : decode cX8_sumOf 12 = .ok (.aload_n 0, 1) := by decide +kernel
theorem dX8_sumOf_13 : decode cX8_sumOf 13 = .ok (.getfield 104, 3) := by decide +kernel
theorem dX8_sumOf_16 : decode cX8_sumOf 16 = .ok (.if_icmp .ge 30, 3) := by decide +kernel
theorem dX8_sumOf_19 : decode cX8_sumOf 19 = .ok (.iload_n 2, 1) := by decide +kernel
theorem dX8_sumOf_20 : decode cX8_sumOf 20 = .ok (.iload_n 1, 1) := by decide +kernel
theorem dX8_sumOf_21 : decode cX8_sumOf 21 = .ok (.iload_n 3, 1) := by decide +kernel
theorem dX8_sumOf_22 : decode cX8_sumOf 22 = .ok (.ishr, 1) := by decide +kernel
theorem dX8_sumOf_23 : decode cX8_sumOf 23 = .ok (.iconst 1, 1) := by decide +kernel
theorem dX8_sumOf_24 : decode cX8_sumOf 24 = .ok (.iand, 1) := by decide +kernel
theorem dX8_sumOf_25 : decode cX8_sumOf 25 = .ok (.iconst 1, 1) := by decide +kernel
theorem dX8_sumOf_26 : decode cX8_sumOf 26 = .ok (.if_icmp .ne 11, 3) := by decide +kernel
theorem dX8_sumOf_29 : decode cX8_sumOf 29 = .ok (.aload_n 0, 1) := by decide +kernel
theorem dX8_sumOf_30 : decode cX8_sumOf 30 = .ok (.iload_n 3, 1) := by decide +kernel
theorem dX8_sumOf_31 : decode cX8_sumOf 31 = .ok (.invokevirtual 243, 3) := by decide +kernel
theorem dX8_sumOf_34 : decode cX8_sumOf 34 = .ok (.goto 4, 3) := by decide +kernel
theorem dX8_sumOf_37 : decode cX8_sumOf 37 = .ok (.iconst 0, 1) := by decide +kernel
theorem dX8_sumOf_38 : decode cX8_sumOf 38 = .ok (.iadd, 1) := by decide +kernel
theorem dX8_sumOf_39 : decode cX8_sumOf 39 = .ok (.istore_n 2, 1) := by decide +kernel
theorem dX8_sumOf_40 : decode cX8_sumOf 40 = .ok (.iinc 3 1, 3) := by decide +kernel
theorem dX8_sumOf_43 : decode cX8_sumOf 43 = .ok (.goto (-32), 3) := by decide +kernel
theorem dX8_sumOf_46 : decode cX8_sumOf 46 = .ok (.iload_n 2, 1) := by decide +kernel
theorem dX8_sumOf_47 : decode cX8_sumOf 47 = .ok (.ireturn, 1) := by decide +kernel
set_option maxRecDepth 20000 in
theorem ggX8_gain_X8_sumOf : GoodIn wsX8_gain wsX8_sumOf := goodIn_r _ [9, 1, 10, 11, 12, 8, 13, 14, 15, 16, 17, 3, 18, 19, 20, 21, 22, 23, 24, 25, 26, 27, 28, 29, 30, 31, 32, 33, 34, 35, 40, 41, 42, 43, 44, 45, 46, 47, 48, 49, 50, 51, 52, 53, 54, 55, 56, 57, 58, 59, 60, 61, 62, 63, 64, 65, 66, 67, 68, 69, 70, 71, 72, 73, 74, 75, 76, 77, 78, 79, 80, 81, 82] (by decide +kernel) (by decide +kernel)
set_option maxRecDepth 20000 in
theorem gX8_gain_X8_sumOf : GoodIn wsX8_gain (wsV RX8 247 RX8 yX8_sumOf wsX8_sumOf) := goodIn_app (goodIn_of _ (by decide +kernel)) ggX8_gain_X8_sumOf
set_option maxRecDepth 20000 in
theorem ggX8_gain_X8_helps : GoodIn wsX8_gain wsX8_helps := goodIn_r _ [39, 1, 31, 40, 41, 42, 43, 44, 45, 46, 47, 48, 49, 50, 51, 52, 53, 54, 55, 56, 57, 58, 59, 60, 61, 62, 63, 64, 65, 66, 67, 68, 69, 70, 71, 72, 73, 74, 75, 76, 77, 78, 79, 80, 81, 82] (by decide +kernel) (by decide +kernel)
set_option maxRecDepth 20000 in
theorem gX8_gain_X8_helps : GoodIn wsX8_gain (wsV RX8 250 RX8 yX8_helps wsX8_helps) := goodIn_app (goodIn_of _ (by decide +kernel)) ggX8_gain_X8_helps
theorem dX8_gain_0 : decode cX8_gain 0 = .ok (.iconst 0, 1) := by decide +kernel
theorem dX8_gain_1 : decode cX8_gain 1 = .ok (.istore_n 2, 1) := by decide +kernel
theorem dX8_gain_2 : decode cX8_gain 2 = .ok (.iconst 0, 1) := by decide +kernel
theorem dX8_gain_3 : decode cX8_gain 3 = .ok (.istore_n 3, 1) := by decide +kernel
theorem dX8_gain_4 : decode cX8_gain 4 = .ok (.iload_n 3, 1) := by decide +kernel
theorem dX8_gain_5 : decode cX8_gain 5 = .ok (.bipush 31, 2) := by decide +kernel
theorem dX8_gain_7 : decode cX8_gain 7 = .ok (.if_icmp .ge 17, 3) := by decide +kernel
theorem dX8_gain_10 : decode cX8_gain 10 = .ok (.iload_n 2, 1) := by decide +kernel
theorem dX8_gain_11 : decode cX8_gain 11 = .ok (.iload_n 1, 1) := by decide +kernel
theorem dX8_gain_12 : decode cX8_gain 12 = .ok (.iload_n 3, 1) := by decide +kernel
theorem dX8_gain_13 : decode cX8_gain 13 = .ok (.ishr, 1) := by decide +kernel
theorem dX8_gain_14 : decode cX8_gain 14 = .ok (.iconst 1, 1) := by decide +kernel
theorem dX8_gain_15 : decode cX8_gain 15 = .ok (.iand, 1) := by decide +kernel
theorem dX8_gain_16 : decode cX8_gain 16 = .ok (.iadd, 1) := by decide +kernel
theorem dX8_gain_17 : decode cX8_gain 17 = .ok (.istore_n 2, 1) := by decide +kernel
theorem dX8_gain_18 : decode cX8_gain 18 = .ok (.iinc 3 1, 3) := by decide +kernel
theorem dX8_gain_21 : decode cX8_gain 21 = .ok (.goto (-17), 3) := by decide +kernel
theorem dX8_gain_24 : decode cX8_gain 24 = .ok (.iload_n 1, 1) := by decide +kernel
theorem dX8_gain_25 : decode cX8_gain 25 = .ok (.ifCond .lt 18, 3) := by decide +kernel
theorem dX8_gain_28 : decode cX8_gain 28 = .ok (.iload_n 1, 1) := by decide +kernel
theorem dX8_gain_29 : decode cX8_gain 29 = .ok (.iconst 1, 1) := by decide +kernel
theorem dX8_gain_30 : decode cX8_gain 30 = .ok (.aload_n 0, 1) := by decide +kernel
theorem dX8_gain_31 : decode cX8_gain 31 = .ok (.getfield 104, 3) := by decide +kernel
theorem dX8_gain_34 : decode cX8_gain 34 = .ok (.ishl, 1) := by decide +kernel
theorem dX8_gain_35 : decode cX8_gain 35 = .ok (.if_icmp .ge 8, 3) := by decide +kernel
theorem dX8_gain_38 : decode cX8_gain 38 = .ok (.iload_n 2, 1) := by decide +kernel
theorem dX8_gain_39 : decode cX8_gain 39 = .ok (.iconst 2, 1) := by decide +kernel
theorem dX8_gain_40 : decode cX8_gain 40 = .ok (.if_icmp .ge 6, 3) := by decide +kernel
theorem dX8_gain_43 : decode cX8_gain 43 = .ok (.ldc 239, 2) := by decide +kernel
theorem dX8_gain_45 : decode cX8_gain 45 = .ok (.ireturn, 1) := by decide +kernel
theorem dX8_gain_46 : decode cX8_gain 46 = .ok (.aload_n 0, 1) := by decide +kernel
theorem dX8_gain_47 : decode cX8_gain 47 = .ok (.getfield 118, 3) := by decide +kernel
theorem dX8_gain_50 : decode cX8_gain 50 = .ok (.ifCond .ne 6, 3) := by decide +kernel
theorem dX8_gain_53 : decode cX8_gain 53 = .ok (.ldc 246, 2) := by decide +kernel
theorem dX8_gain_55 : decode cX8_gain 55 = .ok (.ireturn, 1) := by decide +kernel
theorem dX8_gain_56 : decode cX8_gain 56 = .ok (.aload_n 0, 1) := by decide +kernel
theorem dX8_gain_57 : decode cX8_gain 57 = .ok (.iload_n 1, 1) := by decide +kernel
theorem dX8_gain_58 : decode cX8_gain 58 = .ok (.invokevirtual 247, 3) := by decide +kernel
theorem dX8_gain_61 : decode cX8_gain 61 = .ok (.istore_n 3, 1) := by decide +kernel
theorem dX8_gain_62 : decode cX8_gain 62 = .ok (.aload_n 0, 1) := by decide +kernel
theorem dX8_gain_63 : decode cX8_gain 63 = .ok (.getfield 118, 3) := by decide +kernel
theorem dX8_gain_66 : decode cX8_gain 66 = .ok (.iconst 1, 1) := by decide +kernel
theorem dX8_gain_67 : decode cX8_gain 67 = .ok (.isub, 1) := by decide +kernel
theorem dX8_gain_68 : decode cX8_gain 68 = .ok (.istore 4, 2) := by decide +kernel
theorem dX8_gain_70 : decode cX8_gain 70 = .ok (.iconst 0, 1) := by decide +kernel
theorem dX8_gain_71 : decode cX8_gain 71 = .ok (.istore 5, 2) := by decide +kernel
theorem dX8_gain_73 : decode cX8_gain 73 = .ok (.iload 5, 2) := by decide +kernel
theorem dX8_gain_75 : decode cX8_gain 75 = .ok (.iconst 3, 1) := by decide +kernel
theorem dX8_gain_76 : decode cX8_gain 76 = .ok (.aload_n 0, 1) := by decide +kernel
theorem dX8_gain_77 : decode cX8_gain 77 = .ok (.getfield 104, 3) := by decide +kernel
theorem dX8_gain_80 : decode cX8_gain 80 = .ok (.imul, 1) := by decide +kernel
theorem dX8_gain_81 : decode cX8_gain 81 = .ok (.if_icmp .ge 19, 3) := by decide +kernel
theorem dX8_gain_84 : decode cX8_gain 84 = .ok (.aload_n 0, 1) := by decide +kernel
theorem dX8_gain_85 : decode cX8_gain 85 = .ok (.iload_n 1, 1) := by decide +kernel
theorem dX8_gain_86 : decode cX8_gain 86 = .ok (.iload 4, 2) := by decide +kernel
theorem dX8_gain_88 : decode cX8_gain 88 = .ok (.iload 5, 2) := by decide +kernel
theorem dX8_gain_90 : decode cX8_gain 90 = .ok (.iconst 1, 1) := by decide +kernel
theorem dX8_gain_91 : decode cX8_gain 91 = .ok (.invokevirtual 250, 3) := by decide +kernel
theorem dX8_gain_94 : decode cX8_gain 94 = .ok (.iinc 5 1, 3) := by decide +kernel
theorem dX8_gain_97 : decode cX8_gain 97 = .ok (.goto (-24), 3) := by decide +kernel
theorem dX8_gain_100 : decode cX8_gain 100 = .ok (.aload_n 0, 1) := by decide +kernel
theorem dX8_gain_101 : decode cX8_gain 101 = .ok (.iload_n 1, 1) := by decide +kernel
theorem dX8_gain_102 : decode cX8_gain 102 = .ok (.invokevirtual 247, 3) := by decide +kernel
theorem dX8_gain_105 : decode cX8_gain 105 = .ok (.istore 5, 2) := by decide +kernel
theorem dX8_gain_107 : decode cX8_gain 107 = .ok (.iconst 0, 1) := by decide +kernel
theorem dX8_gain_108 : decode cX8_gain 108 = .ok (.istore 6, 2) := by decide +kernel
theorem dX8_gain_110 : decode cX8_gain 110 = .ok (.iload 6, 2) := by decide +kernel
theorem dX8_gain_112 : decode cX8_gain 112 = .ok (.iconst 3, 1) := by decide +kernel
theorem dX8_gain_113 : decode cX8_gain 113 = .ok (.aload_n 0, 1) := by decide +kernel
theorem dX8_gain_114 : decode cX8_gain 114 = .ok (.getfield 104, 3) := by decide +kernel
theorem dX8_gain_117 : decode cX8_gain 117 = .ok (.imul, 1) := by decide +kernel
theorem dX8_gain_118 : decode cX8_gain 118 = .ok (.if_icmp .ge 19, 3) := by decide +kernel
theorem dX8_gain_121 : decode cX8_gain 121 = .ok (.aload_n 0, 1) := by decide +kernel
theorem dX8_gain_122 : decode cX8_gain 122 = .ok (.iload_n 1, 1) := by decide +kernel
theorem dX8_gain_123 : decode cX8_gain 123 = .ok (.iload 4, 2) := by decide +kernel
theorem dX8_gain_125 : decode cX8_gain 125 = .ok (.iload 6, 2) := by decide +kernel
theorem dX8_gain_127 : decode cX8_gain 127 = .ok (.iconst 0, 1) := by decide +kernel
theorem dX8_gain_128 : decode cX8_gain 128 = .ok (.invokevirtual 250, 3) := by decide +kernel
theorem dX8_gain_131 : decode cX8_gain 131 = .ok (.iinc 6 1, 3) := by decide +kernel
theorem dX8_gain_134 : decode cX8_gain 134 = .ok (.goto (-24), 3) := by decide +kernel
theorem dX8_gain_137 : decode cX8_gain 137 = .ok (.iload 5, 2) := by decide +kernel
theorem dX8_gain_139 : decode cX8_gain 139 = .ok (.iload_n 3, 1) := by decide +kernel
theorem dX8_gain_140 : decode cX8_gain 140 = .ok (.isub, 1) := by decide +kernel
theorem dX8_gain_141 : decode cX8_gain 141 = .ok (.ireturn, 1) := by decide +kernel
theorem dX8_helps_0 : decode cX8_helps 0 = .ok (.iconst 0, 1) := by decide +kernel
theorem dX8_helps_1 : decode cX8_helps 1 = .ok (.istore 5, 2) := by decide +kernel
theorem dX8_helps_3 : decode cX8_helps 3 = .ok (.iload 5, 2) := by decide +kernel
theorem dX8_helps_5 : decode cX8_helps 5 = .ok (.aload_n 0, 1) := by decide +kernel
theorem dX8_helps_6 : decode cX8_helps 6 = .ok (.getfield 104, 3) := by decide +kernel
theorem dX8_helps_9 : decode cX8_helps 9 = .ok (.if_icmp .ge 106, 3) := by decide +kernel
theorem dX8_helps_12 : decode cX8_helps 12 = .ok (.bipush 75, 2) := by decide +kernel
theorem dX8_helps_14 : decode cX8_helps 14 = .ok (.iload_n 2, 1) := by decide +kernel
theorem dX8_helps_15 : decode cX8_helps 15 = .ok (.imul, 1) := by decide +kernel
theorem dX8_helps_16 : decode cX8_helps 16 = .ok (.iconst 5, 1) := by decide +kernel
theorem dX8_helps_17 : decode cX8_helps 17 = .ok (.iload_n 3, 1) := by decide +kernel
theorem dX8_helps_18 : decode cX8_helps 18 = .ok (.imul, 1) := by decide +kernel
theorem dX8_helps_19 : decode cX8_helps 19 = .ok (.iadd, 1) := by decide +kernel
theorem dX8_helps_20 : decode cX8_helps 20 = .ok (.iload 5, 2) := by decide +kernel
theorem dX8_helps_22 : decode cX8_helps 22 = .ok (.iadd, 1) := by decide +kernel
theorem dX8_helps_23 : decode cX8_helps 23 = .ok (.istore 6, 2) := by decide +kernel
theorem dX8_helps_25 : decode cX8_helps 25 = .ok (.iload_n 1, 1) := by decide +kernel
theorem dX8_helps_26 : decode cX8_helps 26 = .ok (.iload 5, 2) := by decide +kernel
theorem dX8_helps_28 : decode cX8_helps 28 = .ok (.ishr, 1) := by decide +kernel
theorem dX8_helps_29 : decode cX8_helps 29 = .ok (.iconst 1, 1) := by decide +kernel
theorem dX8_helps_30 : decode cX8_helps 30 = .ok (.iand, 1) := by decide +kernel
theorem dX8_helps_31 : decode cX8_helps 31 = .ok (.ifCond .eq 78, 3) := by decide +kernel
theorem dX8_helps_34 : decode cX8_helps 34 = .ok (.iload_n 1, 1) := by decide +kernel
theorem dX8_helps_35 : decode cX8_helps 35 = .ok (.iload_n 3, 1) := by decide +kernel
theorem dX8_helps_36 : decode cX8_helps 36 = .ok (.iconst 3, 1) := by decide +kernel
theorem dX8_helps_37 : decode cX8_helps 37 = .ok (.idiv, 1) := by decide +kernel
theorem dX8_helps_38 : decode cX8_helps 38 = .ok (.ishr, 1) := by decide +kernel
theorem dX8_helps_39 : decode cX8_helps 39 = .ok (.iconst 1, 1) := by decide +kernel
theorem dX8_helps_40 : decode cX8_helps 40 = .ok (.iand, 1) := by decide +kernel
theorem dX8_helps_41 : decode cX8_helps 41 = .ok (.ifCond .eq 68, 3) := by decide +kernel
theorem dX8_helps_44 : decode cX8_helps 44 = .ok (.iload 5, 2) := by decide +kernel
theorem dX8_helps_46 : decode cX8_helps 46 = .ok (.iload_n 3, 1) := by decide +kernel
theorem dX8_helps_47 : decode cX8_helps 47 = .ok (.iconst 3, 1) := by decide +kernel
theorem dX8_helps_48 : decode cX8_helps 48 = .ok (.idiv, 1) := by decide +kernel
theorem dX8_helps_49 : decode cX8_helps 49 = .ok (.if_icmp .ne 6, 3) := by decide +kernel
theorem dX8_helps_52 : decode cX8_helps 52 = .ok (.goto 57, 3) := by decide +kernel
theorem dX8_helps_55 : decode cX8_helps 55 = .ok (.iload 4, 2) := by decide +kernel
theorem dX8_helps_57 : decode cX8_helps 57 = .ok (.ifCond .eq 26, 3) := by decide +kernel
theorem dX8_helps_60 : decode cX8_helps 60 = .ok (.aload_n 0, 1) := by decide +kernel
theorem dX8_helps_61 : decode cX8_helps 61 = .ok (.getfield 89, 3) := by decide +kernel
theorem dX8_helps_64 : decode cX8_helps 64 = .ok (.iload 6, 2) := by decide +kernel
theorem dX8_helps_66 : decode cX8_helps 66 = .ok (.iaload, 1) := by decide +kernel
theorem dX8_helps_67 : decode cX8_helps 67 = .ok (.ifCond .ne 16, 3) := by decide +kernel
theorem dX8_helps_70 : decode cX8_helps 70 = .ok (.aload_n 0, 1) := by decide +kernel
theorem dX8_helps_71 : decode cX8_helps 71 = .ok (.getfield 89, 3) := by decide +kernel
theorem dX8_helps_74 : decode cX8_helps 74 = .ok (.iload 6, 2) := by decide +kernel
theorem dX8_helps_76 : decode cX8_helps 76 = .ok (.sipush 900, 3) := by decide +kernel
theorem dX8_helps_79 : decode cX8_helps 79 = .ok (.iastore, 1) := by decide +kernel
theorem dX8_helps_80 : decode cX8_helps 80 = .ok (.goto 29, 3) := by decide +kernel
theorem dX8_helps_83 : decode cX8_helps 83 = .ok (.iload 4, 2) := by decide +kernel
theorem dX8_helps_85 : decode cX8_helps 85 = .ok (.ifCond .ne 24, 3) := by decide +kernel
theorem dX8_helps_88 : decode cX8_helps 88 = .ok (.aload_n 0, 1) := by decide +kernel
theorem dX8_helps_89 : decode cX8_helps 89 = .ok (.getfield 89, 3) := by decide +kernel
theorem dX8_helps_92 : decode cX8_helps 92 = .ok (.iload 6, 2) := by decide +kernel
theorem dX8_helps_94 : decode cX8_helps 94 = .ok (.iaload, 1) := by decide +kernel
theorem dX8_helps_95 : decode cX8_helps 95 = .ok (.sipush 900, 3) := by decide +kernel
theorem dX8_helps_98 : decode cX8_helps 98 = .ok (.if_icmp .ne 11, 3) := by decide +kernel
theorem dX8_helps_101 : decode cX8_helps 101 = .ok (.aload_n 0, 1) := by decide +kernel
theorem dX8_helps_102 : decode cX8_helps 102 = .ok (.getfield 89, 3) := by decide +kernel
theorem dX8_helps_105 : decode cX8_helps 105 = .ok (.iload 6, 2) := by decide +kernel
theorem dX8_helps_107 : decode cX8_helps 107 = .ok (.iconst 0, 1) := by decide +kernel
theorem dX8_helps_108 : decode cX8_helps 108 = .ok (.iastore, 1) := by decide +kernel
theorem dX8_helps_109 : decode cX8_helps 109 = .ok (.iinc 5 1, 3) := by decide +kernel
theorem dX8_helps_112 : decode cX8_helps 112 = .ok (.goto (-109), 3) := by decide +kernel
theorem dX8_helps_115 : decode cX8_helps 115 = .ok (.return_, 1) := by decide +kernel
set_option maxRecDepth 20000 in
theorem ggX8_alike_X8_isPlace : GoodIn wsX8_alike wsX8_isPlace := goodIn_r _ [12, 13, 14, 15, 16, 11, 17, 18, 19, 20, 21, 22, 23, 24, 25, 26, 27, 28, 29, 30, 31, 32, 33, 34, 35, 36, 37, 38, 39, 40, 41, 42, 43, 44, 45, 46, 47, 48, 49, 50, 51, 52, 53, 54, 55, 56, 57, 58, 59, 60, 61, 62, 63, 64] (by decide +kernel) (by decide +kernel)
set_option maxRecDepth 20000 in
theorem gX8_alike_X8_isPlace : GoodIn wsX8_alike (wsV RX8 149 RX8 yX8_isPlace wsX8_isPlace) := goodIn_app (goodIn_of _ (by decide +kernel)) ggX8_alike_X8_isPlace
theorem dX8_alike_0 : decode cX8_alike 0 = .ok (.aload_n 0, 1) := by decide +kernel
theorem dX8_alike_1 : decode cX8_alike 1 = .ok (.iload_n 1, 1) := by decide +kernel
theorem dX8_alike_2 : decode cX8_alike 2 = .ok (.iload_n 2, 1) := by decide +kernel
theorem dX8_alike_3 : decode cX8_alike 3 = .ok (.invokevirtual 149, 3) := by decide +kernel
theorem dX8_alike_6 : decode cX8_alike 6 = .ok (.ifCond .ne 5, 3) := by decide +kernel
theorem dX8_alike_9 : decode cX8_alike 9 = .ok (.iconst (-1), 1) := by decide +kernel
theorem dX8_alike_10 : decode cX8_alike 10 = .ok (.ireturn, 1) := by decide +kernel
theorem dX8_alike_11 : decode cX8_alike 11 = .ok (.aload_n 0, 1) := by decide +kernel
theorem dX8_alike_12 : decode cX8_alike 12 = .ok (.getfield 118, 3) := by decide +kernel
theorem dX8_alike_15 : decode cX8_alike 15 = .ok (.ifCond .ne 6, 3) := by decide +kernel
theorem dX8_alike_18 : decode cX8_alike 18 = .ok (.bipush (-3), 2) := by decide +kernel
theorem dX8_alike_20 : decode cX8_alike 20 = .ok (.ireturn, 1) := by decide +kernel
theorem dX8_alike_21 : decode cX8_alike 21 = .ok (.iconst 3, 1) := by decide +kernel
theorem dX8_alike_22 : decode cX8_alike 22 = .ok (.iload_n 1, 1) := by decide +kernel
theorem dX8_alike_23 : decode cX8_alike 23 = .ok (.imul, 1) := by decide +kernel
theorem dX8_alike_24 : decode cX8_alike 24 = .ok (.iload_n 2, 1) := by decide +kernel
theorem dX8_alike_25 : decode cX8_alike 25 = .ok (.iadd, 1) := by decide +kernel
theorem dX8_alike_26 : decode cX8_alike 26 = .ok (.istore_n 3, 1) := by decide +kernel
theorem dX8_alike_27 : decode cX8_alike 27 = .ok (.iconst 0, 1) := by decide +kernel
theorem dX8_alike_28 : decode cX8_alike 28 = .ok (.istore 4, 2) := by decide +kernel
theorem dX8_alike_30 : decode cX8_alike 30 = .ok (.iconst 0, 1) := by decide +kernel
theorem dX8_alike_31 : decode cX8_alike 31 = .ok (.istore 5, 2) := by decide +kernel
theorem dX8_alike_33 : decode cX8_alike 33 = .ok (.iload 5, 2) := by decide +kernel
theorem dX8_alike_35 : decode cX8_alike 35 = .ok (.aload_n 0, 1) := by decide +kernel
theorem dX8_alike_36 : decode cX8_alike 36 = .ok (.getfield 219, 3) := by decide +kernel
theorem dX8_alike_39 : decode cX8_alike 39 = .ok (.if_icmp .ge 109, 3) := by decide +kernel
theorem dX8_alike_42 : decode cX8_alike 42 = .ok (.iconst 0, 1) := by decide +kernel
theorem dX8_alike_43 : decode cX8_alike 43 = .ok (.istore 6, 2) := by decide +kernel
theorem dX8_alike_45 : decode cX8_alike 45 = .ok (.iconst 0, 1) := by decide +kernel
theorem dX8_alike_46 : decode cX8_alike 46 = .ok (.istore 7, 2) := by decide +kernel
theorem dX8_alike_48 : decode cX8_alike 48 = .ok (.iload 7, 2) := by decide +kernel
theorem dX8_alike_50 : decode cX8_alike 50 = .ok (.iconst 3, 1) := by decide +kernel
theorem dX8_alike_51 : decode cX8_alike 51 = .ok (.if_icmp .ge 65, 3) := by decide +kernel
theorem dX8_alike_54 : decode cX8_alike 54 = .ok (.iload 6, 2) := by decide +kernel
theorem dX8_alike_56 : decode cX8_alike 56 = .ok (.ifCond .ne 47, 3) := by decide +kernel
theorem dX8_alike_59 : decode cX8_alike 59 = .ok (.aload_n 0, 1) := by decide +kernel
theorem dX8_alike_60 : decode cX8_alike 60 = .ok (.getfield 65, 3) := by decide +kernel
theorem dX8_alike_63 : decode cX8_alike 63 = .ok (.iload 5, 2) := by decide +kernel
theorem dX8_alike_65 : decode cX8_alike 65 = .ok (.iaload, 1) := by decide +kernel
theorem dX8_alike_66 : decode cX8_alike 66 = .ok (.aload_n 0, 1) := by decide +kernel
theorem dX8_alike_67 : decode cX8_alike 67 = .ok (.getfield 74, 3) := by decide +kernel
theorem dX8_alike_70 : decode cX8_alike 70 = .ok (.iconst 3, 1) := by decide +kernel
theorem dX8_alike_71 : decode cX8_alike 71 = .ok (.iload_n 3, 1) := by decide +kernel
theorem dX8_alike_72 : decode cX8_alike 72 = .ok (.imul, 1) := by decide +kernel
theorem dX8_alike_73 : decode cX8_alike 73 = .ok (.iload 7, 2) := by decide +kernel
theorem dX8_alike_75 : decode cX8_alike 75 = .ok (.iadd, 1) := by decide +kernel
theorem dX8_alike_76 : decode cX8_alike 76 = .ok (.iaload, 1) := by decide +kernel
theorem dX8_alike_77 : decode cX8_alike 77 = .ok (.iconst 1, 1) := by decide +kernel
theorem dX8_alike_78 : decode cX8_alike 78 = .ok (.iadd, 1) := by decide +kernel
theorem dX8_alike_79 : decode cX8_alike 79 = .ok (.if_icmp .ne 28, 3) := by decide +kernel
theorem dX8_alike_82 : decode cX8_alike 82 = .ok (.aload_n 0, 1) := by decide +kernel
theorem dX8_alike_83 : decode cX8_alike 83 = .ok (.getfield 68, 3) := by decide +kernel
theorem dX8_alike_86 : decode cX8_alike 86 = .ok (.iload 5, 2) := by decide +kernel
theorem dX8_alike_88 : decode cX8_alike 88 = .ok (.iaload, 1) := by decide +kernel
theorem dX8_alike_89 : decode cX8_alike 89 = .ok (.aload_n 0, 1) := by decide +kernel
theorem dX8_alike_90 : decode cX8_alike 90 = .ok (.getfield 77, 3) := by decide +kernel
theorem dX8_alike_93 : decode cX8_alike 93 = .ok (.iconst 3, 1) := by decide +kernel
theorem dX8_alike_94 : decode cX8_alike 94 = .ok (.iload_n 3, 1) := by decide +kernel
theorem dX8_alike_95 : decode cX8_alike 95 = .ok (.imul, 1) := by decide +kernel
theorem dX8_alike_96 : decode cX8_alike 96 = .ok (.iload 7, 2) := by decide +kernel
theorem dX8_alike_98 : decode cX8_alike 98 = .ok (.iadd, 1) := by decide +kernel
theorem dX8_alike_99 : decode cX8_alike 99 = .ok (.iaload, 1) := by decide +kernel
theorem dX8_alike_100 : decode cX8_alike 100 = .ok (.if_icmp .ne 7, 3) := by decide +kernel
theorem dX8_alike_103 : decode cX8_alike 103 = .ok (.iconst 1, 1) := by decide +kernel
theorem dX8_alike_104 : decode cX8_alike 104 = .ok (.goto 4, 3) := by decide +kernel
theorem dX8_alike_107 : decode cX8_alike 107 = .ok (.iconst 0, 1) := by decide +kernel
theorem dX8_alike_108 : decode cX8_alike 108 = .ok (.istore 6, 2) := by decide +kernel
theorem dX8_alike_110 : decode cX8_alike 110 = .ok (.iinc 7 1, 3) := by decide +kernel
theorem dX8_alike_113 : decode cX8_alike 113 = .ok (.goto (-65), 3) := by decide +kernel
theorem dX8_alike_116 : decode cX8_alike 116 = .ok (.iload 4, 2) := by decide +kernel
theorem dX8_alike_118 : decode cX8_alike 118 = .ok (.aload_n 0, 1) := by decide +kernel
theorem dX8_alike_119 : decode cX8_alike 119 = .ok (.getfield 62, 3) := by decide +kernel
theorem dX8_alike_122 : decode cX8_alike 122 = .ok (.iload 5, 2) := by decide +kernel
theorem dX8_alike_124 : decode cX8_alike 124 = .ok (.iaload, 1) := by decide +kernel
theorem dX8_alike_125 : decode cX8_alike 125 = .ok (.iload_n 3, 1) := by decide +kernel
theorem dX8_alike_126 : decode cX8_alike 126 = .ok (.if_icmp .ne 12, 3) := by decide +kernel
theorem dX8_alike_129 : decode cX8_alike 129 = .ok (.iload 6, 2) := by decide +kernel
theorem dX8_alike_131 : decode cX8_alike 131 = .ok (.ifCond .eq 7, 3) := by decide +kernel
theorem dX8_alike_134 : decode cX8_alike 134 = .ok (.iconst 1, 1) := by decide +kernel
theorem dX8_alike_135 : decode cX8_alike 135 = .ok (.goto 4, 3) := by decide +kernel
theorem dX8_alike_138 : decode cX8_alike 138 = .ok (.iconst 0, 1) := by decide +kernel
theorem dX8_alike_139 : decode cX8_alike 139 = .ok (.iadd, 1) := by decide +kernel
theorem dX8_alike_140 : decode cX8_alike 140 = .ok (.istore 4, 2) := by decide +kernel
theorem dX8_alike_142 : decode cX8_alike 142 = .ok (.iinc 5 1, 3) := by decide +kernel
theorem dX8_alike_145 : decode cX8_alike 145 = .ok (.goto (-112), 3) := by decide +kernel
theorem dX8_alike_148 : decode cX8_alike 148 = .ok (.iload 4, 2) := by decide +kernel
theorem dX8_alike_150 : decode cX8_alike 150 = .ok (.ireturn, 1) := by decide +kernel
theorem dX8_count_0 : decode cX8_count 0 = .ok (.iload_n 1, 1) := by decide +kernel
theorem dX8_count_1 : decode cX8_count 1 = .ok (.tableswitch 69 0 5 #[39, 44, 49, 54, 59, 64], 39) := by decide +kernel
theorem dX8_count_40 : decode cX8_count 40 = .ok (.aload_n 0, 1) := by decide +kernel
theorem dX8_count_41 : decode cX8_count 41 = .ok (.getfield 104, 3) := by decide +kernel
theorem dX8_count_44 : decode cX8_count 44 = .ok (.ireturn, 1) := by decide +kernel
theorem dX8_count_45 : decode cX8_count 45 = .ok (.aload_n 0, 1) := by decide +kernel
theorem dX8_count_46 : decode cX8_count 46 = .ok (.getfield 118, 3) := by decide +kernel
theorem dX8_count_49 : decode cX8_count 49 = .ok (.ireturn, 1) := by decide +kernel
theorem dX8_count_50 : decode cX8_count 50 = .ok (.aload_n 0, 1) := by decide +kernel
theorem dX8_count_51 : decode cX8_count 51 = .ok (.getfield 228, 3) := by decide +kernel
theorem dX8_count_54 : decode cX8_count 54 = .ok (.ireturn, 1) := by decide +kernel
theorem dX8_count_55 : decode cX8_count 55 = .ok (.aload_n 0, 1) := by decide +kernel
theorem dX8_count_56 : decode cX8_count 56 = .ok (.getfield 206, 3) := by decide +kernel
end
section
theorem dX8_count_59 : decode cX8_count 59 = .ok (.ireturn, 1) := by decide +kernel
theorem dX8_count_60 : decode cX8_count 60 = .ok (.aload_n 0, 1) := by decide +kernel
theorem dX8_count_61 : decode cX8_count 61 = .ok (.getfield 123, 3) := by decide +kernel
theorem dX8_count_64 : decode cX8_count 64 = .ok (.ireturn, 1) := by decide +kernel
theorem dX8_count_65 : decode cX8_count 65 = .ok (.aload_n 0, 1) := by decide +kernel
theorem dX8_count_66 : decode cX8_count 66 = .ok (.getfield 195, 3) := by decide +kernel
theorem dX8_count_69 : decode cX8_count 69 = .ok (.ireturn, 1) := by decide +kernel
theorem dX8_count_70 : decode cX8_count 70 = .ok (.iconst (-1), 1) := by decide +kernel
theorem dX8_count_71 : decode cX8_count 71 = .ok (.ireturn, 1) := by decide +kernel
theorem dJ6_bitCount_0f7a4_0 : decode cJ6_bitCount_0f7a4 0 = .ok (.iload_n 0, 1) := by decide +kernel
theorem dJ6_bitCount_0f7a4_1 : decode cJ6_bitCount_0f7a4 1 = .ok (.iload_n 0, 1) := by decide +kernel
theorem dJ6_bitCount_0f7a4_2 : decode cJ6_bitCount_0f7a4 2 = .ok (.iconst 1, 1) := by decide +kernel
theorem dJ6_bitCount_0f7a4_3 : decode cJ6_bitCount_0f7a4 3 = .ok (.iushr, 1) := by decide +kernel
theorem dJ6_bitCount_0f7a4_4 : decode cJ6_bitCount_0f7a4 4 = .ok (.ldc_w 265, 3) := by decide +kernel
theorem dJ6_bitCount_0f7a4_7 : decode cJ6_bitCount_0f7a4 7 = .ok (.iand, 1) := by decide +kernel
theorem dJ6_bitCount_0f7a4_8 : decode cJ6_bitCount_0f7a4 8 = .ok (.isub, 1) := by decide +kernel
theorem dJ6_bitCount_0f7a4_9 : decode cJ6_bitCount_0f7a4 9 = .ok (.istore_n 0, 1) := by decide +kernel
theorem dJ6_bitCount_0f7a4_10 : decode cJ6_bitCount_0f7a4 10 = .ok (.iload_n 0, 1) := by decide +kernel
theorem dJ6_bitCount_0f7a4_11 : decode cJ6_bitCount_0f7a4 11 = .ok (.ldc_w 266, 3) := by decide +kernel
theorem dJ6_bitCount_0f7a4_14 : decode cJ6_bitCount_0f7a4 14 = .ok (.iand, 1) := by decide +kernel
theorem dJ6_bitCount_0f7a4_15 : decode cJ6_bitCount_0f7a4 15 = .ok (.iload_n 0, 1) := by decide +kernel
theorem dJ6_bitCount_0f7a4_16 : decode cJ6_bitCount_0f7a4 16 = .ok (.iconst 2, 1) := by decide +kernel
theorem dJ6_bitCount_0f7a4_17 : decode cJ6_bitCount_0f7a4 17 = .ok (.iushr, 1) := by decide +kernel
theorem dJ6_bitCount_0f7a4_18 : decode cJ6_bitCount_0f7a4 18 = .ok (.ldc_w 266, 3) := by decide +kernel
theorem dJ6_bitCount_0f7a4_21 : decode cJ6_bitCount_0f7a4 21 = .ok (.iand, 1) := by decide +kernel
theorem dJ6_bitCount_0f7a4_22 : decode cJ6_bitCount_0f7a4 22 = .ok (.iadd, 1) := by decide +kernel
theorem dJ6_bitCount_0f7a4_23 : decode cJ6_bitCount_0f7a4 23 = .ok (.istore_n 0, 1) := by decide +kernel
theorem dJ6_bitCount_0f7a4_24 : decode cJ6_bitCount_0f7a4 24 = .ok (.iload_n 0, 1) := by decide +kernel
theorem dJ6_bitCount_0f7a4_25 : decode cJ6_bitCount_0f7a4 25 = .ok (.iload_n 0, 1) := by decide +kernel
theorem dJ6_bitCount_0f7a4_26 : decode cJ6_bitCount_0f7a4 26 = .ok (.iconst 4, 1) := by decide +kernel
theorem dJ6_bitCount_0f7a4_27 : decode cJ6_bitCount_0f7a4 27 = .ok (.iushr, 1) := by decide +kernel
theorem dJ6_bitCount_0f7a4_28 : decode cJ6_bitCount_0f7a4 28 = .ok (.iadd, 1) := by decide +kernel
theorem dJ6_bitCount_0f7a4_29 : decode cJ6_bitCount_0f7a4 29 = .ok (.ldc_w 267, 3) := by decide +kernel
theorem dJ6_bitCount_0f7a4_32 : decode cJ6_bitCount_0f7a4 32 = .ok (.iand, 1) := by decide +kernel
theorem dJ6_bitCount_0f7a4_33 : decode cJ6_bitCount_0f7a4 33 = .ok (.istore_n 0, 1) := by decide +kernel
theorem dJ6_bitCount_0f7a4_34 : decode cJ6_bitCount_0f7a4 34 = .ok (.iload_n 0, 1) := by decide +kernel
theorem dJ6_bitCount_0f7a4_35 : decode cJ6_bitCount_0f7a4 35 = .ok (.iload_n 0, 1) := by decide +kernel
theorem dJ6_bitCount_0f7a4_36 : decode cJ6_bitCount_0f7a4 36 = .ok (.bipush 8, 2) := by decide +kernel
theorem dJ6_bitCount_0f7a4_38 : decode cJ6_bitCount_0f7a4 38 = .ok (.iushr, 1) := by decide +kernel
theorem dJ6_bitCount_0f7a4_39 : decode cJ6_bitCount_0f7a4 39 = .ok (.iadd, 1) := by decide +kernel
theorem dJ6_bitCount_0f7a4_40 : decode cJ6_bitCount_0f7a4 40 = .ok (.istore_n 0, 1) := by decide +kernel
theorem dJ6_bitCount_0f7a4_41 : decode cJ6_bitCount_0f7a4 41 = .ok (.iload_n 0, 1) := by decide +kernel
theorem dJ6_bitCount_0f7a4_42 : decode cJ6_bitCount_0f7a4 42 = .ok (.iload_n 0, 1) := by decide +kernel
theorem dJ6_bitCount_0f7a4_43 : decode cJ6_bitCount_0f7a4 43 = .ok (.bipush 16, 2) := by decide +kernel
theorem dJ6_bitCount_0f7a4_45 : decode cJ6_bitCount_0f7a4 45 = .ok (.iushr, 1) := by decide +kernel
theorem dJ6_bitCount_0f7a4_46 : decode cJ6_bitCount_0f7a4 46 = .ok (.iadd, 1) := by decide +kernel
theorem dJ6_bitCount_0f7a4_47 : decode cJ6_bitCount_0f7a4 47 = .ok (.istore_n 0, 1) := by decide +kernel
theorem dJ6_bitCount_0f7a4_48 : decode cJ6_bitCount_0f7a4 48 = .ok (.iload_n 0, 1) := by decide +kernel
theorem dJ6_bitCount_0f7a4_49 : decode cJ6_bitCount_0f7a4 49 = .ok (.bipush 63, 2) := by decide +kernel
theorem dJ6_bitCount_0f7a4_51 : decode cJ6_bitCount_0f7a4 51 = .ok (.iand, 1) := by decide +kernel
theorem dJ6_bitCount_0f7a4_52 : decode cJ6_bitCount_0f7a4 52 = .ok (.ireturn, 1) := by decide +kernel
theorem dJ9_max_7cf53_0 : decode cJ9_max_7cf53 0 = .ok (.iload_n 0, 1) := by decide +kernel
theorem dJ9_max_7cf53_1 : decode cJ9_max_7cf53 1 = .ok (.iload_n 1, 1) := by decide +kernel
theorem dJ9_max_7cf53_2 : decode cJ9_max_7cf53 2 = .ok (.if_icmp .lt 7, 3) := by decide +kernel
theorem dJ9_max_7cf53_5 : decode cJ9_max_7cf53 5 = .ok (.iload_n 0, 1) := by decide +kernel
theorem dJ9_max_7cf53_6 : decode cJ9_max_7cf53 6 = .ok (.goto 4, 3) := by decide +kernel
theorem dJ9_max_7cf53_9 : decode cJ9_max_7cf53 9 = .ok (.iload_n 1, 1) := by decide +kernel
theorem dJ9_max_7cf53_10 : decode cJ9_max_7cf53 10 = .ok (.ireturn, 1) := by decide +kernel
theorem dJ9_min_7cf53_0 : decode cJ9_min_7cf53 0 = .ok (.iload_n 0, 1) := by decide +kernel
theorem dJ9_min_7cf53_1 : decode cJ9_min_7cf53 1 = .ok (.iload_n 1, 1) := by decide +kernel
theorem dJ9_min_7cf53_2 : decode cJ9_min_7cf53 2 = .ok (.if_icmp .gt 7, 3) := by decide +kernel
theorem dJ9_min_7cf53_5 : decode cJ9_min_7cf53 5 = .ok (.iload_n 0, 1) := by decide +kernel
theorem dJ9_min_7cf53_6 : decode cJ9_min_7cf53 6 = .ok (.goto 4, 3) := by decide +kernel
theorem dJ9_min_7cf53_9 : decode cJ9_min_7cf53 9 = .ok (.iload_n 1, 1) := by decide +kernel
theorem dJ9_min_7cf53_10 : decode cJ9_min_7cf53 10 = .ok (.ireturn, 1) := by decide +kernel
theorem dJxa1e45_init_da8c8_0 : decode cJxa1e45_init_da8c8 0 = .ok (.aload_n 0, 1) := by decide +kernel
theorem dJxa1e45_init_da8c8_1 : decode cJxa1e45_init_da8c8 1 = .ok (.invokespecial 1, 3) := by decide +kernel
theorem dJxa1e45_init_da8c8_4 : decode cJxa1e45_init_da8c8 4 = .ok (.return_, 1) := by decide +kernel
set_option maxRecDepth 20000 in
theorem ggJxc12de_init_da8c8_Jxa1e45_init_da8c8 : GoodIn wsJxc12de_init_da8c8 wsJxa1e45_init_da8c8 := goodIn_r _ [5, 6, 7, 8] (by decide +kernel) (by decide +kernel)
set_option maxRecDepth 20000 in
theorem gJxc12de_init_da8c8_Jxa1e45_init_da8c8 : GoodIn wsJxc12de_init_da8c8 (wsJxa1e45_init_da8c8) := ggJxc12de_init_da8c8_Jxa1e45_init_da8c8
theorem dJxc12de_init_da8c8_0 : decode cJxc12de_init_da8c8 0 = .ok (.aload_n 0, 1) := by decide +kernel
theorem dJxc12de_init_da8c8_1 : decode cJxc12de_init_da8c8 1 = .ok (.invokespecial 1, 3) := by decide +kernel
theorem dJxc12de_init_da8c8_4 : decode cJxc12de_init_da8c8 4 = .ok (.aload_n 0, 1) := by decide +kernel
theorem dJxc12de_init_da8c8_5 : decode cJxc12de_init_da8c8 5 = .ok (.iconst 0, 1) := by decide +kernel
theorem dJxc12de_init_da8c8_6 : decode cJxc12de_init_da8c8 6 = .ok (.putfield 7, 3) := by decide +kernel
theorem dJxc12de_init_da8c8_9 : decode cJxc12de_init_da8c8 9 = .ok (.return_, 1) := by decide +kernel
set_option maxRecDepth 20000 in
theorem ggJx4a65c_init_da8c8_Jxc12de_init_da8c8 : GoodIn wsJx4a65c_init_da8c8 wsJxc12de_init_da8c8 := goodIn_r _ [6, 7, 8, 9, 10, 11, 12, 13, 14, 15, 16, 17] (by decide +kernel) (by decide +kernel)
set_option maxRecDepth 20000 in
theorem gJx4a65c_init_da8c8_Jxc12de_init_da8c8 : GoodIn wsJx4a65c_init_da8c8 (wsJxc12de_init_da8c8) := ggJx4a65c_init_da8c8_Jxc12de_init_da8c8
theorem dJx4a65c_init_da8c8_0 : decode cJx4a65c_init_da8c8 0 = .ok (.aload_n 0, 1) := by decide +kernel
theorem dJx4a65c_init_da8c8_1 : decode cJx4a65c_init_da8c8 1 = .ok (.invokespecial 1, 3) := by decide +kernel
theorem dJx4a65c_init_da8c8_4 : decode cJx4a65c_init_da8c8 4 = .ok (.aload_n 0, 1) := by decide +kernel
theorem dJx4a65c_init_da8c8_5 : decode cJx4a65c_init_da8c8 5 = .ok (.getstatic 39, 3) := by decide +kernel
theorem dJx4a65c_init_da8c8_8 : decode cJx4a65c_init_da8c8 8 = .ok (.putfield 9, 3) := by decide +kernel
theorem dJx4a65c_init_da8c8_11 : decode cJx4a65c_init_da8c8 11 = .ok (.return_, 1) := by decide +kernel
set_option maxRecDepth 20000 in
theorem ggJx4a65c_grow_92f84_J8_newLength_cabcc : GoodIn wsJx4a65c_grow_92f84 wsJ8_newLength_cabcc := goodIn_r _ [11, 12, 4, 5, 6, 13, 14, 15, 10, 16] (by decide +kernel) (by decide +kernel)
set_option maxRecDepth 20000 in
theorem gJx4a65c_grow_92f84_J8_newLength_cabcc : GoodIn wsJx4a65c_grow_92f84 (va_wsS RJx4a65c 73 yJ8_newLength_cabcc wsJ8_newLength_cabcc) := goodIn_app (goodIn_of _ (by decide +kernel)) ggJx4a65c_grow_92f84_J8_newLength_cabcc
set_option maxRecDepth 20000 in
theorem ggJx4a65c_grow_92f84_J7_copyOf_1904c : GoodIn wsJx4a65c_grow_92f84 wsJ7_copyOf_1904c := goodIn_r _ [20, 21, 22, 23, 24, 25, 26, 19, 27, 28, 29, 30, 31, 5, 32, 33, 34, 35, 36] (by decide +kernel) (by decide +kernel)
set_option maxRecDepth 20000 in
theorem gJx4a65c_grow_92f84_J7_copyOf_1904c : GoodIn wsJx4a65c_grow_92f84 (va_wsS RJx4a65c 66 yJ7_copyOf_1904c wsJ7_copyOf_1904c) := goodIn_app (goodIn_of _ (by decide +kernel)) ggJx4a65c_grow_92f84_J7_copyOf_1904c
theorem dJx4a65c_grow_92f84_0 : decode cJx4a65c_grow_92f84 0 = .ok (.aload_n 0, 1) := by decide +kernel
theorem dJx4a65c_grow_92f84_1 : decode cJx4a65c_grow_92f84 1 = .ok (.getfield 9, 3) := by decide +kernel
theorem dJx4a65c_grow_92f84_4 : decode cJx4a65c_grow_92f84 4 = .ok (.arraylength, 1) := by decide +kernel
theorem dJx4a65c_grow_92f84_5 : decode cJx4a65c_grow_92f84 5 = .ok (.istore_n 2, 1) := by decide +kernel
theorem dJx4a65c_grow_92f84_6 : decode cJx4a65c_grow_92f84 6 = .ok (.iload_n 2, 1) := by decide +kernel
theorem dJx4a65c_grow_92f84_7 : decode cJx4a65c_grow_92f84 7 = .ok (.ifCond .gt 13, 3) := by decide +kernel
theorem dJx4a65c_grow_92f84_10 : decode cJx4a65c_grow_92f84 10 = .ok (.aload_n 0, 1) := by decide +kernel
theorem dJx4a65c_grow_92f84_11 : decode cJx4a65c_grow_92f84 11 = .ok (.getfield 9, 3) := by decide +kernel
theorem dJx4a65c_grow_92f84_14 : decode cJx4a65c_grow_92f84 14 = .ok (.getstatic 39, 3) := by decide +kernel
theorem dJx4a65c_grow_92f84_17 : decode cJx4a65c_grow_92f84 17 = .ok (.if_acmp .eq 28, 3) := by decide +kernel
theorem dJx4a65c_grow_92f84_20 : decode cJx4a65c_grow_92f84 20 = .ok (.iload_n 2, 1) := by decide +kernel
theorem dJx4a65c_grow_92f84_21 : decode cJx4a65c_grow_92f84 21 = .ok (.iload_n 1, 1) := by decide +kernel
theorem dJx4a65c_grow_92f84_22 : decode cJx4a65c_grow_92f84 22 = .ok (.iload_n 2, 1) := by decide +kernel
theorem dJx4a65c_grow_92f84_23 : decode cJx4a65c_grow_92f84 23 = .ok (.isub, 1) := by decide +kernel
theorem dJx4a65c_grow_92f84_24 : decode cJx4a65c_grow_92f84 24 = .ok (.iload_n 2, 1) := by decide +kernel
theorem dJx4a65c_grow_92f84_25 : decode cJx4a65c_grow_92f84 25 = .ok (.iconst 1, 1) := by decide +kernel
theorem dJx4a65c_grow_92f84_26 : decode cJx4a65c_grow_92f84 26 = .ok (.ishr, 1) := by decide +kernel
theorem dJx4a65c_grow_92f84_27 : decode cJx4a65c_grow_92f84 27 = .ok (.invokestatic 73, 3) := by decide +kernel
theorem dJx4a65c_grow_92f84_30 : decode cJx4a65c_grow_92f84 30 = .ok (.istore_n 3, 1) := by decide +kernel
theorem dJx4a65c_grow_92f84_31 : decode cJx4a65c_grow_92f84 31 = .ok (.aload_n 0, 1) := by decide +kernel
theorem dJx4a65c_grow_92f84_32 : decode cJx4a65c_grow_92f84 32 = .ok (.aload_n 0, 1) := by decide +kernel
theorem dJx4a65c_grow_92f84_33 : decode cJx4a65c_grow_92f84 33 = .ok (.getfield 9, 3) := by decide +kernel
theorem dJx4a65c_grow_92f84_36 : decode cJx4a65c_grow_92f84 36 = .ok (.iload_n 3, 1) := by decide +kernel
theorem dJx4a65c_grow_92f84_37 : decode cJx4a65c_grow_92f84 37 = .ok (.invokestatic 66, 3) := by decide +kernel
theorem dJx4a65c_grow_92f84_40 : decode cJx4a65c_grow_92f84 40 = .ok (.dup_x1, 1) := by decide +kernel
theorem dJx4a65c_grow_92f84_41 : decode cJx4a65c_grow_92f84 41 = .ok (.putfield 9, 3) := by decide +kernel
theorem dJx4a65c_grow_92f84_44 : decode cJx4a65c_grow_92f84 44 = .ok (.areturn, 1) := by decide +kernel
theorem dJx4a65c_grow_92f84_45 : decode cJx4a65c_grow_92f84 45 = .ok (.aload_n 0, 1) := by decide +kernel
theorem dJx4a65c_grow_92f84_46 : decode cJx4a65c_grow_92f84 46 = .ok (.bipush 10, 2) := by decide +kernel
theorem dJx4a65c_grow_92f84_48 : decode cJx4a65c_grow_92f84 48 = .ok (.iload_n 1, 1) := by decide +kernel
theorem dJx4a65c_grow_92f84_49 : decode cJx4a65c_grow_92f84 49 = .ok (.invokestatic 79, 3) := by decide +kernel
theorem dJx4a65c_grow_92f84_52 : decode cJx4a65c_grow_92f84 52 = .ok (.anewarray 7, 3) := by decide +kernel
theorem dJx4a65c_grow_92f84_55 : decode cJx4a65c_grow_92f84 55 = .ok (.dup_x1, 1) := by decide +kernel
theorem dJx4a65c_grow_92f84_56 : decode cJx4a65c_grow_92f84 56 = .ok (.putfield 9, 3) := by decide +kernel
theorem dJx4a65c_grow_92f84_59 : decode cJx4a65c_grow_92f84 59 = .ok (.areturn, 1) := by decide +kernel
set_option maxRecDepth 20000 in
theorem ggJx4a65c_grow_d5877_Jx4a65c_grow_92f84 : GoodIn wsJx4a65c_grow_d5877 wsJx4a65c_grow_92f84 := goodIn_r _ [6, 7, 8, 9, 10, 11, 12, 13, 14, 15, 16, 17, 18, 19, 20, 21, 22, 23, 24, 25, 26, 27, 28, 29, 30, 31, 32, 33, 34, 35, 36, 37, 38, 39, 40, 41, 42, 43, 44, 45] (by decide +kernel) (by decide +kernel)
set_option maxRecDepth 20000 in
theorem gJx4a65c_grow_d5877_Jx4a65c_grow_92f84 : GoodIn wsJx4a65c_grow_d5877 (wsV RJx4a65c 69 RJx4a65c yJx4a65c_grow_92f84 wsJx4a65c_grow_92f84) := goodIn_app (goodIn_of _ (by decide +kernel)) ggJx4a65c_grow_d5877_Jx4a65c_grow_92f84
theorem dJx4a65c_grow_d5877_0 : decode cJx4a65c_grow_d5877 0 = .ok (.aload_n 0, 1) := by decide +kernel
theorem dJx4a65c_grow_d5877_1 : decode cJx4a65c_grow_d5877 1 = .ok (.aload_n 0, 1) := by decide +kernel
theorem dJx4a65c_grow_d5877_2 : decode cJx4a65c_grow_d5877 2 = .ok (.getfield 48, 3) := by decide +kernel
theorem dJx4a65c_grow_d5877_5 : decode cJx4a65c_grow_d5877 5 = .ok (.iconst 1, 1) := by decide +kernel
theorem dJx4a65c_grow_d5877_6 : decode cJx4a65c_grow_d5877 6 = .ok (.iadd, 1) := by decide +kernel
theorem dJx4a65c_grow_d5877_7 : decode cJx4a65c_grow_d5877 7 = .ok (.invokevirtual 69, 3) := by decide +kernel
theorem dJx4a65c_grow_d5877_10 : decode cJx4a65c_grow_d5877 10 = .ok (.areturn, 1) := by decide +kernel
theorem dJx4a65c_size_8abf5_0 : decode cJx4a65c_size_8abf5 0 = .ok (.aload_n 0, 1) := by decide +kernel
theorem dJx4a65c_size_8abf5_1 : decode cJx4a65c_size_8abf5 1 = .ok (.getfield 48, 3) := by decide +kernel
theorem dJx4a65c_size_8abf5_4 : decode cJx4a65c_size_8abf5 4 = .ok (.ireturn, 1) := by decide +kernel
theorem dJx4a65c_isEmpty_aae02_0 : decode cJx4a65c_isEmpty_aae02 0 = .ok (.aload_n 0, 1) := by decide +kernel
theorem dJx4a65c_isEmpty_aae02_1 : decode cJx4a65c_isEmpty_aae02 1 = .ok (.getfield 48, 3) := by decide +kernel
theorem dJx4a65c_isEmpty_aae02_4 : decode cJx4a65c_isEmpty_aae02 4 = .ok (.ifCond .ne 7, 3) := by decide +kernel
theorem dJx4a65c_isEmpty_aae02_7 : decode cJx4a65c_isEmpty_aae02 7 = .ok (.iconst 1, 1) := by decide +kernel
theorem dJx4a65c_isEmpty_aae02_8 : decode cJx4a65c_isEmpty_aae02 8 = .ok (.goto 4, 3) := by decide +kernel
theorem dJx4a65c_isEmpty_aae02_11 : decode cJx4a65c_isEmpty_aae02 11 = .ok (.iconst 0, 1) := by decide +kernel
theorem dJx4a65c_isEmpty_aae02_12 : decode cJx4a65c_isEmpty_aae02 12 = .ok (.ireturn, 1) := by decide +kernel
theorem dJx4a65c_elementData_915e3_0 : decode cJx4a65c_elementData_915e3 0 = .ok (.aload_n 0, 1) := by decide +kernel
theorem dJx4a65c_elementData_915e3_1 : decode cJx4a65c_elementData_915e3 1 = .ok (.getfield 9, 3) := by decide +kernel
theorem dJx4a65c_elementData_915e3_4 : decode cJx4a65c_elementData_915e3 4 = .ok (.iload_n 1, 1) := by decide +kernel
theorem dJx4a65c_elementData_915e3_5 : decode cJx4a65c_elementData_915e3 5 = .ok (.aaload, 1) := by decide +kernel
theorem dJx4a65c_elementData_915e3_6 : decode cJx4a65c_elementData_915e3 6 = .ok (.areturn, 1) := by decide +kernel
set_option maxRecDepth 20000 in
theorem ggJx4a65c_get_915e3_J15_checkIndex_7cf53 : GoodIn wsJx4a65c_get_915e3 wsJ15_checkIndex_7cf53 := goodIn_r _ [5, 6, 7, 8, 9] (by decide +kernel) (by decide +kernel)
set_option maxRecDepth 20000 in
theorem gJx4a65c_get_915e3_J15_checkIndex_7cf53 : GoodIn wsJx4a65c_get_915e3 (va_wsS RJx4a65c 118 yJ15_checkIndex_7cf53 wsJ15_checkIndex_7cf53) := goodIn_app (goodIn_of _ (by decide +kernel)) ggJx4a65c_get_915e3_J15_checkIndex_7cf53
set_option maxRecDepth 20000 in
theorem ggJx4a65c_get_915e3_Jx4a65c_elementData_915e3 : GoodIn wsJx4a65c_get_915e3 wsJx4a65c_elementData_915e3 := goodIn_r _ [14, 15, 16, 17, 18] (by decide +kernel) (by decide +kernel)
set_option maxRecDepth 20000 in
theorem gJx4a65c_get_915e3_Jx4a65c_elementData_915e3 : GoodIn wsJx4a65c_get_915e3 (wsV RJx4a65c 123 RJx4a65c yJx4a65c_elementData_915e3 wsJx4a65c_elementData_915e3) := goodIn_app (goodIn_of _ (by decide +kernel)) ggJx4a65c_get_915e3_Jx4a65c_elementData_915e3
theorem dJx4a65c_get_915e3_0 : decode cJx4a65c_get_915e3 0 = .ok (.iload_n 1, 1) := by decide +kernel
theorem dJx4a65c_get_915e3_1 : decode cJx4a65c_get_915e3 1 = .ok (.aload_n 0, 1) := by decide +kernel
theorem dJx4a65c_get_915e3_2 : decode cJx4a65c_get_915e3 2 = .ok (.getfield 48, 3) := by decide +kernel
theorem dJx4a65c_get_915e3_5 : decode cJx4a65c_get_915e3 5 = .ok (.invokestatic 118, 3) := by decide +kernel
theorem dJx4a65c_get_915e3_8 : decode cJx4a65c_get_915e3 8 = .ok (.pop, 1) := by decide +kernel
theorem dJx4a65c_get_915e3_9 : decode cJx4a65c_get_915e3 9 = .ok (.aload_n 0, 1) := by decide +kernel
theorem dJx4a65c_get_915e3_10 : decode cJx4a65c_get_915e3 10 = .ok (.iload_n 1, 1) := by decide +kernel
theorem dJx4a65c_get_915e3_11 : decode cJx4a65c_get_915e3 11 = .ok (.invokevirtual 123, 3) := by decide +kernel
theorem dJx4a65c_get_915e3_14 : decode cJx4a65c_get_915e3 14 = .ok (.areturn, 1) := by decide +kernel
set_option maxRecDepth 20000 in
theorem ggJx4a65c_add_72be8_Jx4a65c_grow_d5877 : GoodIn wsJx4a65c_add_72be8 wsJx4a65c_grow_d5877 := goodIn_r _ [6, 1, 7, 8, 9, 5, 10, 11, 12, 13, 14, 15, 16, 17, 18, 19, 20, 21, 22, 23, 24, 25, 26, 27, 28, 29, 30, 31, 32, 33, 34, 35, 36, 37, 38, 39, 40, 41, 42, 43, 44, 45, 46, 47, 48, 49] (by decide +kernel) (by decide +kernel)
set_option maxRecDepth 20000 in
theorem gJx4a65c_add_72be8_Jx4a65c_grow_d5877 : GoodIn wsJx4a65c_add_72be8 (wsV RJx4a65c 129 RJx4a65c yJx4a65c_grow_d5877 wsJx4a65c_grow_d5877) := goodIn_app (goodIn_of _ (by decide +kernel)) ggJx4a65c_add_72be8_Jx4a65c_grow_d5877
theorem dJx4a65c_add_72be8_0 : decode cJx4a65c_add_72be8 0 = .ok (.iload_n 3, 1) := by decide +kernel
theorem dJx4a65c_add_72be8_1 : decode cJx4a65c_add_72be8 1 = .ok (.aload_n 2, 1) := by decide +kernel
theorem dJx4a65c_add_72be8_2 : decode cJx4a65c_add_72be8 2 = .ok (.arraylength, 1) := by decide +kernel
theorem dJx4a65c_add_72be8_3 : decode cJx4a65c_add_72be8 3 = .ok (.if_icmp .ne 8, 3) := by decide +kernel
theorem dJx4a65c_add_72be8_6 : decode cJx4a65c_add_72be8 6 = .ok (.aload_n 0, 1) := by decide +kernel
theorem dJx4a65c_add_72be8_7 : decode cJx4a65c_add_72be8 7 = .ok (.invokevirtual 129, 3) := by decide +kernel
theorem dJx4a65c_add_72be8_10 : decode cJx4a65c_add_72be8 10 = .ok (.astore_n 2, 1) := by decide +kernel
theorem dJx4a65c_add_72be8_11 : decode cJx4a65c_add_72be8 11 = .ok (.aload_n 2, 1) := by decide +kernel
theorem dJx4a65c_add_72be8_12 : decode cJx4a65c_add_72be8 12 = .ok (.iload_n 3, 1) := by decide +kernel
theorem dJx4a65c_add_72be8_13 : decode cJx4a65c_add_72be8 13 = .ok (.aload_n 1, 1) := by decide +kernel
theorem dJx4a65c_add_72be8_14 : decode cJx4a65c_add_72be8 14 = .ok (.aastore, 1) := by decide +kernel
theorem dJx4a65c_add_72be8_15 : decode cJx4a65c_add_72be8 15 = .ok (.aload_n 0, 1) := by decide +kernel
theorem dJx4a65c_add_72be8_16 : decode cJx4a65c_add_72be8 16 = .ok (.iload_n 3, 1) := by decide +kernel
theorem dJx4a65c_add_72be8_17 : decode cJx4a65c_add_72be8 17 = .ok (.iconst 1, 1) := by decide +kernel
theorem dJx4a65c_add_72be8_18 : decode cJx4a65c_add_72be8 18 = .ok (.iadd, 1) := by decide +kernel
theorem dJx4a65c_add_72be8_19 : decode cJx4a65c_add_72be8 19 = .ok (.putfield 48, 3) := by decide +kernel
theorem dJx4a65c_add_72be8_22 : decode cJx4a65c_add_72be8 22 = .ok (.return_, 1) := by decide +kernel
set_option maxRecDepth 20000 in
theorem ggJx4a65c_add_9ea2d_Jx4a65c_add_72be8 : GoodIn wsJx4a65c_add_9ea2d wsJx4a65c_add_72be8 := goodIn_r _ [9, 4, 10, 11, 12, 8, 13, 14, 15, 16, 17, 3, 18, 19, 20, 21, 22, 23, 24, 25, 26, 27, 28, 29, 30, 31, 32, 33, 34, 35, 36, 37, 38, 39, 40, 41, 42, 43, 44, 45, 46, 47, 48, 49, 50, 51, 52, 53, 54, 55] (by decide +kernel) (by decide +kernel)
set_option maxRecDepth 20000 in
theorem gJx4a65c_add_9ea2d_Jx4a65c_add_72be8 : GoodIn wsJx4a65c_add_9ea2d (wsV RJx4a65c 131 RJx4a65c yJx4a65c_add_72be8 wsJx4a65c_add_72be8) := goodIn_app (goodIn_of _ (by decide +kernel)) ggJx4a65c_add_9ea2d_Jx4a65c_add_72be8
theorem dJx4a65c_add_9ea2d_0 : decode cJx4a65c_add_9ea2d 0 = .ok (.aload_n 0, 1) := by decide +kernel
theorem dJx4a65c_add_9ea2d_1 : decode cJx4a65c_add_9ea2d 1 = .ok (.dup, 1) := by decide +kernel
theorem dJx4a65c_add_9ea2d_2 : decode cJx4a65c_add_9ea2d 2 = .ok (.getfield 63, 3) := by decide +kernel
theorem dJx4a65c_add_9ea2d_5 : decode cJx4a65c_add_9ea2d 5 = .ok (.iconst 1, 1) := by decide +kernel
theorem dJx4a65c_add_9ea2d_6 : decode cJx4a65c_add_9ea2d 6 = .ok (.iadd, 1) := by decide +kernel
theorem dJx4a65c_add_9ea2d_7 : decode cJx4a65c_add_9ea2d 7 = .ok (.putfield 63, 3) := by decide +kernel
theorem dJx4a65c_add_9ea2d_10 : decode cJx4a65c_add_9ea2d 10 = .ok (.aload_n 0, 1) := by decide +kernel
theorem dJx4a65c_add_9ea2d_11 : decode cJx4a65c_add_9ea2d 11 = .ok (.aload_n 1, 1) := by decide +kernel
theorem dJx4a65c_add_9ea2d_12 : decode cJx4a65c_add_9ea2d 12 = .ok (.aload_n 0, 1) := by decide +kernel
theorem dJx4a65c_add_9ea2d_13 : decode cJx4a65c_add_9ea2d 13 = .ok (.getfield 9, 3) := by decide +kernel
theorem dJx4a65c_add_9ea2d_16 : decode cJx4a65c_add_9ea2d 16 = .ok (.aload_n 0, 1) := by decide +kernel
theorem dJx4a65c_add_9ea2d_17 : decode cJx4a65c_add_9ea2d 17 = .ok (.getfield 48, 3) := by decide +kernel
theorem dJx4a65c_add_9ea2d_20 : decode cJx4a65c_add_9ea2d 20 = .ok (.invokevirtual 131, 3) := by decide +kernel
theorem dJx4a65c_add_9ea2d_23 : decode cJx4a65c_add_9ea2d 23 = .ok (.iconst 1, 1) := by decide +kernel
theorem dJx4a65c_add_9ea2d_24 : decode cJx4a65c_add_9ea2d 24 = .ok (.ireturn, 1) := by decide +kernel
set_option maxRecDepth 20000 in
theorem ggJ7_copyOf_1904c_J7_copyOf_6403c : GoodIn wsJ7_copyOf_1904c wsJ7_copyOf_6403c := goodIn_r _ [8, 9, 10, 11, 12, 13, 14, 15, 16, 17, 18] (by decide +kernel) (by decide +kernel)
set_option maxRecDepth 20000 in
theorem gJ7_copyOf_1904c_J7_copyOf_6403c : GoodIn wsJ7_copyOf_1904c (va_wsS RJ7 300 yJ7_copyOf_6403c wsJ7_copyOf_6403c) := goodIn_app (goodIn_of _ (by decide +kernel)) ggJ7_copyOf_1904c_J7_copyOf_6403c
theorem dJ7_copyOf_1904c_0 : decode cJ7_copyOf_1904c 0 = .ok (.aload_n 0, 1) := by decide +kernel
theorem dJ7_copyOf_1904c_1 : decode cJ7_copyOf_1904c 1 = .ok (.iload_n 1, 1) := by decide +kernel
theorem dJ7_copyOf_1904c_2 : decode cJ7_copyOf_1904c 2 = .ok (.aload_n 0, 1) := by decide +kernel
theorem dJ7_copyOf_1904c_3 : decode cJ7_copyOf_1904c 3 = .ok (.invokevirtual 86, 3) := by decide +kernel
theorem dJ7_copyOf_1904c_6 : decode cJ7_copyOf_1904c 6 = .ok (.invokestatic 300, 3) := by decide +kernel
theorem dJ7_copyOf_1904c_9 : decode cJ7_copyOf_1904c 9 = .ok (.areturn, 1) := by decide +kernel
theorem dJ7_copyOf_6403c_0 : decode cJ7_copyOf_6403c 0 = .ok (.aload_n 2, 1) := by decide +kernel
theorem dJ7_copyOf_6403c_1 : decode cJ7_copyOf_6403c 1 = .ok (.ldc 110, 2) := by decide +kernel
theorem dJ7_copyOf_6403c_3 : decode cJ7_copyOf_6403c 3 = .ok (.if_acmp .ne 10, 3) := by decide +kernel
theorem dJ7_copyOf_6403c_6 : decode cJ7_copyOf_6403c 6 = .ok (.iload_n 1, 1) := by decide +kernel
theorem dJ7_copyOf_6403c_7 : decode cJ7_copyOf_6403c 7 = .ok (.anewarray 2, 3) := by decide +kernel
theorem dJ7_copyOf_6403c_10 : decode cJ7_copyOf_6403c 10 = .ok (.goto 14, 3) := by decide +kernel
theorem dJ7_copyOf_6403c_13 : decode cJ7_copyOf_6403c 13 = .ok (.aload_n 2, 1) := by decide +kernel
theorem dJ7_copyOf_6403c_14 : decode cJ7_copyOf_6403c 14 = .ok (.invokevirtual 90, 3) := by decide +kernel
theorem dJ7_copyOf_6403c_17 : decode cJ7_copyOf_6403c 17 = .ok (.iload_n 1, 1) := by decide +kernel
theorem dJ7_copyOf_6403c_18 : decode cJ7_copyOf_6403c 18 = .ok (.invokestatic 95, 3) := by decide +kernel
theorem dJ7_copyOf_6403c_21 : decode cJ7_copyOf_6403c 21 = .ok (.checkcast 110, 3) := by decide +kernel
theorem dJ7_copyOf_6403c_24 : decode cJ7_copyOf_6403c 24 = .ok (.astore_n 3, 1) := by decide +kernel
theorem dJ7_copyOf_6403c_25 : decode cJ7_copyOf_6403c 25 = .ok (.aload_n 0, 1) := by decide +kernel
theorem dJ7_copyOf_6403c_26 : decode cJ7_copyOf_6403c 26 = .ok (.iconst 0, 1) := by decide +kernel
theorem dJ7_copyOf_6403c_27 : decode cJ7_copyOf_6403c 27 = .ok (.aload_n 3, 1) := by decide +kernel
theorem dJ7_copyOf_6403c_28 : decode cJ7_copyOf_6403c 28 = .ok (.iconst 0, 1) := by decide +kernel
theorem dJ7_copyOf_6403c_29 : decode cJ7_copyOf_6403c 29 = .ok (.aload_n 0, 1) := by decide +kernel
theorem dJ7_copyOf_6403c_30 : decode cJ7_copyOf_6403c 30 = .ok (.arraylength, 1) := by decide +kernel
theorem dJ7_copyOf_6403c_31 : decode cJ7_copyOf_6403c 31 = .ok (.iload_n 1, 1) := by decide +kernel
theorem dJ7_copyOf_6403c_32 : decode cJ7_copyOf_6403c 32 = .ok (.invokestatic 304, 3) := by decide +kernel
theorem dJ7_copyOf_6403c_35 : decode cJ7_copyOf_6403c 35 = .ok (.invokestatic 150, 3) := by decide +kernel
theorem dJ7_copyOf_6403c_38 : decode cJ7_copyOf_6403c 38 = .ok (.aload_n 3, 1) := by decide +kernel
theorem dJ7_copyOf_6403c_39 : decode cJ7_copyOf_6403c 39 = .ok (.areturn, 1) := by decide +kernel
set_option maxRecDepth 20000 in
theorem ggJ15_checkIndex_7cf53_J3_checkIndex_8e157 : GoodIn wsJ15_checkIndex_7cf53 wsJ3_checkIndex_8e157 := goodIn_r _ [4] (by decide +kernel) (by decide +kernel)
set_option maxRecDepth 20000 in
theorem gJ15_checkIndex_7cf53_J3_checkIndex_8e157 : GoodIn wsJ15_checkIndex_7cf53 (va_wsS RJ15 105 yJ3_checkIndex_8e157 wsJ3_checkIndex_8e157) := goodIn_app (goodIn_of _ (by decide +kernel)) ggJ15_checkIndex_7cf53_J3_checkIndex_8e157
theorem dJ15_checkIndex_7cf53_0 : decode cJ15_checkIndex_7cf53 0 = .ok (.iload_n 0, 1) := by decide +kernel
theorem dJ15_checkIndex_7cf53_1 : decode cJ15_checkIndex_7cf53 1 = .ok (.iload_n 1, 1) := by decide +kernel
theorem dJ15_checkIndex_7cf53_2 : decode cJ15_checkIndex_7cf53 2 = .ok (.aconst_null, 1) := by decide +kernel
theorem dJ15_checkIndex_7cf53_3 : decode cJ15_checkIndex_7cf53 3 = .ok (.invokestatic 105, 3) := by decide +kernel
theorem dJ15_checkIndex_7cf53_6 : decode cJ15_checkIndex_7cf53 6 = .ok (.ireturn, 1) := by decide +kernel
set_option maxRecDepth 20000 in
theorem ggJ8_newLength_cabcc_J8_hugeLength_7cf53 : GoodIn wsJ8_newLength_cabcc wsJ8_hugeLength_7cf53 := goodIn_r _ [9, 5] (by decide +kernel) (by decide +kernel)
set_option maxRecDepth 20000 in
theorem gJ8_newLength_cabcc_J8_hugeLength_7cf53 : GoodIn wsJ8_newLength_cabcc (va_wsS RJ8 201 yJ8_hugeLength_7cf53 wsJ8_hugeLength_7cf53) := goodIn_app (goodIn_of _ (by decide +kernel)) ggJ8_newLength_cabcc_J8_hugeLength_7cf53
theorem dJ8_newLength_cabcc_0 : decode cJ8_newLength_cabcc 0 = .ok (.iload_n 0, 1) := by decide +kernel
theorem dJ8_newLength_cabcc_1 : decode cJ8_newLength_cabcc 1 = .ok (.iload_n 1, 1) := by decide +kernel
theorem dJ8_newLength_cabcc_2 : decode cJ8_newLength_cabcc 2 = .ok (.iload_n 2, 1) := by decide +kernel
theorem dJ8_newLength_cabcc_3 : decode cJ8_newLength_cabcc 3 = .ok (.invokestatic 194, 3) := by decide +kernel
theorem dJ8_newLength_cabcc_6 : decode cJ8_newLength_cabcc 6 = .ok (.iadd, 1) := by decide +kernel
theorem dJ8_newLength_cabcc_7 : decode cJ8_newLength_cabcc 7 = .ok (.istore_n 3, 1) := by decide +kernel
theorem dJ8_newLength_cabcc_8 : decode cJ8_newLength_cabcc 8 = .ok (.iconst 0, 1) := by decide +kernel
theorem dJ8_newLength_cabcc_9 : decode cJ8_newLength_cabcc 9 = .ok (.iload_n 3, 1) := by decide +kernel
theorem dJ8_newLength_cabcc_10 : decode cJ8_newLength_cabcc 10 = .ok (.if_icmp .ge 11, 3) := by decide +kernel
theorem dJ8_newLength_cabcc_13 : decode cJ8_newLength_cabcc 13 = .ok (.iload_n 3, 1) := by decide +kernel
theorem dJ8_newLength_cabcc_14 : decode cJ8_newLength_cabcc 14 = .ok (.ldc 200, 2) := by decide +kernel
theorem dJ8_newLength_cabcc_16 : decode cJ8_newLength_cabcc 16 = .ok (.if_icmp .gt 5, 3) := by decide +kernel
theorem dJ8_newLength_cabcc_19 : decode cJ8_newLength_cabcc 19 = .ok (.iload_n 3, 1) := by decide +kernel
theorem dJ8_newLength_cabcc_20 : decode cJ8_newLength_cabcc 20 = .ok (.ireturn, 1) := by decide +kernel
theorem dJ8_newLength_cabcc_21 : decode cJ8_newLength_cabcc 21 = .ok (.iload_n 0, 1) := by decide +kernel
theorem dJ8_newLength_cabcc_22 : decode cJ8_newLength_cabcc 22 = .ok (.iload_n 1, 1) := by decide +kernel
theorem dJ8_newLength_cabcc_23 : decode cJ8_newLength_cabcc 23 = .ok (.invokestatic 201, 3) := by decide +kernel
theorem dJ8_newLength_cabcc_26 : decode cJ8_newLength_cabcc 26 = .ok (.ireturn, 1) := by decide +kernel
theorem dJ8_hugeLength_7cf53_0 : decode cJ8_hugeLength_7cf53 0 = .ok (.iload_n 0, 1) := by decide +kernel
theorem dJ8_hugeLength_7cf53_1 : decode cJ8_hugeLength_7cf53 1 = .ok (.iload_n 1, 1) := by decide +kernel
theorem dJ8_hugeLength_7cf53_2 : decode cJ8_hugeLength_7cf53 2 = .ok (.iadd, 1) := by decide +kernel
theorem dJ8_hugeLength_7cf53_3 : decode cJ8_hugeLength_7cf53 3 = .ok (.istore_n 2, 1) := by decide +kernel
theorem dJ8_hugeLength_7cf53_4 : decode cJ8_hugeLength_7cf53 4 = .ok (.iload_n 2, 1) := by decide +kernel
theorem dJ8_hugeLength_7cf53_5 : decode cJ8_hugeLength_7cf53 5 = .ok (.ifCond .ge 44, 3) := by decide +kernel
theorem dJ8_hugeLength_7cf53_8 : decode cJ8_hugeLength_7cf53 8 = .ok (.new 204, 3) := by decide +kernel
theorem dJ8_hugeLength_7cf53_11 : decode cJ8_hugeLength_7cf53 11 = .ok (.dup, 1) := by decide +kernel
theorem dJ8_hugeLength_7cf53_12 : decode cJ8_hugeLength_7cf53 12 = .ok (.new 89, 3) := by decide +kernel
theorem dJ8_hugeLength_7cf53_15 : decode cJ8_hugeLength_7cf53 15 = .ok (.dup, 1) := by decide +kernel
theorem dJ8_hugeLength_7cf53_16 : decode cJ8_hugeLength_7cf53 16 = .ok (.invokespecial 91, 3) := by decide +kernel
theorem dJ8_hugeLength_7cf53_19 : decode cJ8_hugeLength_7cf53 19 = .ok (.ldc 206, 2) := by decide +kernel
theorem dJ8_hugeLength_7cf53_21 : decode cJ8_hugeLength_7cf53 21 = .ok (.invokevirtual 94, 3) := by decide +kernel
theorem dJ8_hugeLength_7cf53_24 : decode cJ8_hugeLength_7cf53 24 = .ok (.iload_n 0, 1) := by decide +kernel
theorem dJ8_hugeLength_7cf53_25 : decode cJ8_hugeLength_7cf53 25 = .ok (.invokevirtual 98, 3) := by decide +kernel
theorem dJ8_hugeLength_7cf53_28 : decode cJ8_hugeLength_7cf53 28 = .ok (.ldc 208, 2) := by decide +kernel
theorem dJ8_hugeLength_7cf53_30 : decode cJ8_hugeLength_7cf53 30 = .ok (.invokevirtual 94, 3) := by decide +kernel
theorem dJ8_hugeLength_7cf53_33 : decode cJ8_hugeLength_7cf53 33 = .ok (.iload_n 1, 1) := by decide +kernel
theorem dJ8_hugeLength_7cf53_34 : decode cJ8_hugeLength_7cf53 34 = .ok (.invokevirtual 98, 3) := by decide +kernel
theorem dJ8_hugeLength_7cf53_37 : decode cJ8_hugeLength_7cf53 37 = .ok (.ldc 210, 2) := by decide +kernel
theorem dJ8_hugeLength_7cf53_39 : decode cJ8_hugeLength_7cf53 39 = .ok (.invokevirtual 94, 3) := by decide +kernel
theorem dJ8_hugeLength_7cf53_42 : decode cJ8_hugeLength_7cf53 42 = .ok (.invokevirtual 101, 3) := by decide +kernel
theorem dJ8_hugeLength_7cf53_45 : decode cJ8_hugeLength_7cf53 45 = .ok (.invokespecial 212, 3) := by decide +kernel
theorem dJ8_hugeLength_7cf53_48 : decode cJ8_hugeLength_7cf53 48 = .ok (.athrow, 1) := by decide +kernel
theorem dJ8_hugeLength_7cf53_49 : decode cJ8_hugeLength_7cf53 49 = .ok (.iload_n 2, 1) := by decide +kernel
theorem dJ8_hugeLength_7cf53_50 : decode cJ8_hugeLength_7cf53 50 = .ok (.ldc 200, 2) := by decide +kernel
theorem dJ8_hugeLength_7cf53_52 : decode cJ8_hugeLength_7cf53 52 = .ok (.if_icmp .gt 6, 3) := by decide +kernel
theorem dJ8_hugeLength_7cf53_55 : decode cJ8_hugeLength_7cf53 55 = .ok (.ldc 200, 2) := by decide +kernel
theorem dJ8_hugeLength_7cf53_57 : decode cJ8_hugeLength_7cf53 57 = .ok (.ireturn, 1) := by decide +kernel
theorem dJ8_hugeLength_7cf53_58 : decode cJ8_hugeLength_7cf53 58 = .ok (.iload_n 2, 1) := by decide +kernel
theorem dJ8_hugeLength_7cf53_59 : decode cJ8_hugeLength_7cf53 59 = .ok (.ireturn, 1) := by decide +kernel
theorem dJ3_checkIndex_8e157_0 : decode cJ3_checkIndex_8e157 0 = .ok (.iload_n 0, 1) := by decide +kernel
theorem dJ3_checkIndex_8e157_1 : decode cJ3_checkIndex_8e157 1 = .ok (.ifCond .lt 8, 3) := by decide +kernel
theorem dJ3_checkIndex_8e157_4 : decode cJ3_checkIndex_8e157 4 = .ok (.iload_n 0, 1) := by decide +kernel
theorem dJ3_checkIndex_8e157_5 : decode cJ3_checkIndex_8e157 5 = .ok (.iload_n 1, 1) := by decide +kernel
theorem dJ3_checkIndex_8e157_6 : decode cJ3_checkIndex_8e157 6 = .ok (.if_icmp .lt 10, 3) := by decide +kernel
theorem dJ3_checkIndex_8e157_9 : decode cJ3_checkIndex_8e157 9 = .ok (.aload_n 2, 1) := by decide +kernel
theorem dJ3_checkIndex_8e157_10 : decode cJ3_checkIndex_8e157 10 = .ok (.iload_n 0, 1) := by decide +kernel
theorem dJ3_checkIndex_8e157_11 : decode cJ3_checkIndex_8e157 11 = .ok (.iload_n 1, 1) := by decide +kernel
theorem dJ3_checkIndex_8e157_12 : decode cJ3_checkIndex_8e157 12 = .ok (.invokestatic 95, 3) := by decide +kernel
theorem dJ3_checkIndex_8e157_15 : decode cJ3_checkIndex_8e157 15 = .ok (.athrow, 1) := by decide +kernel
theorem dJ3_checkIndex_8e157_16 : decode cJ3_checkIndex_8e157 16 = .ok (.iload_n 0, 1) := by decide +kernel
theorem dJ3_checkIndex_8e157_17 : decode cJ3_checkIndex_8e157 17 = .ok (.ireturn, 1) := by decide +kernel
set_option maxRecDepth 20000 in
theorem ggL_law_X7_init : GoodIn wsL_law wsX7_init := goodIn_r _ [9, 10, 11, 12, 13, 14, 15, 16, 17, 18, 19, 20, 21, 22, 23, 24, 25, 26, 27, 28, 29, 30, 31, 32, 33, 34, 35, 36, 37, 38, 39, 40, 41, 42, 43, 44, 45, 46, 47, 48, 49, 50, 51, 52, 53, 54, 55, 56, 57, 58, 59, 60, 61, 62, 63, 64, 65, 66, 67, 68, 69, 70, 71, 676, 677, 678, 679, 680, 681, 682, 683, 684, 685, 729, 730, 731, 732, 733, 734, 735, 736, 737, 738, 739, 740, 741, 742, 743, 744, 745, 746, 747] (by decide +kernel) (by decide +kernel)
set_option maxRecDepth 20000 in
theorem gL_law_X7_init : GoodIn wsL_law (wsX7_init) := ggL_law_X7_init
set_option maxRecDepth 20000 in
theorem ggL_law_X8_init : GoodIn wsL_law wsX8_init := goodIn_r _ [74, 75, 11, 12, 13, 76, 77, 78, 79, 80, 81, 82, 83, 84, 85, 86, 87, 88, 89, 90, 91, 92, 93, 94, 95, 96, 97, 98, 99, 100, 101, 102, 103, 104, 105, 106, 107, 686, 687, 688, 689, 690, 691, 692, 693, 694, 695, 696, 697, 698, 699, 700, 701, 702, 703, 704, 705, 706, 707, 708, 709, 710, 711, 712, 713, 714, 715, 716, 717, 718, 719, 720, 721, 722, 723, 724, 725, 726, 727, 728] (by decide +kernel) (by decide +kernel)
set_option maxRecDepth 20000 in
theorem gL_law_X8_init : GoodIn wsL_law (wsX8_init) := ggL_law_X8_init
set_option maxRecDepth 20000 in
theorem ggL_law_X7_team : GoodIn wsL_law wsX7_team := goodIn_r _ [111, 112, 18, 113, 114, 115, 116, 117, 118, 2, 119, 120, 121, 122, 17, 123, 124, 125, 126, 127, 11, 12, 13, 128, 129, 130, 131, 132, 133, 134, 135, 136, 137, 138, 139, 140, 141, 142, 41, 143, 144, 145, 146, 147, 148, 149, 150, 151, 152, 153, 154, 40, 155, 156, 157, 158, 159, 160, 161, 162, 163, 164, 165, 166, 167, 168, 169, 170, 171, 172, 173, 174, 175, 176, 177, 178, 179, 180, 181, 182, 183, 184, 185, 186, 187, 188, 676, 677, 678, 679, 680, 681, 682, 683, 684, 685, 748, 749, 750, 751, 752, 753, 754, 755, 756, 757, 758, 759, 760, 761, 729, 730, 731] (by decide +kernel) (by decide +kernel)
set_option maxRecDepth 20000 in
theorem gL_law_X7_team : GoodIn wsL_law (wsV RL 13 RX7 yX7_team wsX7_team) := goodIn_app (goodIn_of _ (by decide +kernel)) ggL_law_X7_team
set_option maxRecDepth 20000 in
theorem ggL_law_X8_team : GoodIn wsL_law wsX8_team := goodIn_r _ [192, 193, 194, 686, 687, 688, 689, 690, 691, 692, 693, 694, 695, 696, 697, 698, 699, 700, 701, 702, 703, 704, 705, 706, 707, 708, 709, 710, 711, 712, 713, 714, 715, 716, 717, 718, 719, 720, 721, 722, 723, 724, 725, 726, 727, 728] (by decide +kernel) (by decide +kernel)
set_option maxRecDepth 20000 in
theorem gL_law_X8_team : GoodIn wsL_law (wsV RL 17 RX8 yX8_team wsX8_team) := goodIn_app (goodIn_of _ (by decide +kernel)) ggL_law_X8_team
set_option maxRecDepth 20000 in
theorem ggL_law_X7_feed : GoodIn wsL_law wsX7_feed := goodIn_r _ [198, 23, 199, 22, 200, 201, 55, 202, 203, 676, 677, 678, 679, 680, 681, 682, 683, 684, 685, 732, 733] (by decide +kernel) (by decide +kernel)
set_option maxRecDepth 20000 in
theorem gL_law_X7_feed : GoodIn wsL_law (wsV RL 20 RX7 yX7_feed wsX7_feed) := goodIn_app (goodIn_of _ (by decide +kernel)) ggL_law_X7_feed
set_option maxRecDepth 20000 in
theorem ggL_law_X8_feed : GoodIn wsL_law wsX8_feed := goodIn_r _ [207, 208, 209, 76, 210, 211, 212, 5, 213, 686, 687, 688, 689, 690, 691, 692, 693, 694, 695, 696, 697, 698, 699, 700, 701, 702, 703, 704, 705, 706, 707, 708, 709, 710, 711, 712, 713, 714, 715, 716, 717, 718, 719, 720, 721, 722, 723, 724, 725, 726, 727, 728] (by decide +kernel) (by decide +kernel)
set_option maxRecDepth 20000 in
theorem gL_law_X8_feed : GoodIn wsL_law (wsV RL 24 RX8 yX8_feed wsX8_feed) := goodIn_app (goodIn_of _ (by decide +kernel)) ggL_law_X8_feed
set_option maxRecDepth 20000 in
theorem ggL_law_X7_patch : GoodIn wsL_law wsX7_patch := goodIn_r _ [217, 27, 23, 218, 219, 220, 2, 221, 18, 222, 223, 224, 225, 226, 116, 117, 118, 119, 120, 121, 122, 17, 123, 124, 227, 228, 229, 230, 231, 232, 233, 234, 235, 236, 237, 238, 239, 240, 241, 242, 41, 243, 26, 244, 245, 246, 247, 248, 249, 250, 251, 59, 60, 252, 22, 253, 254, 202, 55, 255, 256, 257, 258, 259, 260, 261, 262, 263, 264, 265, 266, 267, 268, 269, 270, 271, 272, 273, 274, 275, 276, 277, 278, 11, 12, 279, 13, 280, 281, 282, 186, 187, 188, 676, 677, 678, 679, 680, 681, 682, 683, 684, 685, 732, 733, 748, 749, 750, 751, 752, 753, 754, 755, 756, 757, 758, 759, 760, 761, 762, 763, 764, 729, 730, 731, 734, 735, 736, 737] (by decide +kernel) (by decide +kernel)
set_option maxRecDepth 20000 in
theorem gL_law_X7_patch : GoodIn wsL_law (wsV RL 25 RX7 yX7_patch wsX7_patch) := goodIn_app (goodIn_of _ (by decide +kernel)) ggL_law_X7_patch
set_option maxRecDepth 20000 in
theorem ggL_law_X8_patch : GoodIn wsL_law wsX8_patch := goodIn_r _ [286, 209, 287, 77, 82, 78, 83, 79, 81, 288, 289, 290, 5, 291, 292, 293, 294, 295, 296, 194, 211, 212, 213, 297, 298, 299, 300, 301, 302, 303, 304, 305, 306, 307, 308, 309, 76, 310, 311, 312, 313, 314, 315, 316, 317, 686, 687, 688, 689, 690, 691, 692, 693, 694, 695, 696, 697, 698, 699, 700, 701, 702, 703, 704, 705, 706, 707, 708, 709, 710, 711, 712, 713, 714, 715, 716, 717, 718, 719, 720, 721, 722, 723, 724, 725, 726, 727, 728] (by decide +kernel) (by decide +kernel)
set_option maxRecDepth 20000 in
theorem gL_law_X8_patch : GoodIn wsL_law (wsV RL 29 RX8 yX8_patch wsX8_patch) := goodIn_app (goodIn_of _ (by decide +kernel)) ggL_law_X8_patch
set_option maxRecDepth 20000 in
theorem ggL_law_X7_unpatch : GoodIn wsL_law wsX7_unpatch := goodIn_r _ [321, 218, 219, 220, 2, 221, 18, 222, 223, 224, 225, 226, 116, 117, 118, 119, 120, 121, 122, 17, 123, 124, 227, 228, 229, 230, 231, 232, 233, 234, 235, 236, 237, 238, 239, 240, 241, 242, 41, 748, 749, 750, 751, 752, 753, 754, 755, 756, 757, 758, 759, 760, 761, 762, 763, 764, 676, 677, 678, 679, 680, 681, 682, 683, 684, 685, 729, 730, 731] (by decide +kernel) (by decide +kernel)
set_option maxRecDepth 20000 in
theorem gL_law_X7_unpatch : GoodIn wsL_law (wsV RL 30 RX7 yX7_unpatch wsX7_unpatch) := goodIn_app (goodIn_of _ (by decide +kernel)) ggL_law_X7_unpatch
set_option maxRecDepth 20000 in
theorem ggL_law_X8_unpatch : GoodIn wsL_law wsX8_unpatch := goodIn_r _ [325, 81, 79, 288, 289, 290, 5, 291, 292, 293, 294, 295, 296, 194, 211, 212, 213, 686, 687, 688, 689, 690, 691, 692, 693, 694, 695, 696, 697, 698, 699, 700, 701, 702, 703, 704, 705, 706, 707, 708, 709, 710, 711, 712, 713, 714, 715, 716, 717, 718, 719, 720, 721, 722, 723, 724, 725, 726, 727, 728] (by decide +kernel) (by decide +kernel)
set_option maxRecDepth 20000 in
theorem gL_law_X8_unpatch : GoodIn wsL_law (wsV RL 33 RX8 yX8_unpatch wsX8_unpatch) := goodIn_app (goodIn_of _ (by decide +kernel)) ggL_law_X8_unpatch
set_option maxRecDepth 20000 in
theorem ggL_law_X7_cell : GoodIn wsL_law wsX7_cell := goodIn_r _ [329, 218, 219, 220, 2, 221, 18, 222, 223, 224, 225, 226, 116, 117, 118, 119, 120, 121, 122, 17, 123, 124, 227, 228, 229, 230, 231, 232, 233, 234, 235, 236, 237, 238, 239, 240, 241, 242, 41, 748, 749, 750, 751, 752, 753, 754, 755, 756, 757, 758, 759, 760, 761, 676, 677, 678, 679, 680, 681, 682, 683, 684, 685, 729, 730, 731] (by decide +kernel) (by decide +kernel)
set_option maxRecDepth 20000 in
theorem gL_law_X7_cell : GoodIn wsL_law (wsV RL 34 RX7 yX7_cell wsX7_cell) := goodIn_app (goodIn_of _ (by decide +kernel)) ggL_law_X7_cell
set_option maxRecDepth 20000 in
theorem ggL_law_X8_cell : GoodIn wsL_law wsX8_cell := goodIn_r _ [333, 334, 84, 288, 289, 290, 5, 291, 292, 293, 294, 295, 296, 194, 211, 212, 213, 686, 687, 688, 689, 690, 691, 692, 693, 694, 695, 696, 697, 698, 699, 700, 701, 702, 703, 704, 705, 706, 707, 708, 709, 710, 711, 712, 713, 714, 715, 716, 717, 718, 719, 720, 721, 722, 723, 724, 725, 726, 727, 728] (by decide +kernel) (by decide +kernel)
set_option maxRecDepth 20000 in
theorem gL_law_X8_cell : GoodIn wsL_law (wsV RL 38 RX8 yX8_cell wsX8_cell) := goodIn_app (goodIn_of _ (by decide +kernel)) ggL_law_X8_cell
set_option maxRecDepth 20000 in
theorem ggL_law_X7_about : GoodIn wsL_law wsX7_about := goodIn_r _ [338, 112, 218, 219, 220, 2, 221, 18, 222, 223, 224, 225, 226, 116, 117, 118, 119, 120, 121, 122, 17, 123, 124, 227, 228, 229, 230, 231, 232, 233, 234, 235, 236, 237, 238, 239, 240, 241, 242, 41, 748, 749, 750, 751, 752, 753, 754, 755, 756, 757, 758, 759, 760, 761, 762, 763, 764, 676, 677, 678, 679, 680, 681, 682, 683, 684, 685, 729, 730, 731] (by decide +kernel) (by decide +kernel)
set_option maxRecDepth 20000 in
theorem gL_law_X7_about : GoodIn wsL_law (wsV RL 39 RX7 yX7_about wsX7_about) := goodIn_app (goodIn_of _ (by decide +kernel)) ggL_law_X7_about
set_option maxRecDepth 20000 in
theorem ggL_law_X8_about : GoodIn wsL_law wsX8_about := goodIn_r _ [342, 79, 81, 88, 86, 87, 288, 289, 290, 5, 291, 292, 293, 294, 295, 296, 194, 211, 212, 213, 686, 687, 688, 689, 690, 691, 692, 693, 694, 695, 696, 697, 698, 699, 700, 701, 702, 703, 704, 705, 706, 707, 708, 709, 710, 711, 712, 713, 714, 715, 716, 717, 718, 719, 720, 721, 722, 723, 724, 725, 726, 727, 728] (by decide +kernel) (by decide +kernel)
set_option maxRecDepth 20000 in
theorem gL_law_X8_about : GoodIn wsL_law (wsV RL 42 RX8 yX8_about wsX8_about) := goodIn_app (goodIn_of _ (by decide +kernel)) ggL_law_X8_about
set_option maxRecDepth 20000 in
theorem ggL_law_X7_set : GoodIn wsL_law wsX7_set := goodIn_r _ [346, 347, 348, 112, 14, 676, 677, 678, 679, 680, 681, 682, 683, 684, 685] (by decide +kernel) (by decide +kernel)
set_option maxRecDepth 20000 in
theorem gL_law_X7_set : GoodIn wsL_law (wsV RL 43 RX7 yX7_set wsX7_set) := goodIn_app (goodIn_of _ (by decide +kernel)) ggL_law_X7_set
set_option maxRecDepth 20000 in
theorem ggL_law_X8_set : GoodIn wsL_law wsX8_set := goodIn_r _ [352, 353, 193, 89, 211, 212, 5, 213, 354, 355, 356, 357, 358, 359, 360, 361, 686, 687, 688, 689, 690, 691, 692, 693, 694, 695, 696, 697, 698, 699, 700, 701, 702, 703, 704, 705, 706, 707, 708, 709, 710, 711, 712, 713, 714, 715, 716, 717, 718, 719, 720, 721, 722, 723, 724, 725, 726, 727, 728] (by decide +kernel) (by decide +kernel)
set_option maxRecDepth 20000 in
theorem gL_law_X8_set : GoodIn wsL_law (wsV RL 46 RX8 yX8_set wsX8_set) := goodIn_app (goodIn_of _ (by decide +kernel)) ggL_law_X8_set
set_option maxRecDepth 20000 in
theorem ggL_law_X7_letter : GoodIn wsL_law wsX7_letter := goodIn_r _ [365, 35, 366, 31, 14, 218, 219, 220, 2, 221, 18, 222, 223, 224, 225, 226, 116, 117, 118, 119, 120, 121, 122, 17, 123, 124, 227, 228, 229, 230, 231, 232, 233, 234, 235, 236, 237, 238, 239, 240, 241, 242, 41, 367, 368, 369, 370, 34, 371, 372, 69, 373, 70, 71, 374, 30, 375, 376, 65, 377, 186, 187, 188, 378, 379, 380, 381, 382, 383, 384, 385, 386, 64, 387, 388, 389, 390, 391, 392, 393, 394, 395, 396, 397, 398, 399, 400, 401, 402, 403, 404, 405, 406, 407, 408, 409, 676, 677, 678, 679, 680, 681, 682, 683, 684, 685, 744, 745, 746, 747, 729, 730, 731, 748, 749, 750, 751, 752, 753, 754, 755, 756, 757, 758, 759, 760, 761, 738, 739, 740, 741, 742, 743, 762, 763, 764] (by decide +kernel) (by decide +kernel)
set_option maxRecDepth 20000 in
theorem gL_law_X7_letter : GoodIn wsL_law (wsV RL 47 RX7 yX7_letter wsX7_letter) := goodIn_app (goodIn_of _ (by decide +kernel)) ggL_law_X7_letter
set_option maxRecDepth 20000 in
theorem ggL_law_X8_letter : GoodIn wsL_law wsX8_letter := goodIn_r _ [413, 361, 414, 91, 92, 93, 415, 293, 294, 295, 5, 296, 194, 288, 289, 290, 291, 292, 211, 212, 213, 416, 417, 418, 419, 420, 421, 85, 84, 79, 89, 87, 422, 423, 77, 86, 90, 78, 424, 425, 426, 427, 428, 429, 430, 431, 432, 433, 434, 435, 436, 437, 438, 439, 440, 441, 686, 687, 688, 689, 690, 691, 692, 693, 694, 695, 696, 697, 698, 699, 700, 701, 702, 703, 704, 705, 706, 707, 708, 709, 710, 711, 712, 713, 714, 715, 716, 717, 718, 719, 720, 721, 722, 723, 724, 725, 726, 727, 728] (by decide +kernel) (by decide +kernel)
set_option maxRecDepth 20000 in
theorem gL_law_X8_letter : GoodIn wsL_law (wsV RL 51 RX8 yX8_letter wsX8_letter) := goodIn_app (goodIn_of _ (by decide +kernel)) ggL_law_X8_letter
set_option maxRecDepth 20000 in
theorem ggL_law_X7_round : GoodIn wsL_law wsX7_round := goodIn_r _ [445, 18, 112, 222, 35, 446, 447, 448, 17, 449, 124, 120, 121, 122, 123, 227, 228, 229, 230, 231, 232, 233, 234, 235, 236, 237, 238, 239, 240, 241, 242, 41, 450, 115, 451, 452, 453, 454, 455, 456, 457, 2, 458, 459, 31, 14, 460, 461, 462, 463, 464, 465, 466, 467, 468, 469, 374, 30, 375, 376, 65, 377, 186, 187, 188, 378, 379, 380, 381, 382, 383, 384, 385, 386, 64, 387, 388, 389, 390, 391, 392, 393, 394, 395, 396, 397, 398, 399, 400, 401, 402, 403, 404, 405, 406, 407, 408, 409, 470, 471, 472, 473, 474, 475, 476, 131, 132, 133, 134, 477, 34, 478, 479, 373, 69, 480, 70, 71, 481, 482, 483, 484, 485, 676, 677, 678, 679, 680, 681, 682, 683, 684, 685, 748, 749, 750, 751, 752, 753, 754, 755, 756, 757, 758, 759, 760, 761, 744, 745, 746, 747, 729, 730, 731, 738, 739, 740, 741, 742, 743, 762, 763, 764] (by decide +kernel) (by decide +kernel)
set_option maxRecDepth 20000 in
theorem gL_law_X7_round : GoodIn wsL_law (wsV RL 52 RX7 yX7_round wsX7_round) := goodIn_app (goodIn_of _ (by decide +kernel)) ggL_law_X7_round
set_option maxRecDepth 20000 in
theorem ggL_law_X8_round : GoodIn wsL_law wsX8_round := goodIn_r _ [489, 194, 193, 414, 94, 91, 95, 92, 96, 93, 490, 81, 77, 78, 79, 97, 88, 491, 492, 493, 5, 494, 102, 98, 99, 100, 89, 101, 495, 496, 497, 498, 499, 500, 501, 502, 416, 417, 418, 419, 420, 421, 85, 84, 87, 422, 423, 86, 90, 424, 425, 426, 427, 428, 429, 430, 431, 432, 433, 434, 435, 436, 437, 438, 439, 440, 441, 686, 687, 688, 689, 690, 691, 692, 693, 694, 695, 696, 697, 698, 699, 700, 701, 702, 703, 704, 705, 706, 707, 708, 709, 710, 711, 712, 713, 714, 715, 716, 717, 718, 719, 720, 721, 722, 723, 724, 725, 726, 727, 728] (by decide +kernel) (by decide +kernel)
set_option maxRecDepth 20000 in
theorem gL_law_X8_round : GoodIn wsL_law (wsV RL 55 RX8 yX8_round wsX8_round) := goodIn_app (goodIn_of _ (by decide +kernel)) ggL_law_X8_round
set_option maxRecDepth 20000 in
theorem ggL_law_X7_up : GoodIn wsL_law wsX7_up := goodIn_r _ [506, 218, 219, 220, 2, 221, 18, 222, 223, 224, 225, 226, 116, 117, 118, 119, 120, 121, 122, 17, 123, 124, 227, 228, 229, 230, 231, 232, 233, 234, 235, 236, 237, 238, 239, 240, 241, 242, 41, 507, 508, 509, 510, 112, 748, 749, 750, 751, 752, 753, 754, 755, 756, 757, 758, 759, 760, 761, 676, 677, 678, 679, 680, 681, 682, 683, 684, 685, 729, 730, 731] (by decide +kernel) (by decide +kernel)
set_option maxRecDepth 20000 in
theorem gL_law_X7_up : GoodIn wsL_law (wsV RL 56 RX7 yX7_up wsX7_up) := goodIn_app (goodIn_of _ (by decide +kernel)) ggL_law_X7_up
set_option maxRecDepth 20000 in
theorem ggL_law_X8_up : GoodIn wsL_law wsX8_up := goodIn_r _ [514, 193, 97, 288, 289, 290, 5, 291, 292, 293, 294, 295, 296, 194, 211, 212, 213, 686, 687, 688, 689, 690, 691, 692, 693, 694, 695, 696, 697, 698, 699, 700, 701, 702, 703, 704, 705, 706, 707, 708, 709, 710, 711, 712, 713, 714, 715, 716, 717, 718, 719, 720, 721, 722, 723, 724, 725, 726, 727, 728] (by decide +kernel) (by decide +kernel)
set_option maxRecDepth 20000 in
theorem gL_law_X8_up : GoodIn wsL_law (wsV RL 59 RX8 yX8_up wsX8_up) := goodIn_app (goodIn_of _ (by decide +kernel)) ggL_law_X8_up
set_option maxRecDepth 20000 in
theorem ggL_law_X7_check : GoodIn wsL_law wsX7_check := goodIn_r _ [518, 112, 218, 219, 220, 2, 221, 18, 222, 223, 224, 225, 226, 116, 117, 118, 119, 120, 121, 122, 17, 123, 124, 227, 228, 229, 230, 231, 232, 233, 234, 235, 236, 237, 238, 239, 240, 241, 242, 41, 676, 677, 678, 679, 680, 681, 682, 683, 684, 685, 748, 749, 750, 751, 752, 753, 754, 755, 756, 757, 758, 759, 760, 761, 729, 730, 731] (by decide +kernel) (by decide +kernel)
set_option maxRecDepth 20000 in
theorem gL_law_X7_check : GoodIn wsL_law (wsV RL 60 RX7 yX7_check wsX7_check) := goodIn_app (goodIn_of _ (by decide +kernel)) ggL_law_X7_check
set_option maxRecDepth 20000 in
theorem ggL_law_X8_check : GoodIn wsL_law wsX8_check := goodIn_r _ [522, 292, 193, 98, 99, 100, 101, 288, 289, 290, 5, 291, 293, 294, 295, 296, 194, 211, 212, 213, 686, 687, 688, 689, 690, 691, 692, 693, 694, 695, 696, 697, 698, 699, 700, 701, 702, 703, 704, 705, 706, 707, 708, 709, 710, 711, 712, 713, 714, 715, 716, 717, 718, 719, 720, 721, 722, 723, 724, 725, 726, 727, 728] (by decide +kernel) (by decide +kernel)
set_option maxRecDepth 20000 in
theorem gL_law_X8_check : GoodIn wsL_law (wsV RL 64 RX8 yX8_check wsX8_check) := goodIn_app (goodIn_of _ (by decide +kernel)) ggL_law_X8_check
set_option maxRecDepth 20000 in
theorem ggL_law_X7_flag : GoodIn wsL_law wsX7_flag := goodIn_r _ [526, 218, 219, 220, 2, 221, 18, 222, 223, 224, 225, 226, 116, 117, 118, 119, 120, 121, 122, 17, 123, 124, 227, 228, 229, 230, 231, 232, 233, 234, 235, 236, 237, 238, 239, 240, 241, 242, 41, 507, 508, 509, 510, 112, 460, 461, 462, 463, 14, 467, 468, 469, 676, 677, 678, 679, 680, 681, 682, 683, 684, 685, 729, 730, 731, 748, 749, 750, 751, 752, 753, 754, 755, 756, 757, 758, 759, 760, 761] (by decide +kernel) (by decide +kernel)
set_option maxRecDepth 20000 in
theorem gL_law_X7_flag : GoodIn wsL_law (wsV RL 65 RX7 yX7_flag wsX7_flag) := goodIn_app (goodIn_of _ (by decide +kernel)) ggL_law_X7_flag
set_option maxRecDepth 20000 in
theorem ggL_law_X8_flag : GoodIn wsL_law wsX8_flag := goodIn_r _ [530, 193, 288, 289, 290, 5, 291, 292, 293, 294, 295, 296, 194, 211, 212, 213, 499, 500, 501, 502, 495, 496, 497, 498, 89, 686, 687, 688, 689, 690, 691, 692, 693, 694, 695, 696, 697, 698, 699, 700, 701, 702, 703, 704, 705, 706, 707, 708, 709, 710, 711, 712, 713, 714, 715, 716, 717, 718, 719, 720, 721, 722, 723, 724, 725, 726, 727, 728] (by decide +kernel) (by decide +kernel)
set_option maxRecDepth 20000 in
theorem gL_law_X8_flag : GoodIn wsL_law (wsV RL 68 RX8 yX8_flag wsX8_flag) := goodIn_app (goodIn_of _ (by decide +kernel)) ggL_law_X8_flag
set_option maxRecDepth 20000 in
theorem ggL_law_X7_hand : GoodIn wsL_law wsX7_hand := goodIn_r _ [534, 112, 19, 535, 536, 537, 218, 219, 220, 2, 221, 18, 222, 223, 224, 225, 226, 116, 117, 118, 119, 120, 121, 122, 17, 123, 124, 227, 228, 229, 230, 231, 232, 233, 234, 235, 236, 237, 238, 239, 240, 241, 242, 41, 367, 368, 369, 538, 539, 540, 541, 14, 542, 156, 157, 158, 460, 461, 462, 463, 467, 468, 469, 543, 115, 544, 545, 130, 546, 547, 548, 549, 550, 551, 11, 12, 552, 553, 554, 137, 138, 139, 140, 141, 142, 143, 144, 145, 146, 147, 148, 149, 150, 151, 152, 153, 154, 40, 155, 159, 160, 161, 162, 163, 164, 165, 166, 167, 168, 169, 170, 171, 172, 173, 174, 175, 176, 177, 178, 179, 180, 181, 182, 183, 184, 185, 186, 187, 188, 676, 677, 678, 679, 680, 681, 682, 683, 684, 685, 765, 766, 767, 729, 730, 731, 748, 749, 750, 751, 752, 753, 754, 755, 756, 757, 758, 759, 760, 761] (by decide +kernel) (by decide +kernel)
set_option maxRecDepth 20000 in
theorem gL_law_X7_hand : GoodIn wsL_law (wsV RL 69 RX7 yX7_hand wsX7_hand) := goodIn_app (goodIn_of _ (by decide +kernel)) ggL_law_X7_hand
set_option maxRecDepth 20000 in
theorem ggL_law_X8_hand : GoodIn wsL_law wsX8_hand := goodIn_r _ [558, 361, 193, 89, 103, 559, 293, 294, 295, 5, 296, 194, 288, 289, 290, 291, 292, 211, 212, 213, 499, 500, 501, 502, 495, 496, 497, 498, 560, 561, 562, 563, 686, 687, 688, 689, 690, 691, 692, 693, 694, 695, 696, 697, 698, 699, 700, 701, 702, 703, 704, 705, 706, 707, 708, 709, 710, 711, 712, 713, 714, 715, 716, 717, 718, 719, 720, 721, 722, 723, 724, 725, 726, 727, 728] (by decide +kernel) (by decide +kernel)
set_option maxRecDepth 20000 in
theorem gL_law_X8_hand : GoodIn wsL_law (wsV RL 72 RX8 yX8_hand wsX8_hand) := goodIn_app (goodIn_of _ (by decide +kernel)) ggL_law_X8_hand
set_option maxRecDepth 20000 in
theorem ggL_law_X7_points : GoodIn wsL_law wsX7_points := goodIn_r _ [567, 568, 223, 224, 225, 2, 226, 116, 117, 118, 119, 18, 120, 121, 122, 17, 123, 124, 569, 570, 571, 572, 573, 574, 575, 576, 112, 577, 183, 157, 184, 222, 227, 228, 229, 230, 231, 232, 233, 234, 235, 236, 237, 238, 239, 240, 241, 242, 41, 578, 579, 580, 581, 19, 582, 543, 115, 544, 545, 130, 583, 584, 585, 586, 587, 588, 589, 590, 591, 592, 593, 594, 595, 596, 597, 676, 677, 678, 679, 680, 681, 682, 683, 684, 685, 729, 730, 731, 748, 749, 750, 751, 752, 753, 754, 755, 756, 757, 758, 759, 760, 761, 765, 766, 767] (by decide +kernel) (by decide +kernel)
set_option maxRecDepth 20000 in
theorem gL_law_X7_points : GoodIn wsL_law (wsV RL 73 RX7 yX7_points wsX7_points) := goodIn_app (goodIn_of _ (by decide +kernel)) ggL_law_X7_points
set_option maxRecDepth 20000 in
theorem ggL_law_X8_points : GoodIn wsL_law wsX8_points := goodIn_r _ [601, 602, 104, 105, 106, 107, 293, 294, 295, 5, 296, 194, 603, 604, 605, 606, 193, 97, 607, 608, 609, 610, 611, 612, 613, 614, 560, 561, 562, 563, 103, 615, 616, 617, 618, 686, 687, 688, 689, 690, 691, 692, 693, 694, 695, 696, 697, 698, 699, 700, 701, 702, 703, 704, 705, 706, 707, 708, 709, 710, 711, 712, 713, 714, 715, 716, 717, 718, 719, 720, 721, 722, 723, 724, 725, 726, 727, 728] (by decide +kernel) (by decide +kernel)
set_option maxRecDepth 20000 in
theorem gL_law_X8_points : GoodIn wsL_law (wsV RL 76 RX8 yX8_points wsX8_points) := goodIn_app (goodIn_of _ (by decide +kernel)) ggL_law_X8_points
set_option maxRecDepth 20000 in
theorem ggL_law_X7_board : GoodIn wsL_law wsX7_board := goodIn_r _ [622, 568, 36, 14, 223, 224, 225, 2, 226, 116, 117, 118, 119, 18, 120, 121, 122, 17, 123, 124, 569, 570, 571, 572, 573, 574, 575, 576, 112, 577, 183, 157, 184, 222, 227, 228, 229, 230, 231, 232, 233, 234, 235, 236, 237, 238, 239, 240, 241, 242, 41, 578, 579, 580, 581, 19, 582, 543, 115, 544, 545, 130, 583, 584, 585, 586, 587, 588, 589, 590, 591, 592, 593, 623, 624, 625, 626, 676, 677, 678, 679, 680, 681, 682, 683, 684, 685, 729, 730, 731, 748, 749, 750, 751, 752, 753, 754, 755, 756, 757, 758, 759, 760, 761, 765, 766, 767] (by decide +kernel) (by decide +kernel)
set_option maxRecDepth 20000 in
theorem gL_law_X7_board : GoodIn wsL_law (wsV RL 77 RX7 yX7_board wsX7_board) := goodIn_app (goodIn_of _ (by decide +kernel)) ggL_law_X7_board
set_option maxRecDepth 20000 in
theorem ggL_law_X8_board : GoodIn wsL_law wsX8_board := goodIn_r _ [630, 602, 89, 194, 293, 294, 295, 5, 296, 211, 212, 213, 603, 604, 605, 606, 104, 105, 106, 107, 193, 97, 607, 608, 609, 610, 611, 612, 613, 614, 560, 561, 562, 563, 103, 615, 616, 617, 618, 686, 687, 688, 689, 690, 691, 692, 693, 694, 695, 696, 697, 698, 699, 700, 701, 702, 703, 704, 705, 706, 707, 708, 709, 710, 711, 712, 713, 714, 715, 716, 717, 718, 719, 720, 721, 722, 723, 724, 725, 726, 727, 728] (by decide +kernel) (by decide +kernel)
set_option maxRecDepth 20000 in
theorem gL_law_X8_board : GoodIn wsL_law (wsV RL 80 RX8 yX8_board wsX8_board) := goodIn_app (goodIn_of _ (by decide +kernel)) ggL_law_X8_board
set_option maxRecDepth 20000 in
theorem ggL_law_X7_gain : GoodIn wsL_law wsX7_gain := goodIn_r _ [634, 568, 112, 635, 18, 222, 116, 117, 118, 2, 119, 120, 121, 122, 17, 123, 124, 636, 637, 638, 639, 640, 641, 642, 227, 228, 229, 230, 231, 232, 233, 234, 235, 236, 237, 238, 239, 240, 241, 242, 41, 643, 644, 645, 646, 583, 115, 584, 585, 586, 543, 544, 545, 130, 587, 588, 589, 676, 677, 678, 679, 680, 681, 682, 683, 684, 685, 748, 749, 750, 751, 752, 753, 754, 755, 756, 757, 758, 759, 760, 761, 729, 730, 731] (by decide +kernel) (by decide +kernel)
set_option maxRecDepth 20000 in
theorem gL_law_X7_gain : GoodIn wsL_law (wsV RL 81 RX7 yX7_gain wsX7_gain) := goodIn_app (goodIn_of _ (by decide +kernel)) ggL_law_X7_gain
set_option maxRecDepth 20000 in
theorem ggL_law_X8_gain : GoodIn wsL_law wsX8_gain := goodIn_r _ [650, 194, 602, 193, 651, 652, 653, 654, 5, 655, 603, 604, 605, 606, 104, 105, 106, 107, 97, 607, 608, 609, 610, 611, 612, 613, 614, 560, 561, 562, 563, 103, 615, 616, 617, 618, 656, 657, 658, 659, 686, 687, 688, 689, 690, 691, 692, 693, 694, 695, 696, 697, 698, 699, 700, 701, 702, 703, 704, 705, 706, 707, 708, 709, 710, 711, 712, 713, 714, 715, 716, 717, 718, 719, 720, 721, 722, 723, 724, 725, 726, 727, 728] (by decide +kernel) (by decide +kernel)
set_option maxRecDepth 20000 in
theorem gL_law_X8_gain : GoodIn wsL_law (wsV RL 85 RX8 yX8_gain wsX8_gain) := goodIn_app (goodIn_of _ (by decide +kernel)) ggL_law_X8_gain
set_option maxRecDepth 20000 in
theorem ggL_law_X7_alike : GoodIn wsL_law wsX7_alike := goodIn_r _ [663, 112, 218, 219, 220, 2, 221, 18, 222, 223, 224, 225, 226, 116, 117, 118, 119, 120, 121, 122, 17, 123, 124, 227, 228, 229, 230, 231, 232, 233, 234, 235, 236, 237, 238, 239, 240, 241, 242, 41, 676, 677, 678, 679, 680, 681, 682, 683, 684, 685, 748, 749, 750, 751, 752, 753, 754, 755, 756, 757, 758, 759, 760, 761, 729, 730, 731] (by decide +kernel) (by decide +kernel)
set_option maxRecDepth 20000 in
theorem gL_law_X7_alike : GoodIn wsL_law (wsV RL 86 RX7 yX7_alike wsX7_alike) := goodIn_app (goodIn_of _ (by decide +kernel)) ggL_law_X7_alike
set_option maxRecDepth 20000 in
theorem ggL_law_X8_alike : GoodIn wsL_law wsX8_alike := goodIn_r _ [667, 193, 490, 95, 98, 96, 99, 94, 288, 289, 290, 5, 291, 292, 293, 294, 295, 296, 194, 211, 212, 213, 686, 687, 688, 689, 690, 691, 692, 693, 694, 695, 696, 697, 698, 699, 700, 701, 702, 703, 704, 705, 706, 707, 708, 709, 710, 711, 712, 713, 714, 715, 716, 717, 718, 719, 720, 721, 722, 723, 724, 725, 726, 727, 728] (by decide +kernel) (by decide +kernel)
set_option maxRecDepth 20000 in
theorem gL_law_X8_alike : GoodIn wsL_law (wsV RL 89 RX8 yX8_alike wsX8_alike) := goodIn_app (goodIn_of _ (by decide +kernel)) ggL_law_X8_alike
set_option maxRecDepth 20000 in
theorem ggL_law_X7_count : GoodIn wsL_law wsX7_count := goodIn_r _ [671, 112, 19, 366, 23, 31, 116, 117, 118, 2, 119, 18, 120, 121, 122, 17, 123, 124, 676, 677, 678, 679, 680, 681, 682, 683, 684, 685, 732, 733, 738, 739, 740, 741, 742, 743, 729, 730, 731] (by decide +kernel) (by decide +kernel)
set_option maxRecDepth 20000 in
theorem gL_law_X7_count : GoodIn wsL_law (wsV RL 90 RX7 yX7_count wsX7_count) := goodIn_app (goodIn_of _ (by decide +kernel)) ggL_law_X7_count
set_option maxRecDepth 20000 in
theorem ggL_law_X8_count : GoodIn wsL_law wsX8_count := goodIn_r _ [675, 194, 193, 559, 415, 209, 422, 686, 687, 688, 689, 690, 691, 692, 693, 694, 695, 696, 697, 698, 699, 700, 701, 702, 703, 704, 705, 706, 707, 708, 709, 710, 711, 712, 713, 714, 715, 716, 717, 718, 719, 720, 721, 722, 723, 724, 725, 726, 727, 728] (by decide +kernel) (by decide +kernel)
set_option maxRecDepth 20000 in
theorem gL_law_X8_count : GoodIn wsL_law (wsV RL 93 RX8 yX8_count wsX8_count) := goodIn_app (goodIn_of _ (by decide +kernel)) ggL_law_X8_count
theorem dL_law_0 : decode cL_law 0 = .ok (.new 7, 3) := by decide +kernel
theorem dL_law_3 : decode cL_law 3 = .ok (.dup, 1) := by decide +kernel
theorem dL_law_4 : decode cL_law 4 = .ok (.invokespecial 9, 3) := by decide +kernel
theorem dL_law_7 : decode cL_law 7 = .ok (.astore_n 1, 1) := by decide +kernel
theorem dL_law_8 : decode cL_law 8 = .ok (.new 10, 3) := by decide +kernel
theorem dL_law_11 : decode cL_law 11 = .ok (.dup, 1) := by decide +kernel
theorem dL_law_12 : decode cL_law 12 = .ok (.invokespecial 12, 3) := by decide +kernel
theorem dL_law_15 : decode cL_law 15 = .ok (.astore_n 2, 1) := by decide +kernel
theorem dL_law_16 : decode cL_law 16 = .ok (.iconst 0, 1) := by decide +kernel
theorem dL_law_17 : decode cL_law 17 = .ok (.istore_n 3, 1) := by decide +kernel
theorem dL_law_18 : decode cL_law 18 = .ok (.iload_n 3, 1) := by decide +kernel
theorem dL_law_19 : decode cL_law 19 = .ok (.aload_n 0, 1) := by decide +kernel
theorem dL_law_20 : decode cL_law 20 = .ok (.arraylength, 1) := by decide +kernel
theorem dL_law_21 : decode cL_law 21 = .ok (.bipush 6, 2) := by decide +kernel
theorem dL_law_23 : decode cL_law 23 = .ok (.isub, 1) := by decide +kernel
theorem dL_law_24 : decode cL_law 24 = .ok (.if_icmp .gt 776, 3) := by decide +kernel
theorem dL_law_27 : decode cL_law 27 = .ok (.aload_n 0, 1) := by decide +kernel
theorem dL_law_28 : decode cL_law 28 = .ok (.iload_n 3, 1) := by decide +kernel
theorem dL_law_29 : decode cL_law 29 = .ok (.iaload, 1) := by decide +kernel
theorem dL_law_30 : decode cL_law 30 = .ok (.bipush 31, 2) := by decide +kernel
theorem dL_law_32 : decode cL_law 32 = .ok (.iand, 1) := by decide +kernel
theorem dL_law_33 : decode cL_law 33 = .ok (.tableswitch 761 0 17 #[87, 100, 163, 196, 229, 272, 315, 348, 411, 424, 467, 520, 563, 616, 649, 682, 705, 738], 87) := by decide +kernel
theorem dL_law_120 : decode cL_law 120 = .ok (.aload_n 1, 1) := by decide +kernel
theorem dL_law_121 : decode cL_law 121 = .ok (.invokevirtual 13, 3) := by decide +kernel
theorem dL_law_124 : decode cL_law 124 = .ok (.aload_n 2, 1) := by decide +kernel
theorem dL_law_125 : decode cL_law 125 = .ok (.invokevirtual 17, 3) := by decide +kernel
theorem dL_law_128 : decode cL_law 128 = .ok (.if_icmp .eq 666, 3) := by decide +kernel
theorem dL_law_131 : decode cL_law 131 = .ok (.iconst 0, 1) := by decide +kernel
theorem dL_law_132 : decode cL_law 132 = .ok (.ireturn, 1) := by decide +kernel
theorem dL_law_133 : decode cL_law 133 = .ok (.aload_n 1, 1) := by decide +kernel
theorem dL_law_134 : decode cL_law 134 = .ok (.aload_n 0, 1) := by decide +kernel
theorem dL_law_135 : decode cL_law 135 = .ok (.iload_n 3, 1) := by decide +kernel
theorem dL_law_136 : decode cL_law 136 = .ok (.iconst 1, 1) := by decide +kernel
theorem dL_law_137 : decode cL_law 137 = .ok (.iadd, 1) := by decide +kernel
theorem dL_law_138 : decode cL_law 138 = .ok (.iaload, 1) := by decide +kernel
theorem dL_law_139 : decode cL_law 139 = .ok (.i2l, 1) := by decide +kernel
theorem dL_law_140 : decode cL_law 140 = .ok (.bipush 32, 2) := by decide +kernel
theorem dL_law_142 : decode cL_law 142 = .ok (.lshl, 1) := by decide +kernel
theorem dL_law_143 : decode cL_law 143 = .ok (.aload_n 0, 1) := by decide +kernel
theorem dL_law_144 : decode cL_law 144 = .ok (.iload_n 3, 1) := by decide +kernel
theorem dL_law_145 : decode cL_law 145 = .ok (.iconst 2, 1) := by decide +kernel
theorem dL_law_146 : decode cL_law 146 = .ok (.iadd, 1) := by decide +kernel
theorem dL_law_147 : decode cL_law 147 = .ok (.iaload, 1) := by decide +kernel
theorem dL_law_148 : decode cL_law 148 = .ok (.i2l, 1) := by decide +kernel
theorem dL_law_149 : decode cL_law 149 = .ok (.ldc2_w 18, 3) := by decide +kernel
theorem dL_law_152 : decode cL_law 152 = .ok (.land, 1) := by decide +kernel
theorem dL_law_153 : decode cL_law 153 = .ok (.lor, 1) := by decide +kernel
theorem dL_law_154 : decode cL_law 154 = .ok (.aload_n 0, 1) := by decide +kernel
theorem dL_law_155 : decode cL_law 155 = .ok (.iload_n 3, 1) := by decide +kernel
theorem dL_law_156 : decode cL_law 156 = .ok (.iconst 3, 1) := by decide +kernel
theorem dL_law_157 : decode cL_law 157 = .ok (.iadd, 1) := by decide +kernel
theorem dL_law_158 : decode cL_law 158 = .ok (.iaload, 1) := by decide +kernel
theorem dL_law_159 : decode cL_law 159 = .ok (.invokevirtual 20, 3) := by decide +kernel
theorem dL_law_162 : decode cL_law 162 = .ok (.aload_n 2, 1) := by decide +kernel
theorem dL_law_163 : decode cL_law 163 = .ok (.aload_n 0, 1) := by decide +kernel
theorem dL_law_164 : decode cL_law 164 = .ok (.iload_n 3, 1) := by decide +kernel
theorem dL_law_165 : decode cL_law 165 = .ok (.iconst 1, 1) := by decide +kernel
theorem dL_law_166 : decode cL_law 166 = .ok (.iadd, 1) := by decide +kernel
theorem dL_law_167 : decode cL_law 167 = .ok (.iaload, 1) := by decide +kernel
theorem dL_law_168 : decode cL_law 168 = .ok (.i2l, 1) := by decide +kernel
theorem dL_law_169 : decode cL_law 169 = .ok (.bipush 32, 2) := by decide +kernel
theorem dL_law_171 : decode cL_law 171 = .ok (.lshl, 1) := by decide +kernel
theorem dL_law_172 : decode cL_law 172 = .ok (.aload_n 0, 1) := by decide +kernel
theorem dL_law_173 : decode cL_law 173 = .ok (.iload_n 3, 1) := by decide +kernel
theorem dL_law_174 : decode cL_law 174 = .ok (.iconst 2, 1) := by decide +kernel
theorem dL_law_175 : decode cL_law 175 = .ok (.iadd, 1) := by decide +kernel
theorem dL_law_176 : decode cL_law 176 = .ok (.iaload, 1) := by decide +kernel
theorem dL_law_177 : decode cL_law 177 = .ok (.i2l, 1) := by decide +kernel
theorem dL_law_178 : decode cL_law 178 = .ok (.ldc2_w 18, 3) := by decide +kernel
theorem dL_law_181 : decode cL_law 181 = .ok (.land, 1) := by decide +kernel
theorem dL_law_182 : decode cL_law 182 = .ok (.lor, 1) := by decide +kernel
theorem dL_law_183 : decode cL_law 183 = .ok (.aload_n 0, 1) := by decide +kernel
theorem dL_law_184 : decode cL_law 184 = .ok (.iload_n 3, 1) := by decide +kernel
theorem dL_law_185 : decode cL_law 185 = .ok (.iconst 3, 1) := by decide +kernel
theorem dL_law_186 : decode cL_law 186 = .ok (.iadd, 1) := by decide +kernel
theorem dL_law_187 : decode cL_law 187 = .ok (.iaload, 1) := by decide +kernel
theorem dL_law_188 : decode cL_law 188 = .ok (.invokevirtual 24, 3) := by decide +kernel
theorem dL_law_191 : decode cL_law 191 = .ok (.if_icmp .eq 603, 3) := by decide +kernel
theorem dL_law_194 : decode cL_law 194 = .ok (.iconst 0, 1) := by decide +kernel
theorem dL_law_195 : decode cL_law 195 = .ok (.ireturn, 1) := by decide +kernel
theorem dL_law_196 : decode cL_law 196 = .ok (.aload_n 1, 1) := by decide +kernel
theorem dL_law_197 : decode cL_law 197 = .ok (.aload_n 0, 1) := by decide +kernel
theorem dL_law_198 : decode cL_law 198 = .ok (.iload_n 3, 1) := by decide +kernel
theorem dL_law_199 : decode cL_law 199 = .ok (.iconst 1, 1) := by decide +kernel
theorem dL_law_200 : decode cL_law 200 = .ok (.iadd, 1) := by decide +kernel
theorem dL_law_201 : decode cL_law 201 = .ok (.iaload, 1) := by decide +kernel
theorem dL_law_202 : decode cL_law 202 = .ok (.aload_n 0, 1) := by decide +kernel
theorem dL_law_203 : decode cL_law 203 = .ok (.iload_n 3, 1) := by decide +kernel
theorem dL_law_204 : decode cL_law 204 = .ok (.iconst 2, 1) := by decide +kernel
theorem dL_law_205 : decode cL_law 205 = .ok (.iadd, 1) := by decide +kernel
theorem dL_law_206 : decode cL_law 206 = .ok (.iaload, 1) := by decide +kernel
theorem dL_law_207 : decode cL_law 207 = .ok (.invokevirtual 25, 3) := by decide +kernel
theorem dL_law_210 : decode cL_law 210 = .ok (.aload_n 2, 1) := by decide +kernel
theorem dL_law_211 : decode cL_law 211 = .ok (.aload_n 0, 1) := by decide +kernel
theorem dL_law_212 : decode cL_law 212 = .ok (.iload_n 3, 1) := by decide +kernel
theorem dL_law_213 : decode cL_law 213 = .ok (.iconst 1, 1) := by decide +kernel
theorem dL_law_214 : decode cL_law 214 = .ok (.iadd, 1) := by decide +kernel
theorem dL_law_215 : decode cL_law 215 = .ok (.iaload, 1) := by decide +kernel
theorem dL_law_216 : decode cL_law 216 = .ok (.aload_n 0, 1) := by decide +kernel
theorem dL_law_217 : decode cL_law 217 = .ok (.iload_n 3, 1) := by decide +kernel
theorem dL_law_218 : decode cL_law 218 = .ok (.iconst 2, 1) := by decide +kernel
theorem dL_law_219 : decode cL_law 219 = .ok (.iadd, 1) := by decide +kernel
theorem dL_law_220 : decode cL_law 220 = .ok (.iaload, 1) := by decide +kernel
theorem dL_law_221 : decode cL_law 221 = .ok (.invokevirtual 29, 3) := by decide +kernel
theorem dL_law_224 : decode cL_law 224 = .ok (.if_icmp .eq 570, 3) := by decide +kernel
theorem dL_law_227 : decode cL_law 227 = .ok (.iconst 0, 1) := by decide +kernel
theorem dL_law_228 : decode cL_law 228 = .ok (.ireturn, 1) := by decide +kernel
theorem dL_law_229 : decode cL_law 229 = .ok (.aload_n 1, 1) := by decide +kernel
theorem dL_law_230 : decode cL_law 230 = .ok (.aload_n 0, 1) := by decide +kernel
theorem dL_law_231 : decode cL_law 231 = .ok (.iload_n 3, 1) := by decide +kernel
theorem dL_law_232 : decode cL_law 232 = .ok (.iconst 1, 1) := by decide +kernel
theorem dL_law_233 : decode cL_law 233 = .ok (.iadd, 1) := by decide +kernel
theorem dL_law_234 : decode cL_law 234 = .ok (.iaload, 1) := by decide +kernel
theorem dL_law_235 : decode cL_law 235 = .ok (.aload_n 0, 1) := by decide +kernel
theorem dL_law_236 : decode cL_law 236 = .ok (.iload_n 3, 1) := by decide +kernel
theorem dL_law_237 : decode cL_law 237 = .ok (.iconst 2, 1) := by decide +kernel
theorem dL_law_238 : decode cL_law 238 = .ok (.iadd, 1) := by decide +kernel
theorem dL_law_239 : decode cL_law 239 = .ok (.iaload, 1) := by decide +kernel
theorem dL_law_240 : decode cL_law 240 = .ok (.invokevirtual 30, 3) := by decide +kernel
theorem dL_law_243 : decode cL_law 243 = .ok (.aload_n 2, 1) := by decide +kernel
theorem dL_law_244 : decode cL_law 244 = .ok (.aload_n 0, 1) := by decide +kernel
theorem dL_law_245 : decode cL_law 245 = .ok (.iload_n 3, 1) := by decide +kernel
theorem dL_law_246 : decode cL_law 246 = .ok (.iconst 1, 1) := by decide +kernel
theorem dL_law_247 : decode cL_law 247 = .ok (.iadd, 1) := by decide +kernel
theorem dL_law_248 : decode cL_law 248 = .ok (.iaload, 1) := by decide +kernel
theorem dL_law_249 : decode cL_law 249 = .ok (.aload_n 0, 1) := by decide +kernel
theorem dL_law_250 : decode cL_law 250 = .ok (.iload_n 3, 1) := by decide +kernel
theorem dL_law_251 : decode cL_law 251 = .ok (.iconst 2, 1) := by decide +kernel
theorem dL_law_252 : decode cL_law 252 = .ok (.iadd, 1) := by decide +kernel
theorem dL_law_253 : decode cL_law 253 = .ok (.iaload, 1) := by decide +kernel
theorem dL_law_254 : decode cL_law 254 = .ok (.invokevirtual 33, 3) := by decide +kernel
theorem dL_law_257 : decode cL_law 257 = .ok (.if_icmp .eq 537, 3) := by decide +kernel
theorem dL_law_260 : decode cL_law 260 = .ok (.iconst 0, 1) := by decide +kernel
theorem dL_law_261 : decode cL_law 261 = .ok (.ireturn, 1) := by decide +kernel
theorem dL_law_262 : decode cL_law 262 = .ok (.aload_n 1, 1) := by decide +kernel
theorem dL_law_263 : decode cL_law 263 = .ok (.aload_n 0, 1) := by decide +kernel
theorem dL_law_264 : decode cL_law 264 = .ok (.iload_n 3, 1) := by decide +kernel
theorem dL_law_265 : decode cL_law 265 = .ok (.iconst 1, 1) := by decide +kernel
theorem dL_law_266 : decode cL_law 266 = .ok (.iadd, 1) := by decide +kernel
theorem dL_law_267 : decode cL_law 267 = .ok (.iaload, 1) := by decide +kernel
theorem dL_law_268 : decode cL_law 268 = .ok (.aload_n 0, 1) := by decide +kernel
theorem dL_law_269 : decode cL_law 269 = .ok (.iload_n 3, 1) := by decide +kernel
theorem dL_law_270 : decode cL_law 270 = .ok (.iconst 2, 1) := by decide +kernel
theorem dL_law_271 : decode cL_law 271 = .ok (.iadd, 1) := by decide +kernel
theorem dL_law_272 : decode cL_law 272 = .ok (.iaload, 1) := by decide +kernel
theorem dL_law_273 : decode cL_law 273 = .ok (.aload_n 0, 1) := by decide +kernel
theorem dL_law_274 : decode cL_law 274 = .ok (.iload_n 3, 1) := by decide +kernel
theorem dL_law_275 : decode cL_law 275 = .ok (.iconst 3, 1) := by decide +kernel
theorem dL_law_276 : decode cL_law 276 = .ok (.iadd, 1) := by decide +kernel
theorem dL_law_277 : decode cL_law 277 = .ok (.iaload, 1) := by decide +kernel
theorem dL_law_278 : decode cL_law 278 = .ok (.invokevirtual 34, 3) := by decide +kernel
theorem dL_law_281 : decode cL_law 281 = .ok (.aload_n 2, 1) := by decide +kernel
theorem dL_law_282 : decode cL_law 282 = .ok (.aload_n 0, 1) := by decide +kernel
theorem dL_law_283 : decode cL_law 283 = .ok (.iload_n 3, 1) := by decide +kernel
theorem dL_law_284 : decode cL_law 284 = .ok (.iconst 1, 1) := by decide +kernel
theorem dL_law_285 : decode cL_law 285 = .ok (.iadd, 1) := by decide +kernel
theorem dL_law_286 : decode cL_law 286 = .ok (.iaload, 1) := by decide +kernel
theorem dL_law_287 : decode cL_law 287 = .ok (.aload_n 0, 1) := by decide +kernel
theorem dL_law_288 : decode cL_law 288 = .ok (.iload_n 3, 1) := by decide +kernel
theorem dL_law_289 : decode cL_law 289 = .ok (.iconst 2, 1) := by decide +kernel
theorem dL_law_290 : decode cL_law 290 = .ok (.iadd, 1) := by decide +kernel
theorem dL_law_291 : decode cL_law 291 = .ok (.iaload, 1) := by decide +kernel
theorem dL_law_292 : decode cL_law 292 = .ok (.aload_n 0, 1) := by decide +kernel
theorem dL_law_293 : decode cL_law 293 = .ok (.iload_n 3, 1) := by decide +kernel
theorem dL_law_294 : decode cL_law 294 = .ok (.iconst 3, 1) := by decide +kernel
theorem dL_law_295 : decode cL_law 295 = .ok (.iadd, 1) := by decide +kernel
theorem dL_law_296 : decode cL_law 296 = .ok (.iaload, 1) := by decide +kernel
theorem dL_law_297 : decode cL_law 297 = .ok (.invokevirtual 38, 3) := by decide +kernel
theorem dL_law_300 : decode cL_law 300 = .ok (.if_icmp .eq 494, 3) := by decide +kernel
theorem dL_law_303 : decode cL_law 303 = .ok (.iconst 0, 1) := by decide +kernel
theorem dL_law_304 : decode cL_law 304 = .ok (.ireturn, 1) := by decide +kernel
theorem dL_law_305 : decode cL_law 305 = .ok (.aload_n 1, 1) := by decide +kernel
theorem dL_law_306 : decode cL_law 306 = .ok (.aload_n 0, 1) := by decide +kernel
theorem dL_law_307 : decode cL_law 307 = .ok (.iload_n 3, 1) := by decide +kernel
theorem dL_law_308 : decode cL_law 308 = .ok (.iconst 1, 1) := by decide +kernel
theorem dL_law_309 : decode cL_law 309 = .ok (.iadd, 1) := by decide +kernel
theorem dL_law_310 : decode cL_law 310 = .ok (.iaload, 1) := by decide +kernel
theorem dL_law_311 : decode cL_law 311 = .ok (.aload_n 0, 1) := by decide +kernel
theorem dL_law_312 : decode cL_law 312 = .ok (.iload_n 3, 1) := by decide +kernel
theorem dL_law_313 : decode cL_law 313 = .ok (.iconst 2, 1) := by decide +kernel
theorem dL_law_314 : decode cL_law 314 = .ok (.iadd, 1) := by decide +kernel
theorem dL_law_315 : decode cL_law 315 = .ok (.iaload, 1) := by decide +kernel
theorem dL_law_316 : decode cL_law 316 = .ok (.aload_n 0, 1) := by decide +kernel
theorem dL_law_317 : decode cL_law 317 = .ok (.iload_n 3, 1) := by decide +kernel
theorem dL_law_318 : decode cL_law 318 = .ok (.iconst 3, 1) := by decide +kernel
theorem dL_law_319 : decode cL_law 319 = .ok (.iadd, 1) := by decide +kernel
theorem dL_law_320 : decode cL_law 320 = .ok (.iaload, 1) := by decide +kernel
theorem dL_law_321 : decode cL_law 321 = .ok (.invokevirtual 39, 3) := by decide +kernel
theorem dL_law_324 : decode cL_law 324 = .ok (.aload_n 2, 1) := by decide +kernel
theorem dL_law_325 : decode cL_law 325 = .ok (.aload_n 0, 1) := by decide +kernel
theorem dL_law_326 : decode cL_law 326 = .ok (.iload_n 3, 1) := by decide +kernel
theorem dL_law_327 : decode cL_law 327 = .ok (.iconst 1, 1) := by decide +kernel
theorem dL_law_328 : decode cL_law 328 = .ok (.iadd, 1) := by decide +kernel
theorem dL_law_329 : decode cL_law 329 = .ok (.iaload, 1) := by decide +kernel
theorem dL_law_330 : decode cL_law 330 = .ok (.aload_n 0, 1) := by decide +kernel
theorem dL_law_331 : decode cL_law 331 = .ok (.iload_n 3, 1) := by decide +kernel
theorem dL_law_332 : decode cL_law 332 = .ok (.iconst 2, 1) := by decide +kernel
theorem dL_law_333 : decode cL_law 333 = .ok (.iadd, 1) := by decide +kernel
theorem dL_law_334 : decode cL_law 334 = .ok (.iaload, 1) := by decide +kernel
theorem dL_law_335 : decode cL_law 335 = .ok (.aload_n 0, 1) := by decide +kernel
theorem dL_law_336 : decode cL_law 336 = .ok (.iload_n 3, 1) := by decide +kernel
theorem dL_law_337 : decode cL_law 337 = .ok (.iconst 3, 1) := by decide +kernel
theorem dL_law_338 : decode cL_law 338 = .ok (.iadd, 1) := by decide +kernel
theorem dL_law_339 : decode cL_law 339 = .ok (.iaload, 1) := by decide +kernel
theorem dL_law_340 : decode cL_law 340 = .ok (.invokevirtual 42, 3) := by decide +kernel
theorem dL_law_343 : decode cL_law 343 = .ok (.if_icmp .eq 451, 3) := by decide +kernel
theorem dL_law_346 : decode cL_law 346 = .ok (.iconst 0, 1) := by decide +kernel
theorem dL_law_347 : decode cL_law 347 = .ok (.ireturn, 1) := by decide +kernel
theorem dL_law_348 : decode cL_law 348 = .ok (.aload_n 1, 1) := by decide +kernel
theorem dL_law_349 : decode cL_law 349 = .ok (.aload_n 0, 1) := by decide +kernel
theorem dL_law_350 : decode cL_law 350 = .ok (.iload_n 3, 1) := by decide +kernel
theorem dL_law_351 : decode cL_law 351 = .ok (.iconst 1, 1) := by decide +kernel
theorem dL_law_352 : decode cL_law 352 = .ok (.iadd, 1) := by decide +kernel
theorem dL_law_353 : decode cL_law 353 = .ok (.iaload, 1) := by decide +kernel
theorem dL_law_354 : decode cL_law 354 = .ok (.aload_n 0, 1) := by decide +kernel
theorem dL_law_355 : decode cL_law 355 = .ok (.iload_n 3, 1) := by decide +kernel
theorem dL_law_356 : decode cL_law 356 = .ok (.iconst 2, 1) := by decide +kernel
theorem dL_law_357 : decode cL_law 357 = .ok (.iadd, 1) := by decide +kernel
theorem dL_law_358 : decode cL_law 358 = .ok (.iaload, 1) := by decide +kernel
theorem dL_law_359 : decode cL_law 359 = .ok (.invokevirtual 43, 3) := by decide +kernel
theorem dL_law_362 : decode cL_law 362 = .ok (.aload_n 2, 1) := by decide +kernel
theorem dL_law_363 : decode cL_law 363 = .ok (.aload_n 0, 1) := by decide +kernel
theorem dL_law_364 : decode cL_law 364 = .ok (.iload_n 3, 1) := by decide +kernel
theorem dL_law_365 : decode cL_law 365 = .ok (.iconst 1, 1) := by decide +kernel
theorem dL_law_366 : decode cL_law 366 = .ok (.iadd, 1) := by decide +kernel
theorem dL_law_367 : decode cL_law 367 = .ok (.iaload, 1) := by decide +kernel
theorem dL_law_368 : decode cL_law 368 = .ok (.aload_n 0, 1) := by decide +kernel
theorem dL_law_369 : decode cL_law 369 = .ok (.iload_n 3, 1) := by decide +kernel
theorem dL_law_370 : decode cL_law 370 = .ok (.iconst 2, 1) := by decide +kernel
theorem dL_law_371 : decode cL_law 371 = .ok (.iadd, 1) := by decide +kernel
theorem dL_law_372 : decode cL_law 372 = .ok (.iaload, 1) := by decide +kernel
theorem dL_law_373 : decode cL_law 373 = .ok (.invokevirtual 46, 3) := by decide +kernel
theorem dL_law_376 : decode cL_law 376 = .ok (.if_icmp .eq 418, 3) := by decide +kernel
theorem dL_law_379 : decode cL_law 379 = .ok (.iconst 0, 1) := by decide +kernel
theorem dL_law_380 : decode cL_law 380 = .ok (.ireturn, 1) := by decide +kernel
theorem dL_law_381 : decode cL_law 381 = .ok (.aload_n 1, 1) := by decide +kernel
theorem dL_law_382 : decode cL_law 382 = .ok (.aload_n 0, 1) := by decide +kernel
theorem dL_law_383 : decode cL_law 383 = .ok (.iload_n 3, 1) := by decide +kernel
theorem dL_law_384 : decode cL_law 384 = .ok (.iconst 1, 1) := by decide +kernel
theorem dL_law_385 : decode cL_law 385 = .ok (.iadd, 1) := by decide +kernel
theorem dL_law_386 : decode cL_law 386 = .ok (.iaload, 1) := by decide +kernel
theorem dL_law_387 : decode cL_law 387 = .ok (.aload_n 0, 1) := by decide +kernel
theorem dL_law_388 : decode cL_law 388 = .ok (.iload_n 3, 1) := by decide +kernel
theorem dL_law_389 : decode cL_law 389 = .ok (.iconst 2, 1) := by decide +kernel
theorem dL_law_390 : decode cL_law 390 = .ok (.iadd, 1) := by decide +kernel
theorem dL_law_391 : decode cL_law 391 = .ok (.iaload, 1) := by decide +kernel
theorem dL_law_392 : decode cL_law 392 = .ok (.aload_n 0, 1) := by decide +kernel
theorem dL_law_393 : decode cL_law 393 = .ok (.iload_n 3, 1) := by decide +kernel
theorem dL_law_394 : decode cL_law 394 = .ok (.iconst 3, 1) := by decide +kernel
theorem dL_law_395 : decode cL_law 395 = .ok (.iadd, 1) := by decide +kernel
theorem dL_law_396 : decode cL_law 396 = .ok (.iaload, 1) := by decide +kernel
theorem dL_law_397 : decode cL_law 397 = .ok (.aload_n 0, 1) := by decide +kernel
theorem dL_law_398 : decode cL_law 398 = .ok (.iload_n 3, 1) := by decide +kernel
theorem dL_law_399 : decode cL_law 399 = .ok (.iconst 4, 1) := by decide +kernel
theorem dL_law_400 : decode cL_law 400 = .ok (.iadd, 1) := by decide +kernel
theorem dL_law_401 : decode cL_law 401 = .ok (.iaload, 1) := by decide +kernel
theorem dL_law_402 : decode cL_law 402 = .ok (.aload_n 0, 1) := by decide +kernel
theorem dL_law_403 : decode cL_law 403 = .ok (.iload_n 3, 1) := by decide +kernel
theorem dL_law_404 : decode cL_law 404 = .ok (.iconst 5, 1) := by decide +kernel
theorem dL_law_405 : decode cL_law 405 = .ok (.iadd, 1) := by decide +kernel
theorem dL_law_406 : decode cL_law 406 = .ok (.iaload, 1) := by decide +kernel
theorem dL_law_407 : decode cL_law 407 = .ok (.invokevirtual 47, 3) := by decide +kernel
theorem dL_law_410 : decode cL_law 410 = .ok (.aload_n 2, 1) := by decide +kernel
theorem dL_law_411 : decode cL_law 411 = .ok (.aload_n 0, 1) := by decide +kernel
theorem dL_law_412 : decode cL_law 412 = .ok (.iload_n 3, 1) := by decide +kernel
theorem dL_law_413 : decode cL_law 413 = .ok (.iconst 1, 1) := by decide +kernel
theorem dL_law_414 : decode cL_law 414 = .ok (.iadd, 1) := by decide +kernel
theorem dL_law_415 : decode cL_law 415 = .ok (.iaload, 1) := by decide +kernel
theorem dL_law_416 : decode cL_law 416 = .ok (.aload_n 0, 1) := by decide +kernel
theorem dL_law_417 : decode cL_law 417 = .ok (.iload_n 3, 1) := by decide +kernel
theorem dL_law_418 : decode cL_law 418 = .ok (.iconst 2, 1) := by decide +kernel
theorem dL_law_419 : decode cL_law 419 = .ok (.iadd, 1) := by decide +kernel
theorem dL_law_420 : decode cL_law 420 = .ok (.iaload, 1) := by decide +kernel
theorem dL_law_421 : decode cL_law 421 = .ok (.aload_n 0, 1) := by decide +kernel
theorem dL_law_422 : decode cL_law 422 = .ok (.iload_n 3, 1) := by decide +kernel
theorem dL_law_423 : decode cL_law 423 = .ok (.iconst 3, 1) := by decide +kernel
theorem dL_law_424 : decode cL_law 424 = .ok (.iadd, 1) := by decide +kernel
theorem dL_law_425 : decode cL_law 425 = .ok (.iaload, 1) := by decide +kernel
theorem dL_law_426 : decode cL_law 426 = .ok (.aload_n 0, 1) := by decide +kernel
theorem dL_law_427 : decode cL_law 427 = .ok (.iload_n 3, 1) := by decide +kernel
theorem dL_law_428 : decode cL_law 428 = .ok (.iconst 4, 1) := by decide +kernel
theorem dL_law_429 : decode cL_law 429 = .ok (.iadd, 1) := by decide +kernel
theorem dL_law_430 : decode cL_law 430 = .ok (.iaload, 1) := by decide +kernel
theorem dL_law_431 : decode cL_law 431 = .ok (.aload_n 0, 1) := by decide +kernel
theorem dL_law_432 : decode cL_law 432 = .ok (.iload_n 3, 1) := by decide +kernel
theorem dL_law_433 : decode cL_law 433 = .ok (.iconst 5, 1) := by decide +kernel
theorem dL_law_434 : decode cL_law 434 = .ok (.iadd, 1) := by decide +kernel
theorem dL_law_435 : decode cL_law 435 = .ok (.iaload, 1) := by decide +kernel
theorem dL_law_436 : decode cL_law 436 = .ok (.invokevirtual 51, 3) := by decide +kernel
theorem dL_law_439 : decode cL_law 439 = .ok (.if_icmp .eq 355, 3) := by decide +kernel
theorem dL_law_442 : decode cL_law 442 = .ok (.iconst 0, 1) := by decide +kernel
theorem dL_law_443 : decode cL_law 443 = .ok (.ireturn, 1) := by decide +kernel
theorem dL_law_444 : decode cL_law 444 = .ok (.aload_n 1, 1) := by decide +kernel
theorem dL_law_445 : decode cL_law 445 = .ok (.invokevirtual 52, 3) := by decide +kernel
theorem dL_law_448 : decode cL_law 448 = .ok (.aload_n 2, 1) := by decide +kernel
theorem dL_law_449 : decode cL_law 449 = .ok (.invokevirtual 55, 3) := by decide +kernel
theorem dL_law_452 : decode cL_law 452 = .ok (.if_icmp .eq 342, 3) := by decide +kernel
theorem dL_law_455 : decode cL_law 455 = .ok (.iconst 0, 1) := by decide +kernel
theorem dL_law_456 : decode cL_law 456 = .ok (.ireturn, 1) := by decide +kernel
theorem dL_law_457 : decode cL_law 457 = .ok (.aload_n 1, 1) := by decide +kernel
theorem dL_law_458 : decode cL_law 458 = .ok (.aload_n 0, 1) := by decide +kernel
theorem dL_law_459 : decode cL_law 459 = .ok (.iload_n 3, 1) := by decide +kernel
theorem dL_law_460 : decode cL_law 460 = .ok (.iconst 1, 1) := by decide +kernel
theorem dL_law_461 : decode cL_law 461 = .ok (.iadd, 1) := by decide +kernel
theorem dL_law_462 : decode cL_law 462 = .ok (.iaload, 1) := by decide +kernel
theorem dL_law_463 : decode cL_law 463 = .ok (.aload_n 0, 1) := by decide +kernel
theorem dL_law_464 : decode cL_law 464 = .ok (.iload_n 3, 1) := by decide +kernel
theorem dL_law_465 : decode cL_law 465 = .ok (.iconst 2, 1) := by decide +kernel
theorem dL_law_466 : decode cL_law 466 = .ok (.iadd, 1) := by decide +kernel
theorem dL_law_467 : decode cL_law 467 = .ok (.iaload, 1) := by decide +kernel
theorem dL_law_468 : decode cL_law 468 = .ok (.aload_n 0, 1) := by decide +kernel
theorem dL_law_469 : decode cL_law 469 = .ok (.iload_n 3, 1) := by decide +kernel
theorem dL_law_470 : decode cL_law 470 = .ok (.iconst 3, 1) := by decide +kernel
theorem dL_law_471 : decode cL_law 471 = .ok (.iadd, 1) := by decide +kernel
theorem dL_law_472 : decode cL_law 472 = .ok (.iaload, 1) := by decide +kernel
theorem dL_law_473 : decode cL_law 473 = .ok (.invokevirtual 56, 3) := by decide +kernel
theorem dL_law_476 : decode cL_law 476 = .ok (.aload_n 2, 1) := by decide +kernel
theorem dL_law_477 : decode cL_law 477 = .ok (.aload_n 0, 1) := by decide +kernel
theorem dL_law_478 : decode cL_law 478 = .ok (.iload_n 3, 1) := by decide +kernel
theorem dL_law_479 : decode cL_law 479 = .ok (.iconst 1, 1) := by decide +kernel
theorem dL_law_480 : decode cL_law 480 = .ok (.iadd, 1) := by decide +kernel
theorem dL_law_481 : decode cL_law 481 = .ok (.iaload, 1) := by decide +kernel
theorem dL_law_482 : decode cL_law 482 = .ok (.aload_n 0, 1) := by decide +kernel
theorem dL_law_483 : decode cL_law 483 = .ok (.iload_n 3, 1) := by decide +kernel
theorem dL_law_484 : decode cL_law 484 = .ok (.iconst 2, 1) := by decide +kernel
theorem dL_law_485 : decode cL_law 485 = .ok (.iadd, 1) := by decide +kernel
theorem dL_law_486 : decode cL_law 486 = .ok (.iaload, 1) := by decide +kernel
theorem dL_law_487 : decode cL_law 487 = .ok (.aload_n 0, 1) := by decide +kernel
theorem dL_law_488 : decode cL_law 488 = .ok (.iload_n 3, 1) := by decide +kernel
theorem dL_law_489 : decode cL_law 489 = .ok (.iconst 3, 1) := by decide +kernel
theorem dL_law_490 : decode cL_law 490 = .ok (.iadd, 1) := by decide +kernel
theorem dL_law_491 : decode cL_law 491 = .ok (.iaload, 1) := by decide +kernel
theorem dL_law_492 : decode cL_law 492 = .ok (.invokevirtual 59, 3) := by decide +kernel
theorem dL_law_495 : decode cL_law 495 = .ok (.if_icmp .eq 299, 3) := by decide +kernel
theorem dL_law_498 : decode cL_law 498 = .ok (.iconst 0, 1) := by decide +kernel
theorem dL_law_499 : decode cL_law 499 = .ok (.ireturn, 1) := by decide +kernel
theorem dL_law_500 : decode cL_law 500 = .ok (.aload_n 1, 1) := by decide +kernel
theorem dL_law_501 : decode cL_law 501 = .ok (.aload_n 0, 1) := by decide +kernel
theorem dL_law_502 : decode cL_law 502 = .ok (.iload_n 3, 1) := by decide +kernel
theorem dL_law_503 : decode cL_law 503 = .ok (.iconst 1, 1) := by decide +kernel
theorem dL_law_504 : decode cL_law 504 = .ok (.iadd, 1) := by decide +kernel
theorem dL_law_505 : decode cL_law 505 = .ok (.iaload, 1) := by decide +kernel
theorem dL_law_506 : decode cL_law 506 = .ok (.aload_n 0, 1) := by decide +kernel
theorem dL_law_507 : decode cL_law 507 = .ok (.iload_n 3, 1) := by decide +kernel
theorem dL_law_508 : decode cL_law 508 = .ok (.iconst 2, 1) := by decide +kernel
theorem dL_law_509 : decode cL_law 509 = .ok (.iadd, 1) := by decide +kernel
theorem dL_law_510 : decode cL_law 510 = .ok (.iaload, 1) := by decide +kernel
theorem dL_law_511 : decode cL_law 511 = .ok (.aload_n 0, 1) := by decide +kernel
theorem dL_law_512 : decode cL_law 512 = .ok (.iload_n 3, 1) := by decide +kernel
theorem dL_law_513 : decode cL_law 513 = .ok (.iconst 3, 1) := by decide +kernel
theorem dL_law_514 : decode cL_law 514 = .ok (.iadd, 1) := by decide +kernel
theorem dL_law_515 : decode cL_law 515 = .ok (.iaload, 1) := by decide +kernel
theorem dL_law_516 : decode cL_law 516 = .ok (.aload_n 0, 1) := by decide +kernel
theorem dL_law_517 : decode cL_law 517 = .ok (.iload_n 3, 1) := by decide +kernel
theorem dL_law_518 : decode cL_law 518 = .ok (.iconst 4, 1) := by decide +kernel
theorem dL_law_519 : decode cL_law 519 = .ok (.iadd, 1) := by decide +kernel
theorem dL_law_520 : decode cL_law 520 = .ok (.iaload, 1) := by decide +kernel
theorem dL_law_521 : decode cL_law 521 = .ok (.invokevirtual 60, 3) := by decide +kernel
theorem dL_law_524 : decode cL_law 524 = .ok (.aload_n 2, 1) := by decide +kernel
theorem dL_law_525 : decode cL_law 525 = .ok (.aload_n 0, 1) := by decide +kernel
theorem dL_law_526 : decode cL_law 526 = .ok (.iload_n 3, 1) := by decide +kernel
theorem dL_law_527 : decode cL_law 527 = .ok (.iconst 1, 1) := by decide +kernel
theorem dL_law_528 : decode cL_law 528 = .ok (.iadd, 1) := by decide +kernel
theorem dL_law_529 : decode cL_law 529 = .ok (.iaload, 1) := by decide +kernel
theorem dL_law_530 : decode cL_law 530 = .ok (.aload_n 0, 1) := by decide +kernel
theorem dL_law_531 : decode cL_law 531 = .ok (.iload_n 3, 1) := by decide +kernel
theorem dL_law_532 : decode cL_law 532 = .ok (.iconst 2, 1) := by decide +kernel
theorem dL_law_533 : decode cL_law 533 = .ok (.iadd, 1) := by decide +kernel
theorem dL_law_534 : decode cL_law 534 = .ok (.iaload, 1) := by decide +kernel
theorem dL_law_535 : decode cL_law 535 = .ok (.aload_n 0, 1) := by decide +kernel
theorem dL_law_536 : decode cL_law 536 = .ok (.iload_n 3, 1) := by decide +kernel
theorem dL_law_537 : decode cL_law 537 = .ok (.iconst 3, 1) := by decide +kernel
theorem dL_law_538 : decode cL_law 538 = .ok (.iadd, 1) := by decide +kernel
theorem dL_law_539 : decode cL_law 539 = .ok (.iaload, 1) := by decide +kernel
theorem dL_law_540 : decode cL_law 540 = .ok (.aload_n 0, 1) := by decide +kernel
theorem dL_law_541 : decode cL_law 541 = .ok (.iload_n 3, 1) := by decide +kernel
theorem dL_law_542 : decode cL_law 542 = .ok (.iconst 4, 1) := by decide +kernel
theorem dL_law_543 : decode cL_law 543 = .ok (.iadd, 1) := by decide +kernel
theorem dL_law_544 : decode cL_law 544 = .ok (.iaload, 1) := by decide +kernel
theorem dL_law_545 : decode cL_law 545 = .ok (.invokevirtual 64, 3) := by decide +kernel
theorem dL_law_548 : decode cL_law 548 = .ok (.if_icmp .eq 246, 3) := by decide +kernel
theorem dL_law_551 : decode cL_law 551 = .ok (.iconst 0, 1) := by decide +kernel
theorem dL_law_552 : decode cL_law 552 = .ok (.ireturn, 1) := by decide +kernel
theorem dL_law_553 : decode cL_law 553 = .ok (.aload_n 1, 1) := by decide +kernel
theorem dL_law_554 : decode cL_law 554 = .ok (.aload_n 0, 1) := by decide +kernel
theorem dL_law_555 : decode cL_law 555 = .ok (.iload_n 3, 1) := by decide +kernel
theorem dL_law_556 : decode cL_law 556 = .ok (.iconst 1, 1) := by decide +kernel
theorem dL_law_557 : decode cL_law 557 = .ok (.iadd, 1) := by decide +kernel
theorem dL_law_558 : decode cL_law 558 = .ok (.iaload, 1) := by decide +kernel
theorem dL_law_559 : decode cL_law 559 = .ok (.aload_n 0, 1) := by decide +kernel
theorem dL_law_560 : decode cL_law 560 = .ok (.iload_n 3, 1) := by decide +kernel
theorem dL_law_561 : decode cL_law 561 = .ok (.iconst 2, 1) := by decide +kernel
theorem dL_law_562 : decode cL_law 562 = .ok (.iadd, 1) := by decide +kernel
theorem dL_law_563 : decode cL_law 563 = .ok (.iaload, 1) := by decide +kernel
theorem dL_law_564 : decode cL_law 564 = .ok (.aload_n 0, 1) := by decide +kernel
theorem dL_law_565 : decode cL_law 565 = .ok (.iload_n 3, 1) := by decide +kernel
theorem dL_law_566 : decode cL_law 566 = .ok (.iconst 3, 1) := by decide +kernel
theorem dL_law_567 : decode cL_law 567 = .ok (.iadd, 1) := by decide +kernel
theorem dL_law_568 : decode cL_law 568 = .ok (.iaload, 1) := by decide +kernel
theorem dL_law_569 : decode cL_law 569 = .ok (.invokevirtual 65, 3) := by decide +kernel
theorem dL_law_572 : decode cL_law 572 = .ok (.aload_n 2, 1) := by decide +kernel
theorem dL_law_573 : decode cL_law 573 = .ok (.aload_n 0, 1) := by decide +kernel
theorem dL_law_574 : decode cL_law 574 = .ok (.iload_n 3, 1) := by decide +kernel
theorem dL_law_575 : decode cL_law 575 = .ok (.iconst 1, 1) := by decide +kernel
theorem dL_law_576 : decode cL_law 576 = .ok (.iadd, 1) := by decide +kernel
theorem dL_law_577 : decode cL_law 577 = .ok (.iaload, 1) := by decide +kernel
theorem dL_law_578 : decode cL_law 578 = .ok (.aload_n 0, 1) := by decide +kernel
theorem dL_law_579 : decode cL_law 579 = .ok (.iload_n 3, 1) := by decide +kernel
theorem dL_law_580 : decode cL_law 580 = .ok (.iconst 2, 1) := by decide +kernel
theorem dL_law_581 : decode cL_law 581 = .ok (.iadd, 1) := by decide +kernel
theorem dL_law_582 : decode cL_law 582 = .ok (.iaload, 1) := by decide +kernel
theorem dL_law_583 : decode cL_law 583 = .ok (.aload_n 0, 1) := by decide +kernel
theorem dL_law_584 : decode cL_law 584 = .ok (.iload_n 3, 1) := by decide +kernel
theorem dL_law_585 : decode cL_law 585 = .ok (.iconst 3, 1) := by decide +kernel
theorem dL_law_586 : decode cL_law 586 = .ok (.iadd, 1) := by decide +kernel
theorem dL_law_587 : decode cL_law 587 = .ok (.iaload, 1) := by decide +kernel
theorem dL_law_588 : decode cL_law 588 = .ok (.invokevirtual 68, 3) := by decide +kernel
theorem dL_law_591 : decode cL_law 591 = .ok (.if_icmp .eq 203, 3) := by decide +kernel
theorem dL_law_594 : decode cL_law 594 = .ok (.iconst 0, 1) := by decide +kernel
theorem dL_law_595 : decode cL_law 595 = .ok (.ireturn, 1) := by decide +kernel
theorem dL_law_596 : decode cL_law 596 = .ok (.aload_n 1, 1) := by decide +kernel
theorem dL_law_597 : decode cL_law 597 = .ok (.aload_n 0, 1) := by decide +kernel
theorem dL_law_598 : decode cL_law 598 = .ok (.iload_n 3, 1) := by decide +kernel
theorem dL_law_599 : decode cL_law 599 = .ok (.iconst 1, 1) := by decide +kernel
theorem dL_law_600 : decode cL_law 600 = .ok (.iadd, 1) := by decide +kernel
theorem dL_law_601 : decode cL_law 601 = .ok (.iaload, 1) := by decide +kernel
theorem dL_law_602 : decode cL_law 602 = .ok (.aload_n 0, 1) := by decide +kernel
theorem dL_law_603 : decode cL_law 603 = .ok (.iload_n 3, 1) := by decide +kernel
theorem dL_law_604 : decode cL_law 604 = .ok (.iconst 2, 1) := by decide +kernel
theorem dL_law_605 : decode cL_law 605 = .ok (.iadd, 1) := by decide +kernel
theorem dL_law_606 : decode cL_law 606 = .ok (.iaload, 1) := by decide +kernel
theorem dL_law_607 : decode cL_law 607 = .ok (.aload_n 0, 1) := by decide +kernel
theorem dL_law_608 : decode cL_law 608 = .ok (.iload_n 3, 1) := by decide +kernel
theorem dL_law_609 : decode cL_law 609 = .ok (.iconst 3, 1) := by decide +kernel
theorem dL_law_610 : decode cL_law 610 = .ok (.iadd, 1) := by decide +kernel
theorem dL_law_611 : decode cL_law 611 = .ok (.iaload, 1) := by decide +kernel
theorem dL_law_612 : decode cL_law 612 = .ok (.aload_n 0, 1) := by decide +kernel
theorem dL_law_613 : decode cL_law 613 = .ok (.iload_n 3, 1) := by decide +kernel
theorem dL_law_614 : decode cL_law 614 = .ok (.iconst 4, 1) := by decide +kernel
theorem dL_law_615 : decode cL_law 615 = .ok (.iadd, 1) := by decide +kernel
theorem dL_law_616 : decode cL_law 616 = .ok (.iaload, 1) := by decide +kernel
theorem dL_law_617 : decode cL_law 617 = .ok (.invokevirtual 69, 3) := by decide +kernel
theorem dL_law_620 : decode cL_law 620 = .ok (.aload_n 2, 1) := by decide +kernel
theorem dL_law_621 : decode cL_law 621 = .ok (.aload_n 0, 1) := by decide +kernel
theorem dL_law_622 : decode cL_law 622 = .ok (.iload_n 3, 1) := by decide +kernel
theorem dL_law_623 : decode cL_law 623 = .ok (.iconst 1, 1) := by decide +kernel
theorem dL_law_624 : decode cL_law 624 = .ok (.iadd, 1) := by decide +kernel
theorem dL_law_625 : decode cL_law 625 = .ok (.iaload, 1) := by decide +kernel
theorem dL_law_626 : decode cL_law 626 = .ok (.aload_n 0, 1) := by decide +kernel
theorem dL_law_627 : decode cL_law 627 = .ok (.iload_n 3, 1) := by decide +kernel
theorem dL_law_628 : decode cL_law 628 = .ok (.iconst 2, 1) := by decide +kernel
theorem dL_law_629 : decode cL_law 629 = .ok (.iadd, 1) := by decide +kernel
theorem dL_law_630 : decode cL_law 630 = .ok (.iaload, 1) := by decide +kernel
theorem dL_law_631 : decode cL_law 631 = .ok (.aload_n 0, 1) := by decide +kernel
theorem dL_law_632 : decode cL_law 632 = .ok (.iload_n 3, 1) := by decide +kernel
theorem dL_law_633 : decode cL_law 633 = .ok (.iconst 3, 1) := by decide +kernel
theorem dL_law_634 : decode cL_law 634 = .ok (.iadd, 1) := by decide +kernel
theorem dL_law_635 : decode cL_law 635 = .ok (.iaload, 1) := by decide +kernel
theorem dL_law_636 : decode cL_law 636 = .ok (.aload_n 0, 1) := by decide +kernel
theorem dL_law_637 : decode cL_law 637 = .ok (.iload_n 3, 1) := by decide +kernel
theorem dL_law_638 : decode cL_law 638 = .ok (.iconst 4, 1) := by decide +kernel
theorem dL_law_639 : decode cL_law 639 = .ok (.iadd, 1) := by decide +kernel
theorem dL_law_640 : decode cL_law 640 = .ok (.iaload, 1) := by decide +kernel
theorem dL_law_641 : decode cL_law 641 = .ok (.invokevirtual 72, 3) := by decide +kernel
theorem dL_law_644 : decode cL_law 644 = .ok (.if_icmp .eq 150, 3) := by decide +kernel
theorem dL_law_647 : decode cL_law 647 = .ok (.iconst 0, 1) := by decide +kernel
theorem dL_law_648 : decode cL_law 648 = .ok (.ireturn, 1) := by decide +kernel
theorem dL_law_649 : decode cL_law 649 = .ok (.aload_n 1, 1) := by decide +kernel
theorem dL_law_650 : decode cL_law 650 = .ok (.aload_n 0, 1) := by decide +kernel
theorem dL_law_651 : decode cL_law 651 = .ok (.iload_n 3, 1) := by decide +kernel
theorem dL_law_652 : decode cL_law 652 = .ok (.iconst 1, 1) := by decide +kernel
theorem dL_law_653 : decode cL_law 653 = .ok (.iadd, 1) := by decide +kernel
theorem dL_law_654 : decode cL_law 654 = .ok (.iaload, 1) := by decide +kernel
theorem dL_law_655 : decode cL_law 655 = .ok (.aload_n 0, 1) := by decide +kernel
theorem dL_law_656 : decode cL_law 656 = .ok (.iload_n 3, 1) := by decide +kernel
theorem dL_law_657 : decode cL_law 657 = .ok (.iconst 2, 1) := by decide +kernel
theorem dL_law_658 : decode cL_law 658 = .ok (.iadd, 1) := by decide +kernel
theorem dL_law_659 : decode cL_law 659 = .ok (.iaload, 1) := by decide +kernel
theorem dL_law_660 : decode cL_law 660 = .ok (.invokevirtual 73, 3) := by decide +kernel
theorem dL_law_663 : decode cL_law 663 = .ok (.aload_n 2, 1) := by decide +kernel
theorem dL_law_664 : decode cL_law 664 = .ok (.aload_n 0, 1) := by decide +kernel
theorem dL_law_665 : decode cL_law 665 = .ok (.iload_n 3, 1) := by decide +kernel
theorem dL_law_666 : decode cL_law 666 = .ok (.iconst 1, 1) := by decide +kernel
theorem dL_law_667 : decode cL_law 667 = .ok (.iadd, 1) := by decide +kernel
theorem dL_law_668 : decode cL_law 668 = .ok (.iaload, 1) := by decide +kernel
theorem dL_law_669 : decode cL_law 669 = .ok (.aload_n 0, 1) := by decide +kernel
theorem dL_law_670 : decode cL_law 670 = .ok (.iload_n 3, 1) := by decide +kernel
theorem dL_law_671 : decode cL_law 671 = .ok (.iconst 2, 1) := by decide +kernel
theorem dL_law_672 : decode cL_law 672 = .ok (.iadd, 1) := by decide +kernel
theorem dL_law_673 : decode cL_law 673 = .ok (.iaload, 1) := by decide +kernel
theorem dL_law_674 : decode cL_law 674 = .ok (.invokevirtual 76, 3) := by decide +kernel
theorem dL_law_677 : decode cL_law 677 = .ok (.if_icmp .eq 117, 3) := by decide +kernel
theorem dL_law_680 : decode cL_law 680 = .ok (.iconst 0, 1) := by decide +kernel
theorem dL_law_681 : decode cL_law 681 = .ok (.ireturn, 1) := by decide +kernel
theorem dL_law_682 : decode cL_law 682 = .ok (.aload_n 1, 1) := by decide +kernel
theorem dL_law_683 : decode cL_law 683 = .ok (.aload_n 0, 1) := by decide +kernel
theorem dL_law_684 : decode cL_law 684 = .ok (.iload_n 3, 1) := by decide +kernel
theorem dL_law_685 : decode cL_law 685 = .ok (.iconst 1, 1) := by decide +kernel
theorem dL_law_686 : decode cL_law 686 = .ok (.iadd, 1) := by decide +kernel
theorem dL_law_687 : decode cL_law 687 = .ok (.iaload, 1) := by decide +kernel
theorem dL_law_688 : decode cL_law 688 = .ok (.aload_n 0, 1) := by decide +kernel
theorem dL_law_689 : decode cL_law 689 = .ok (.iload_n 3, 1) := by decide +kernel
theorem dL_law_690 : decode cL_law 690 = .ok (.iconst 2, 1) := by decide +kernel
theorem dL_law_691 : decode cL_law 691 = .ok (.iadd, 1) := by decide +kernel
theorem dL_law_692 : decode cL_law 692 = .ok (.iaload, 1) := by decide +kernel
theorem dL_law_693 : decode cL_law 693 = .ok (.invokevirtual 77, 3) := by decide +kernel
theorem dL_law_696 : decode cL_law 696 = .ok (.aload_n 2, 1) := by decide +kernel
theorem dL_law_697 : decode cL_law 697 = .ok (.aload_n 0, 1) := by decide +kernel
theorem dL_law_698 : decode cL_law 698 = .ok (.iload_n 3, 1) := by decide +kernel
theorem dL_law_699 : decode cL_law 699 = .ok (.iconst 1, 1) := by decide +kernel
theorem dL_law_700 : decode cL_law 700 = .ok (.iadd, 1) := by decide +kernel
theorem dL_law_701 : decode cL_law 701 = .ok (.iaload, 1) := by decide +kernel
theorem dL_law_702 : decode cL_law 702 = .ok (.aload_n 0, 1) := by decide +kernel
theorem dL_law_703 : decode cL_law 703 = .ok (.iload_n 3, 1) := by decide +kernel
theorem dL_law_704 : decode cL_law 704 = .ok (.iconst 2, 1) := by decide +kernel
theorem dL_law_705 : decode cL_law 705 = .ok (.iadd, 1) := by decide +kernel
theorem dL_law_706 : decode cL_law 706 = .ok (.iaload, 1) := by decide +kernel
theorem dL_law_707 : decode cL_law 707 = .ok (.invokevirtual 80, 3) := by decide +kernel
theorem dL_law_710 : decode cL_law 710 = .ok (.if_icmp .eq 84, 3) := by decide +kernel
theorem dL_law_713 : decode cL_law 713 = .ok (.iconst 0, 1) := by decide +kernel
theorem dL_law_714 : decode cL_law 714 = .ok (.ireturn, 1) := by decide +kernel
theorem dL_law_715 : decode cL_law 715 = .ok (.aload_n 1, 1) := by decide +kernel
theorem dL_law_716 : decode cL_law 716 = .ok (.aload_n 0, 1) := by decide +kernel
theorem dL_law_717 : decode cL_law 717 = .ok (.iload_n 3, 1) := by decide +kernel
theorem dL_law_718 : decode cL_law 718 = .ok (.iconst 1, 1) := by decide +kernel
theorem dL_law_719 : decode cL_law 719 = .ok (.iadd, 1) := by decide +kernel
theorem dL_law_720 : decode cL_law 720 = .ok (.iaload, 1) := by decide +kernel
theorem dL_law_721 : decode cL_law 721 = .ok (.invokevirtual 81, 3) := by decide +kernel
theorem dL_law_724 : decode cL_law 724 = .ok (.aload_n 2, 1) := by decide +kernel
theorem dL_law_725 : decode cL_law 725 = .ok (.aload_n 0, 1) := by decide +kernel
theorem dL_law_726 : decode cL_law 726 = .ok (.iload_n 3, 1) := by decide +kernel
theorem dL_law_727 : decode cL_law 727 = .ok (.iconst 1, 1) := by decide +kernel
theorem dL_law_728 : decode cL_law 728 = .ok (.iadd, 1) := by decide +kernel
theorem dL_law_729 : decode cL_law 729 = .ok (.iaload, 1) := by decide +kernel
theorem dL_law_730 : decode cL_law 730 = .ok (.invokevirtual 85, 3) := by decide +kernel
theorem dL_law_733 : decode cL_law 733 = .ok (.if_icmp .eq 61, 3) := by decide +kernel
theorem dL_law_736 : decode cL_law 736 = .ok (.iconst 0, 1) := by decide +kernel
theorem dL_law_737 : decode cL_law 737 = .ok (.ireturn, 1) := by decide +kernel
theorem dL_law_738 : decode cL_law 738 = .ok (.aload_n 1, 1) := by decide +kernel
theorem dL_law_739 : decode cL_law 739 = .ok (.aload_n 0, 1) := by decide +kernel
theorem dL_law_740 : decode cL_law 740 = .ok (.iload_n 3, 1) := by decide +kernel
theorem dL_law_741 : decode cL_law 741 = .ok (.iconst 1, 1) := by decide +kernel
theorem dL_law_742 : decode cL_law 742 = .ok (.iadd, 1) := by decide +kernel
theorem dL_law_743 : decode cL_law 743 = .ok (.iaload, 1) := by decide +kernel
theorem dL_law_744 : decode cL_law 744 = .ok (.aload_n 0, 1) := by decide +kernel
theorem dL_law_745 : decode cL_law 745 = .ok (.iload_n 3, 1) := by decide +kernel
theorem dL_law_746 : decode cL_law 746 = .ok (.iconst 2, 1) := by decide +kernel
theorem dL_law_747 : decode cL_law 747 = .ok (.iadd, 1) := by decide +kernel
theorem dL_law_748 : decode cL_law 748 = .ok (.iaload, 1) := by decide +kernel
theorem dL_law_749 : decode cL_law 749 = .ok (.invokevirtual 86, 3) := by decide +kernel
theorem dL_law_752 : decode cL_law 752 = .ok (.aload_n 2, 1) := by decide +kernel
theorem dL_law_753 : decode cL_law 753 = .ok (.aload_n 0, 1) := by decide +kernel
theorem dL_law_754 : decode cL_law 754 = .ok (.iload_n 3, 1) := by decide +kernel
theorem dL_law_755 : decode cL_law 755 = .ok (.iconst 1, 1) := by decide +kernel
theorem dL_law_756 : decode cL_law 756 = .ok (.iadd, 1) := by decide +kernel
theorem dL_law_757 : decode cL_law 757 = .ok (.iaload, 1) := by decide +kernel
theorem dL_law_758 : decode cL_law 758 = .ok (.aload_n 0, 1) := by decide +kernel
theorem dL_law_759 : decode cL_law 759 = .ok (.iload_n 3, 1) := by decide +kernel
theorem dL_law_760 : decode cL_law 760 = .ok (.iconst 2, 1) := by decide +kernel
theorem dL_law_761 : decode cL_law 761 = .ok (.iadd, 1) := by decide +kernel
theorem dL_law_762 : decode cL_law 762 = .ok (.iaload, 1) := by decide +kernel
theorem dL_law_763 : decode cL_law 763 = .ok (.invokevirtual 89, 3) := by decide +kernel
theorem dL_law_766 : decode cL_law 766 = .ok (.if_icmp .eq 28, 3) := by decide +kernel
theorem dL_law_769 : decode cL_law 769 = .ok (.iconst 0, 1) := by decide +kernel
theorem dL_law_770 : decode cL_law 770 = .ok (.ireturn, 1) := by decide +kernel
theorem dL_law_771 : decode cL_law 771 = .ok (.aload_n 1, 1) := by decide +kernel
theorem dL_law_772 : decode cL_law 772 = .ok (.aload_n 0, 1) := by decide +kernel
theorem dL_law_773 : decode cL_law 773 = .ok (.iload_n 3, 1) := by decide +kernel
theorem dL_law_774 : decode cL_law 774 = .ok (.iconst 1, 1) := by decide +kernel
theorem dL_law_775 : decode cL_law 775 = .ok (.iadd, 1) := by decide +kernel
theorem dL_law_776 : decode cL_law 776 = .ok (.iaload, 1) := by decide +kernel
theorem dL_law_777 : decode cL_law 777 = .ok (.invokevirtual 90, 3) := by decide +kernel
theorem dL_law_780 : decode cL_law 780 = .ok (.aload_n 2, 1) := by decide +kernel
theorem dL_law_781 : decode cL_law 781 = .ok (.aload_n 0, 1) := by decide +kernel
theorem dL_law_782 : decode cL_law 782 = .ok (.iload_n 3, 1) := by decide +kernel
theorem dL_law_783 : decode cL_law 783 = .ok (.iconst 1, 1) := by decide +kernel
theorem dL_law_784 : decode cL_law 784 = .ok (.iadd, 1) := by decide +kernel
theorem dL_law_785 : decode cL_law 785 = .ok (.iaload, 1) := by decide +kernel
theorem dL_law_786 : decode cL_law 786 = .ok (.invokevirtual 93, 3) := by decide +kernel
theorem dL_law_789 : decode cL_law 789 = .ok (.if_icmp .eq 5, 3) := by decide +kernel
theorem dL_law_792 : decode cL_law 792 = .ok (.iconst 0, 1) := by decide +kernel
theorem dL_law_793 : decode cL_law 793 = .ok (.ireturn, 1) := by decide +kernel
theorem dL_law_794 : decode cL_law 794 = .ok (.iinc 3 6, 3) := by decide +kernel
theorem dL_law_797 : decode cL_law 797 = .ok (.goto (-779), 3) := by decide +kernel
theorem dL_law_800 : decode cL_law 800 = .ok (.iconst 1, 1) := by decide +kernel
theorem dL_law_801 : decode cL_law 801 = .ok (.ireturn, 1) := by decide +kernel
end
section
/-! The abstract heap: cells by their names (0, 1, 2 .. in the order in which they are made), ad: where a name lies. (count, kind of a name, length of an array), int fields, reference fields, rows of numbers, rows of references -/
abbrev hs_T : Type := (Nat × (Nat → Nat) × (Nat → Nat)) × (Nat → Nat → Int32) × (Nat → Nat → Option Nat) × (Nat → Nat → Int32) × (Nat → Nat → Option Nat)
def hs_N (σ : hs_T) : Nat := σ.1.1
def hs_K (σ : hs_T) : Nat → Nat := σ.1.2.1
def hs_L (σ : hs_T) : Nat → Nat := σ.1.2.2
def hs_F (σ : hs_T) : Nat → Nat → Int32 := σ.2.1
def hs_G (σ : hs_T) : Nat → Nat → Option Nat := σ.2.2.1
def hs_R (σ : hs_T) : Nat → Nat → Int32 := σ.2.2.2.1
def hs_O (σ : hs_T) : Nat → Nat → Option Nat := σ.2.2.2.2
def hs_up {α : Type} (f : Nat → Nat → α) (k n : Nat) (v : α) : Nat → Nat → α := fun k' n' => if k' = k ∧ n' = n then v else f k' n'
def hs_wF (σ : hs_T) (k n : Nat) (v : Int32) : hs_T := (σ.1, hs_up σ.2.1 k n v, σ.2.2)
def hs_wG (σ : hs_T) (k n : Nat) (v : Option Nat) : hs_T := (σ.1, σ.2.1, hs_up σ.2.2.1 k n v, σ.2.2.2)
def hs_wR (σ : hs_T) (n i : Nat) (v : Int32) : hs_T := (σ.1, σ.2.1, σ.2.2.1, hs_up σ.2.2.2.1 n i v, σ.2.2.2.2)
def hs_wO (σ : hs_T) (n i : Nat) (v : Option Nat) : hs_T := (σ.1, σ.2.1, σ.2.2.1, σ.2.2.2.1, hs_up σ.2.2.2.2 n i v)
/-- a whole row anew -/
def hs_wRow (σ : hs_T) (n : Nat) (f : Nat → Int32) : hs_T := (σ.1, σ.2.1, σ.2.2.1, (fun n' => if n' = n then f else σ.2.2.2.1 n'), σ.2.2.2.2)
/-- kinds: 1 ArrayList, 2 HandIn, 3 Machine, 4 Mail, 5 Program, 6 Reader, 7 Service, 8 Tape, 9 ServiceGame, 10 ServiceGameModel, 11 rows of ints, 12 of booleans, 13 of references. Which slots are references: -/
def hs_sh : Nat → List Bool := fun k => match k with
  | 1 => [false, true, false]
  | 2 => [false, true, false]
  | 3 => [true, true, false, false, false, false]
  | 4 => [true, true, true, false]
  | 5 => [false, true, true]
  | 6 => [true, true, false, false]
  | 7 => [false, false, true, true, true, true, true, true, true, true, true, false, false, false]
  | 8 => [true, false]
  | 9 => [true, true, true, true, true, true, true, true, false, false]
  | 10 => [false, false, true, true, true, true, true, false, false, true, true, false, true, true, true, true, true, true, true, false, false, false, true, true, true, true, true, true, false, false, false, true, true, true, true, true, true, true, false, true, true, true, true]
  | _ => []
def hs_v (ad : Nat → Nat) (σ : hs_T) (n : Nat) (b : Bool) (k : Nat) : Value := if b then va_rf ((hs_G σ k n).map ad) else .int (hs_F σ k n)
def hs_fs (ad : Nat → Nat) (σ : hs_T) (kd n : Nat) : List Value := (hs_sh kd).mapIdx (fun k b => hs_v ad σ n b k)
abbrev hs_E : Type := ClassId × ClassId × ClassId
def hs_e (E : hs_E) (ad : Nat → Nat) (σ : hs_T) (n : Nat) : va_E :=
  if hs_K σ n = 11 then .inl (E.1, hs_L σ n, .inl (hs_R σ n)) else if hs_K σ n = 12 then .inl (E.2.1, hs_L σ n, .inl (hs_R σ n)) else if hs_K σ n = 13 then .inl (E.2.2, hs_L σ n, .inr (.inr (.inr (.inr (fun i => (hs_O σ n i).map ad))))) else .inr (hs_K σ n - 1, hs_fs ad σ (hs_K σ n) n)
def hs_ws (E : hs_E) (ad : Nat → Nat) (σ : hs_T) : va_W := (List.range (hs_N σ)).map (fun n => (ad n, hs_e E ad σ n))
def hs_ok (σ : hs_T) (kd n : Nat) : Prop := hs_K σ n = kd ∧ n < hs_N σ
/-- the name of ArrayList's own empty row -/
def hs_em : Nat := 1000000000
/-- what is referred to is there -/
def hs_wf (σ : hs_T) : Prop := (∀ k n m, hs_G σ k n = some m → m < hs_N σ ∨ m = hs_em) ∧ ∀ n i m, hs_O σ n i = some m → m < hs_N σ ∨ m = hs_em
def hs_H (D : va_G) (E : hs_E) (ad : Nat → Nat) (A : Nat → Prop) (σ : hs_T) (H : Heap) : Prop := va_P D vwCl (hs_ws E ad σ) H ∧ va_D A (hs_ws E ad σ) ∧ hs_wf σ
abbrev hs_ty (E : hs_E) : List (ClassId × FieldType) := [(E.1, .int), (E.2.1, .boolean), (E.2.2, .object "java/lang/Object")]
theorem hs_at {E : hs_E} {ad : Nat → Nat} {σ : hs_T} {n : Nat} (h : n < hs_N σ) : (hs_ws E ad σ)[n]? = some (ad n, hs_e E ad σ n) := by
  simp [hs_ws, h]
theorem hs_len {E : hs_E} {ad : Nat → Nat} {σ : hs_T} : (hs_ws E ad σ).length = hs_N σ := by
  simp [hs_ws]
theorem hs_e_o {E : hs_E} {ad : Nat → Nat} {σ : hs_T} {n kd : Nat} (h : hs_K σ n = kd) (hk : kd < 11) : hs_e E ad σ n = .inr (kd - 1, hs_fs ad σ kd n) := by
  unfold hs_e
  rw [h, if_neg (by omega), if_neg (by omega), if_neg (by omega)]
theorem hs_e_i {E : hs_E} {ad : Nat → Nat} {σ : hs_T} {n : Nat} (h : hs_K σ n = 11) : hs_e E ad σ n = .inl (E.1, hs_L σ n, .inl (hs_R σ n)) := by
  unfold hs_e
  rw [if_pos h]
theorem hs_e_z {E : hs_E} {ad : Nat → Nat} {σ : hs_T} {n : Nat} (h : hs_K σ n = 12) : hs_e E ad σ n = .inl (E.2.1, hs_L σ n, .inl (hs_R σ n)) := by
  unfold hs_e
  rw [if_neg (by omega), if_pos h]
theorem hs_e_q {E : hs_E} {ad : Nat → Nat} {σ : hs_T} {n : Nat} (h : hs_K σ n = 13) : hs_e E ad σ n = .inl (E.2.2, hs_L σ n, .inr (.inr (.inr (.inr (fun i => (hs_O σ n i).map ad))))) := by
  unfold hs_e
  rw [if_neg (by omega), if_neg (by omega), if_pos h]
/-- one cell anew -/
theorem hs_set {E : hs_E} {ad : Nat → Nat} {σ σ' : hs_T} {n : Nat} (hN : hs_N σ' = hs_N σ) (ho : ∀ j, j ≠ n → hs_e E ad σ' j = hs_e E ad σ j) : (hs_ws E ad σ).set n (ad n, hs_e E ad σ' n) = hs_ws E ad σ' := by
  apply List.ext_getElem?
  intro j
  by_cases hj : j = n
  · subst hj
    by_cases hl : j < hs_N σ
    · rw [List.getElem?_set_self (by rw [hs_len]; exact hl), hs_at (by rw [hN]; exact hl)]
    · rw [List.getElem?_eq_none (by rw [List.length_set, hs_len]; omega), List.getElem?_eq_none (by rw [hs_len, hN]; omega)]
  · rw [List.getElem?_set_ne (Ne.symm hj)]
    by_cases hl : j < hs_N σ
    · rw [hs_at hl, hs_at (by rw [hN]; exact hl), ho j hj]
    · rw [List.getElem?_eq_none (by rw [hs_len]; omega), List.getElem?_eq_none (by rw [hs_len, hN]; omega)]
theorem hs_up_ne {α : Type} {f : Nat → Nat → α} {k n : Nat} {v : α} {k' n' : Nat} (h : ¬ (k' = k ∧ n' = n)) : hs_up f k n v k' n' = f k' n' := if_neg h
theorem hs_up_eq {α : Type} {f : Nat → Nat → α} {k n : Nat} {v : α} : hs_up f k n v k n = v := if_pos ⟨rfl, rfl⟩
theorem hs_up_row {f : Nat → Nat → Int32} {n i : Nat} {v : Int32} : hs_up f n i v n = upd (f n) i v := by
  funext j
  by_cases h : j = i
  · subst h
    rw [hs_up_eq]
    simp [upd]
  · rw [hs_up_ne (fun z => h z.2)]
    simp [upd, h]
theorem hs_up_rowq {f : Nat → Nat → Option Nat} {n i : Nat} {v : Option Nat} {ad : Nat → Nat} : (fun j => (hs_up f n i v n j).map ad) = va_up (fun j => (f n j).map ad) i (v.map ad) := by
  funext j
  by_cases h : j = i
  · subst h
    rw [hs_up_eq]
    simp [va_up]
  · rw [hs_up_ne (fun z => h z.2)]
    simp [va_up, h]
theorem hs_up_row_ne {α : Type} {f : Nat → Nat → α} {n i : Nat} {v : α} {m : Nat} (h : m ≠ n) : hs_up f n i v m = f m := by
  funext j
  exact hs_up_ne (fun z => h z.1)
theorem hs_e_congr {E : hs_E} {ad : Nat → Nat} {σ σ' : hs_T} {n : Nat} (hK : hs_K σ' n = hs_K σ n) (hL : hs_L σ' n = hs_L σ n) (hF : ∀ k, hs_F σ' k n = hs_F σ k n) (hG : ∀ k, hs_G σ' k n = hs_G σ k n) (hR : hs_R σ' n = hs_R σ n) (hO : hs_O σ' n = hs_O σ n) : hs_e E ad σ' n = hs_e E ad σ n := by
  unfold hs_e hs_fs hs_v
  simp only [hK, hL, hF, hG, hR, hO]
theorem hs_ws_F {E : hs_E} {ad : Nat → Nat} {σ : hs_T} {kd n k : Nat} {v : Int32} (h : hs_K σ n = kd) (hk : kd < 11) (hs : (hs_sh kd)[k]? = some false) : (hs_ws E ad σ).set n (ad n, .inr (kd - 1, (hs_fs ad σ kd n).set k (.int v))) = hs_ws E ad (hs_wF σ k n v) := by
  rw [← hs_set (σ := σ) (σ' := hs_wF σ k n v) rfl (fun j hj => hs_e_congr rfl rfl (fun k' => hs_up_ne (fun z => hj z.2)) (fun _ => rfl) rfl rfl)]
  rw [hs_e_o (σ := hs_wF σ k n v) (kd := kd) h hk]
  congr 4
  apply List.ext_getElem?
  intro j
  unfold hs_fs
  by_cases hj : j = k
  · subst hj
    have hl := (List.getElem?_eq_some_iff.mp hs).1
    rw [List.getElem?_set_self (by simpa using hl)]
    simp [List.getElem?_mapIdx, hs, hs_v, hs_wF, hs_F, hs_up]
  · rw [List.getElem?_set_ne (Ne.symm hj)]
    simp [List.getElem?_mapIdx, hs_v, hs_wF, hs_F, hs_G, hs_up, hj]
theorem hs_ws_G {E : hs_E} {ad : Nat → Nat} {σ : hs_T} {kd n k : Nat} {v : Option Nat} (h : hs_K σ n = kd) (hk : kd < 11) (hs : (hs_sh kd)[k]? = some true) : (hs_ws E ad σ).set n (ad n, .inr (kd - 1, (hs_fs ad σ kd n).set k (va_rf (v.map ad)))) = hs_ws E ad (hs_wG σ k n v) := by
  rw [← hs_set (σ := σ) (σ' := hs_wG σ k n v) rfl (fun j hj => hs_e_congr rfl rfl (fun _ => rfl) (fun k' => hs_up_ne (fun z => hj z.2)) rfl rfl)]
  rw [hs_e_o (σ := hs_wG σ k n v) (kd := kd) h hk]
  congr 4
  apply List.ext_getElem?
  intro j
  unfold hs_fs
  by_cases hj : j = k
  · subst hj
    have hl := (List.getElem?_eq_some_iff.mp hs).1
    rw [List.getElem?_set_self (by simpa using hl)]
    simp [List.getElem?_mapIdx, hs, hs_v, hs_wG, hs_G, hs_up]
  · rw [List.getElem?_set_ne (Ne.symm hj)]
    simp [List.getElem?_mapIdx, hs_v, hs_wG, hs_F, hs_G, hs_up, hj]
theorem hs_ws_R {E : hs_E} {ad : Nat → Nat} {σ : hs_T} {n i : Nat} {v : Int32} (h : hs_K σ n = 11) : (hs_ws E ad σ).set n (ad n, .inl (E.1, hs_L σ n, .inl (upd (hs_R σ n) i v))) = hs_ws E ad (hs_wR σ n i v) := by
  rw [← hs_set (σ := σ) (σ' := hs_wR σ n i v) rfl (fun j hj => hs_e_congr rfl rfl (fun _ => rfl) (fun _ => rfl) (hs_up_row_ne hj) rfl)]
  rw [hs_e_i (σ := hs_wR σ n i v) h, ← hs_up_row]
  rfl
theorem hs_ws_Z {E : hs_E} {ad : Nat → Nat} {σ : hs_T} {n i : Nat} {v : Int32} (h : hs_K σ n = 12) : (hs_ws E ad σ).set n (ad n, .inl (E.2.1, hs_L σ n, .inl (upd (hs_R σ n) i v))) = hs_ws E ad (hs_wR σ n i v) := by
  rw [← hs_set (σ := σ) (σ' := hs_wR σ n i v) rfl (fun j hj => hs_e_congr rfl rfl (fun _ => rfl) (fun _ => rfl) (hs_up_row_ne hj) rfl)]
  rw [hs_e_z (σ := hs_wR σ n i v) h, ← hs_up_row]
  rfl
theorem hs_ws_Row {E : hs_E} {ad : Nat → Nat} {σ : hs_T} {n : Nat} {f : Nat → Int32} (h : hs_K σ n = 11) : (hs_ws E ad σ).set n (ad n, .inl (E.1, hs_L σ n, .inl f)) = hs_ws E ad (hs_wRow σ n f) := by
  rw [← hs_set (σ := σ) (σ' := hs_wRow σ n f) rfl (fun j hj => hs_e_congr rfl rfl (fun _ => rfl) (fun _ => rfl) (if_neg hj) rfl)]
  rw [hs_e_i (σ := hs_wRow σ n f) h]
  rw [show hs_R (hs_wRow σ n f) n = f from if_pos rfl]
  rfl
theorem hs_ws_O {E : hs_E} {ad : Nat → Nat} {σ : hs_T} {n i : Nat} {v : Option Nat} (h : hs_K σ n = 13) : (hs_ws E ad σ).set n (ad n, .inl (E.2.2, hs_L σ n, .inr (.inr (.inr (.inr (va_up (fun j => (hs_O σ n j).map ad) i (v.map ad))))))) = hs_ws E ad (hs_wO σ n i v) := by
  rw [← hs_set (σ := σ) (σ' := hs_wO σ n i v) rfl (fun j hj => hs_e_congr rfl rfl (fun _ => rfl) (fun _ => rfl) rfl (hs_up_row_ne hj))]
  rw [hs_e_q (σ := hs_wO σ n i v) h, ← hs_up_rowq]
  rfl
theorem hs_fs_get {ad : Nat → Nat} {σ : hs_T} {kd n k : Nat} {b : Bool} (hs : (hs_sh kd)[k]? = some b) : (hs_fs ad σ kd n)[k]? = some (hs_v ad σ n b k) := by
  simp [hs_fs, List.getElem?_mapIdx, hs]
theorem hs_wf_G {σ : hs_T} {k n : Nat} {r : Option Nat} (h : hs_wf σ) (hr : ∀ m, r = some m → m < hs_N σ ∨ m = hs_em) : hs_wf (hs_wG σ k n r) := by
  refine ⟨fun k' n' m hm => ?_, h.2⟩
  by_cases hc : k' = k ∧ n' = n
  · have e : hs_G (hs_wG σ k n r) k' n' = r := if_pos hc
    rw [e] at hm
    exact hr m hm
  · have e : hs_G (hs_wG σ k n r) k' n' = hs_G σ k' n' := if_neg hc
    rw [e] at hm
    exact h.1 k' n' m hm
theorem hs_wf_O {σ : hs_T} {n i : Nat} {r : Option Nat} (h : hs_wf σ) (hr : ∀ m, r = some m → m < hs_N σ ∨ m = hs_em) : hs_wf (hs_wO σ n i r) := by
  refine ⟨h.1, fun n' i' m hm => ?_⟩
  by_cases hc : n' = n ∧ i' = i
  · have e : hs_O (hs_wO σ n i r) n' i' = r := if_pos hc
    rw [e] at hm
    exact hr m hm
  · have e : hs_O (hs_wO σ n i r) n' i' = hs_O σ n' i' := if_neg hc
    rw [e] at hm
    exact h.2 n' i' m hm
end
section
/-! The machine's rows over the abstract heap -/
/-- what the tables say of nest mates and casts -/
def hs_nw : List Cond := [.fieldLinkNest "ServiceGame$Reader" 35 "ServiceGame$Tape" "size" "I" "ServiceGame", .fieldLinkNest "ServiceGame" 71 "ServiceGame$Tape" "size" "I" "ServiceGame", .fieldLinkNest "ServiceGame" 229 "ServiceGame$Machine" "fuelUsed" "I" "ServiceGame", .fieldLinkNest "ServiceGame" 124 "ServiceGame$Mail" "size" "I" "ServiceGame", .fieldLinkNest "ServiceGame$Mail" 25 "ServiceGame$Service" "team" "I" "ServiceGame", .fieldLinkNest "ServiceGame" 222 "ServiceGame$Service" "team" "I" "ServiceGame", .fieldLinkNest "ServiceGame$Mail" 30 "ServiceGame$Service" "number" "I" "ServiceGame", .fieldLinkNest "ServiceGame" 232 "ServiceGame$Service" "number" "I" "ServiceGame", .fieldLinkNest "ServiceGame$Machine" 24 "ServiceGame$Service" "cells" "[I" "ServiceGame", .fieldLinkNest "ServiceGame" 97 "ServiceGame$Service" "cells" "[I" "ServiceGame", .fieldLinkNest "ServiceGame" 102 "ServiceGame$Service" "upAhead" "[I" "ServiceGame", .fieldLinkNest "ServiceGame" 163 "ServiceGame$Service" "checkKinds" "[I" "ServiceGame", .fieldLinkNest "ServiceGame" 166 "ServiceGame$Service" "checkNumbers" "[I" "ServiceGame", .fieldLinkNest "ServiceGame" 169 "ServiceGame$Service" "checkAnswers" "[I" "ServiceGame", .fieldLinkNest "ServiceGame" 172 "ServiceGame$Service" "checkRights" "[I" "ServiceGame", .fieldLinkNest "ServiceGame$Machine" 18 "ServiceGame$Service" "program" "LServiceGame$Program;" "ServiceGame", .fieldLinkNest "ServiceGame" 100 "ServiceGame$Service" "program" "LServiceGame$Program;" "ServiceGame", .fieldLinkNest "ServiceGame" 90 "ServiceGame$Service" "patch" "LServiceGame$Program;" "ServiceGame", .fieldLinkNest "ServiceGame$Machine" 47 "ServiceGame$Service" "broken" "I" "ServiceGame", .fieldLinkNest "ServiceGame" 105 "ServiceGame$Service" "broken" "I" "ServiceGame", .fieldLinkNest "ServiceGame$Machine" 50 "ServiceGame$Service" "ranDry" "I" "ServiceGame", .fieldLinkNest "ServiceGame" 108 "ServiceGame$Service" "ranDry" "I" "ServiceGame", .fieldLinkNest "ServiceGame$Mail" 42 "ServiceGame$Service" "likeChecks" "I" "ServiceGame", .fieldLinkNest "ServiceGame" 153 "ServiceGame$Service" "likeChecks" "I" "ServiceGame", .fieldLinkNest "ServiceGame$Machine" 53 "ServiceGame$Program" "size" "I" "ServiceGame", .fieldLinkNest "ServiceGame" 94 "ServiceGame$Program" "size" "I" "ServiceGame", .fieldLinkNest "ServiceGame$Machine" 58 "ServiceGame$Program" "signs" "[I" "ServiceGame", .fieldLinkNest "ServiceGame$Machine" 61 "ServiceGame$Program" "numbers" "[I" "ServiceGame", .fieldLinkNest "ServiceGame" 261 "ServiceGame$HandIn" "by" "I" "ServiceGame", .fieldLinkNest "ServiceGame" 264 "ServiceGame$HandIn" "service" "LServiceGame$Service;" "ServiceGame", .fieldLinkNest "ServiceGame" 268 "ServiceGame$HandIn" "put" "I" "ServiceGame", .methodLinkNest "ServiceGame" 25 ⟨"ServiceGame$Tape", "<init>", "()V"⟩ "ServiceGame", .methodLinkNest "ServiceGame" 32 ⟨"ServiceGame$Reader", "<init>", "()V"⟩ "ServiceGame", .methodLinkNest "ServiceGame" 39 ⟨"ServiceGame$Machine", "<init>", "()V"⟩ "ServiceGame", .methodLinkNest "ServiceGame" 46 ⟨"ServiceGame$Mail", "<init>", "()V"⟩ "ServiceGame", .methodLinkNest "ServiceGame" 64 ⟨"ServiceGame$Service", "<init>", "(II)V"⟩ "ServiceGame", .methodLinkNest "ServiceGame" 74 ⟨"ServiceGame$Tape", "append", "(JI)V"⟩ "ServiceGame", .methodLinkNest "ServiceGame" 82 ⟨"ServiceGame$Reader", "read", "(LServiceGame$Tape;)I"⟩ "ServiceGame", .methodLinkNest "ServiceGame$Reader" 29 ⟨"ServiceGame$Tape", "at", "(I)I"⟩ "ServiceGame", .methodLinkNest "ServiceGame" 86 ⟨"ServiceGame$Reader", "program", "()LServiceGame$Program;"⟩ "ServiceGame", .methodLinkNest "ServiceGame$Reader" 53 ⟨"ServiceGame$Program", "<init>", "([I[II)V"⟩ "ServiceGame", .methodLinkNest "ServiceGame" 125 ⟨"ServiceGame$Mail", "keep", "(LServiceGame$Service;II)V"⟩ "ServiceGame", .methodLinkNest "ServiceGame" 132 ⟨"ServiceGame$Machine", "deliver", "(LServiceGame$Service;III)I"⟩ "ServiceGame", .methodLinkNest "ServiceGame" 146 ⟨"ServiceGame$Service", "takePatch", "()V"⟩ "ServiceGame", .methodLinkNest "ServiceGame" 245 ⟨"ServiceGame$Service", "keepCheck", "(IIIIZ)V"⟩ "ServiceGame", .methodLinkNest "ServiceGame" 156 ⟨"ServiceGame$Mail", "countLikeChecks", "(Ljava/util/ArrayList;)V"⟩ "ServiceGame", .methodLinkNest "ServiceGame$Mail" 45 ⟨"ServiceGame$Service", "isLikeCheck", "(II)Z"⟩ "ServiceGame", .methodLinkNest "ServiceGame" 254 ⟨"ServiceGame$Service", "isTaken", "(III)Z"⟩ "ServiceGame", .methodLinkNest "ServiceGame" 187 ⟨"ServiceGame$Service", "take", "(III)V"⟩ "ServiceGame", .methodLinkNest "ServiceGame" 193 ⟨"ServiceGame$HandIn", "<init>", "(ILServiceGame$Service;I)V"⟩ "ServiceGame", .methodLinkNest "ServiceGame" 271 ⟨"ServiceGame$Service", "takers", "(II)I"⟩ "ServiceGame", .castable "ServiceGame" "java/lang/Object", .castable "java/util/ArrayList" "java/lang/Object", .castable "ServiceGame$Tape" "java/lang/Object", .castable "ServiceGame$Reader" "java/lang/Object", .castable "ServiceGame$Machine" "java/lang/Object", .castable "ServiceGame$Mail" "java/lang/Object", .castable "ServiceGameModel" "java/lang/Object", .castable "ServiceGame$Service" "java/lang/Object", .castable "ServiceGame$Program" "java/lang/Object", .castable "ServiceGame$HandIn" "java/lang/Object", .castable "[I" "java/lang/Object", .castable "[Ljava/lang/Object;" "java/lang/Object", .castable "[Z" "java/lang/Object"]
def hs_isN (w : Cond) : Bool := match w with
  | .fieldLinkNest .. => true
  | .methodLinkNest .. => true
  | .castable .. => true
  | _ => false
theorem hs_nw_isN : hs_nw.all hs_isN = true := by decide +kernel
theorem hs_nw_warm {w : Cond} {s U : State} (h : hs_isN w = true) (hW : s.WarmedH U.vm) (hZ : va_Nw w s) : va_Nw w U := by
  cases w <;> first | (simp [hs_isN] at h; done) | exact va_Nw.warmF hW hZ | exact va_Nw.warmM hW hZ | exact va_Nw.warmC hW hZ
theorem hs_nw_same {w : Cond} {u U : State} (h : hs_isN w = true) (hv : u.vm = U.vm) (hZ : va_Nw w u) : va_Nw w U := by
  cases w <;> first | (simp [hs_isN] at h; done) | exact va_Nw.same rfl hv hZ
def hs_t1 : Nat → Int32 := fun j => ([1, 0, 1, 0, 0, 0, 0] : List Int32).getD j 0
def hs_t2 : Nat → Int32 := fun j => ([500, 999, 9, 100, 9999, 9999, 9999] : List Int32).getD j 0
def hs_t3 : Nat → Int32 := fun j => ([0, 1, 2, 0, 2, 1, 1, 0, 2, 1, 2, 0, 2, 0, 1, 2, 1, 0] : List Int32).getD j 0
/-- tables: the classes' numbers, the rows' classes, the statics' addresses, the least address of ours, the mirror of Object[] -/
abbrev hs_X : Type := va_G × hs_E × (Nat × Nat × Nat × Nat) × Nat × Nat
def hs_n0 (X : hs_X) : Nat := X.2.2.2.1
def hs_A0 (X : hs_X) : Nat → Prop := fun q => hs_n0 X ≤ q
def hs_Z1 (t n0 N : Nat) (f : Nat → Int32) (nm : String) (U : State) (H : Heap) : Prop := va_Z "ServiceGame" nm "[I" (.ref t) (fun q => n0 ≤ q) U H ∧ va_T .int t N (fun j => .int (f j)) (fun q => n0 ≤ q) U H
def hs_Z (X : hs_X) (U : State) (H : Heap) : Prop :=
  hs_Z1 X.2.2.1.1 (hs_n0 X) 7 hs_t1 "LEAST" U H ∧ hs_Z1 X.2.2.1.2.1 (hs_n0 X) 7 hs_t2 "MOST" U H ∧ hs_Z1 X.2.2.1.2.2.1 (hs_n0 X) 18 hs_t3 "ORDERS" U H ∧
  va_Z "java/util/ArrayList" "DEFAULTCAPACITY_EMPTY_ELEMENTDATA" "[Ljava/lang/Object;" (.ref X.2.2.1.2.2.2) (hs_A0 X) U H ∧ va_T (.object "java/lang/Object") X.2.2.1.2.2.2 0 (fun _ => .null) (hs_A0 X) U H
theorem hs_Z1.moved {t n0 N : Nat} {f : Nat → Int32} {nm : String} {u U : State} {H : Heap} (hvm : u.vm.Alike U.vm) (h : hs_Z1 t n0 N f nm u H) : hs_Z1 t n0 N f nm U H := ⟨h.1.moved hvm, h.2.moved hvm⟩
theorem hs_Z1.kept {t n0 N : Nat} {f : Nat → Int32} {nm : String} {U : State} {H H1 : Heap} (h : hs_Z1 t n0 N f nm U H) (hq : ∀ a : Nat, a < H.size → ¬ n0 ≤ a → H1[a]? = H[a]?) : hs_Z1 t n0 N f nm U H1 := ⟨h.1.kept hq, h.2.kept hq⟩
theorem hs_Z.moved {X : hs_X} {u U : State} {H : Heap} (hvm : u.vm.Alike U.vm) (h : hs_Z X u H) : hs_Z X U H := ⟨h.1.moved hvm, h.2.1.moved hvm, h.2.2.1.moved hvm, h.2.2.2.1.moved hvm, h.2.2.2.2.moved hvm⟩
theorem hs_Z.kept {X : hs_X} {U : State} {H H1 : Heap} (h : hs_Z X U H) (hq : ∀ a : Nat, a < H.size → ¬ hs_A0 X a → H1[a]? = H[a]?) : hs_Z X U H1 := ⟨h.1.kept hq, h.2.1.kept hq, h.2.2.1.kept hq, h.2.2.2.1.kept hq, h.2.2.2.2.kept hq⟩
def hs_V (X : hs_X) (U : State) : Prop := va_K X.1 vwCl (hs_ty X.2.1) U ∧ (∀ w ∈ hs_nw, va_Nw w U) ∧ va_AO "java/lang/Object" U ∧ va_Mi "[Ljava/lang/Object;" X.2.2.2.2 U ∧ va_Dc U ∧ hs_Z X U U.heap
theorem hs_V.call {X : hs_X} {s U : State} {H : Heap} {A : Nat → Prop} {locs : List Loc} (h : hs_V X s) (hS : va_S A s.heap H locs) (hA0 : ∀ q, A q → hs_A0 X q) (hU : U.heap = H) (hW : s.WarmedH U.vm) : hs_V X U := by
  obtain ⟨h1, h2, h3, h4, h5, h6⟩ := h
  refine ⟨h1.moved hW.alike, fun w hw => hs_nw_warm (List.all_eq_true.mp hs_nw_isN w hw) hW (h2 w hw), h3.moved hW.alike, h4.moved hW.alike, h5.moved hW.alike, ?_⟩
  rw [hU]
  exact (h6.moved hW.alike).kept (fun a ha hn => hS.2.1 a ha (fun z => hn (hA0 a z)))
theorem hs_V.blind {X : hs_X} {U : State} {g : JFrame} {mk : MethodId} {a : Array Value} (h : hs_V X U) : hs_V X (U.calling g mk a) := by
  obtain ⟨h1, h2, h3, h4, h5, h6⟩ := h
  have hal : U.vm.Alike (U.calling g mk a).vm := Vm.Alike.refl U.vm
  exact ⟨h1.moved hal, fun w hw => hs_nw_same (u := U) (U := U.calling g mk a) (List.all_eq_true.mp hs_nw_isN w hw) rfl (h2 w hw), h3.moved hal, h4.moved hal, h5.moved hal, h6.moved hal⟩
theorem hs_H.weaken {D : va_G} {E : hs_E} {ad : Nat → Nat} {A B : Nat → Prop} {σ : hs_T} {H : Heap} (h : hs_H D E ad A σ H) (hAB : ∀ q, A q → B q) : hs_H D E ad B σ H := ⟨h.1, h.2.1.weaken (fun _ _ _ z => hAB _ z), h.2.2⟩
theorem hs_H.kept {D : va_G} {E : hs_E} {ad : Nat → Nat} {A : Nat → Prop} {σ : hs_T} {H H1 : Heap} (h : hs_H D E ad A σ H) (hq : ∀ q : Nat, A q → H1[q]? = H[q]?) : hs_H D E ad A σ H1 := ⟨h.1.kept (fun k q hk => hq _ (h.2.1.2 k q hk)), h.2⟩
/-- a method's start -/
def hs_Pc (X : hs_X) (ad : Nat → Nat) (σ : hs_T) (sz : Nat) (av : List Value) : Array Value → State → Prop := va_Pc av (fun U => U.heap.size = sz ∧ hs_V X U ∧ ad hs_em = X.2.2.1.2.2.2 ∧ hs_H X.1 X.2.1 ad (hs_A0 X) σ U.heap ∧ hs_n0 X ≤ sz)
abbrev hs_Aw (X : hs_X) (ad : Nat → Nat) (σ : hs_T) (sz : Nat) : Nat → Prop := va_A (hs_ws X.2.1 ad σ) sz
/-- a method's end; it makes no cell -/
def hs_Q0 {ρ : Type} (tv : (Nat → Nat) → ρ → Option Value) (X : hs_X) (ad : Nat → Nat) (A : Nat → Prop) (r : ρ) (σ' : hs_T) : Array Value → State → Outcome → State → Prop := fun _ st o t => (o = .returned (tv ad r) ∧ hs_H X.1 X.2.1 ad A σ' t.heap) ∧ va_F A st t
/-- a method's end; it may make cells: their names are new -/
def hs_Q1 {ρ : Type} (tv : (Nat → Nat) → ρ → Option Value) (X : hs_X) (ad : Nat → Nat) (N : Nat) (A : Nat → Prop) (r : ρ) (σ' : hs_T) : Array Value → State → Outcome → State → Prop := fun _ st o t => (∃ ad', (∀ n, n < N ∨ n = hs_em → ad' n = ad n) ∧ o = .returned (tv ad' r) ∧ hs_H X.1 X.2.1 ad' A σ' t.heap) ∧ va_F A st t
def hs_tvi : (Nat → Nat) → Int32 → Option Value := fun _ r => some (.int r)
def hs_tvv : (Nat → Nat) → Unit → Option Value := fun _ _ => none
def hs_tvr : (Nat → Nat) → Option Nat → Option Value := fun ad r => some (va_rf (r.map ad))
/-- a contract: where the method's picture f gives an answer and a state, the method gives them -/
def hs_C0 {ρ : Type} (tv : (Nat → Nat) → ρ → Option Value) (l : Launch) (y : MethodName) (ws : List Cond) (rm : Room) (av : (Nat → Nat) → List Value) (σ : hs_T) (f : Option (ρ × hs_T)) : Prop :=
  ∀ (X : hs_X) (ad : Nat → Nat) (sz : Nat) (r : ρ) (σ' : hs_T), f = some (r, σ') → Met l y ws rm (hs_Pc X ad σ sz (av ad)) (hs_Q0 tv X ad (hs_Aw X ad σ sz) r σ') 0 0 (hs_Aw X ad σ sz)
def hs_C1 {ρ : Type} (tv : (Nat → Nat) → ρ → Option Value) (l : Launch) (y : MethodName) (ws : List Cond) (rm : Room) (mc ms : Nat) (av : (Nat → Nat) → List Value) (σ : hs_T) (f : Option (ρ × hs_T)) : Prop :=
  ∀ (X : hs_X) (ad : Nat → Nat) (sz : Nat) (r : ρ) (σ' : hs_T), f = some (r, σ') → Met l y ws rm (hs_Pc X ad σ sz (av ad)) (hs_Q1 tv X ad (hs_N σ) (hs_Aw X ad σ sz) r σ') mc ms (hs_Aw X ad σ sz)
/-- what stays while a method runs -/
def hs_Cx (p : Program) (s : State) (m : MethodId) (args : Array Value) (meth : Method) (c : Code) (X : hs_X) (A : Nat → Prop) (y : MethodName) (cc : ByteArray) (nL : Nat) (ret : Option FieldType) (ws : List Cond) : Prop :=
  p.tables.exec = Jvm.exec ∧ c.code = cc ∧ c.maxLocals = nL ∧ meth.sig.returnType = ret ∧ (∀ w ∈ ws, w.before args s = true) ∧ s.vm.findClass y.cls = some m.cls ∧ meth.locks = false ∧ meth.name = y.name ∧ hs_V X s ∧ (∀ q, A q → hs_A0 X q) ∧ (∀ q, s.heap.size ≤ q → A q)
theorem hs_enter {l : Launch} {y : MethodName} {ws ws' : List Cond} {rm : Room} {cc : ByteArray} {maxL : Nat} {ret : Option FieldType} {Qc : Array Value → State → Outcome → State → Prop} {mc ms : Nat} {X : hs_X} {ad : Nat → Nat} {σ : hs_T} {sz : Nat} {av : List Value} (hy : plainName y.cls = true) (hw : ws = Cond.code y cc maxL ret :: ws') (hav : (lg_sl av).length ≤ maxL)
    (body : ∀ (p : Program) (e : Env) (s : State) (m : MethodId) (below : List Frame) (meth : Method) (c : Code) (ls : Array Slot), hs_Cx p s m av.toArray meth c X (hs_Aw X ad σ sz) y cc maxL ret ws → lv_has ls maxL (lv_args 0 av) → ad hs_em = X.2.2.1.2.2.2 → hs_H X.1 X.2.1 ad (hs_Aw X ad σ sz) σ s.heap → va_S (hs_Aw X ad σ sz) s.heap s.heap [] → s.heap.size = sz →
      W p l e rm s m av.toArray below meth c s.heap [] 0 0 (MQ below Qc av.toArray s mc ms (hs_Aw X ad σ sz)) (F0 m 0 ls [])) : Met l y ws rm (hs_Pc X ad σ sz av) Qc mc ms (hs_Aw X ad σ sz) := by
  refine Met.ofW (cc := cc) (maxL := maxL) (ret := ret) hy hw ?_
  intro p e s m args below meth c s₁ B hml hv
  obtain ⟨rfl, hsz, hV, hem, hB, hn0⟩ := hv
  have hnm : meth.name = y.name := (name_of_methodNamed B.named B.method).1
  have hown : s.vm.findClass y.cls = some m.cls := findClass_of_methodNamed B.named
  rw [lg_entry_eq]
  refine body p e s m below meth c _ ⟨B.exec, B.bytes, hml, B.returns, atoms_spec (ws := ws) B.pre, hown, B.notSynchronized, hnm, hV, ?_, ?_⟩ (lv_entry av hav) hem ⟨hB.1, hB.2.1.self, hB.2.2⟩ va_S.rf hsz
  · intro q hq
    rcases hq with ⟨k, en, hk⟩ | hq
    · exact hB.2.1.2 k _ hk
    · exact Nat.le_trans hn0 hq
  · intro q hq
    exact Or.inr (by rw [← hsz]; exact hq)
section HsRows
variable {p : Program} {l : Launch} {e : Env} {R : Room} {s : State} {m : MethodId} {args : Array Value} {below : List Frame} {meth : Method} {c : Code} {H H0 : Heap} {locs : List Loc} {cells slots : Nat} {Q : State → Prop} {cc : ByteArray} {pc : Nat} {ls : Array Slot} {rest : List Value} {D : va_G} {E : hs_E} {ad : Nat → Nat} {A : Nat → Prop} {σ : hs_T} {X : hs_X}
theorem hs_getI (hx : p.tables.exec = Jvm.exec) (hb : c.code = cc) {own ref C : String} {T : u_T} {N index : Nat} {Ts : List Cond} (hts : ∀ w ∈ Ts, w.before args s = true) (hin : ∀ w ∈ u_ws C T N, w ∈ Ts) (hown : s.vm.findClass own = some m.cls) (hK : va_K D vwCl (hs_ty E) s) (hB : hs_H D E ad A σ H) {kd n : Nat} (hok : hs_ok σ kd n) (hkd : kd < 11) (hc : vwCl[kd - 1]? = some (C, T, N)) (k : Nat) (hk : k < N) (hsh : (hs_sh kd)[k]? = some false) (hlink : (Cond.fieldLink own index ref (T k).2.1 (T k).2.2.1).before args s = true) (hsame : ∀ x, s.fieldFound? (T k).1 (T k).2.1 (T k).2.2.1 = some x → s.fieldFound? ref (T k).2.1 (T k).2.2.1 = some x) (hdg : decode cc pc = .ok (.getfield index, 3))
    (kk : W p l e R s m args below meth c H locs cells slots Q (F0 m (pc + 3) ls (.int (hs_F σ k n) :: rest))) : W p l e R s m args below meth c H locs cells slots Q (F0 m pc ls (.ref (ad n) :: rest)) :=
  va_get hx hb hts hin hown hK hB.1 n ((hs_at hok.2).trans (by rw [hs_e_o hok.1 hkd])) hc k hk hlink hsame (hs_fs_get hsh) hdg kk
theorem hs_getR (hx : p.tables.exec = Jvm.exec) (hb : c.code = cc) {own ref C : String} {T : u_T} {N index : Nat} {Ts : List Cond} (hts : ∀ w ∈ Ts, w.before args s = true) (hin : ∀ w ∈ u_ws C T N, w ∈ Ts) (hown : s.vm.findClass own = some m.cls) (hK : va_K D vwCl (hs_ty E) s) (hB : hs_H D E ad A σ H) {kd n : Nat} (hok : hs_ok σ kd n) (hkd : kd < 11) (hc : vwCl[kd - 1]? = some (C, T, N)) (k : Nat) (hk : k < N) (hsh : (hs_sh kd)[k]? = some true) (hlink : (Cond.fieldLink own index ref (T k).2.1 (T k).2.2.1).before args s = true) (hsame : ∀ x, s.fieldFound? (T k).1 (T k).2.1 (T k).2.2.1 = some x → s.fieldFound? ref (T k).2.1 (T k).2.2.1 = some x) {r : Option Nat} (hr : hs_G σ k n = r) (hdg : decode cc pc = .ok (.getfield index, 3))
    (kk : W p l e R s m args below meth c H locs cells slots Q (F0 m (pc + 3) ls (va_rf (r.map ad) :: rest))) : W p l e R s m args below meth c H locs cells slots Q (F0 m pc ls (.ref (ad n) :: rest)) := by
  subst hr
  exact va_get hx hb hts hin hown hK hB.1 n ((hs_at hok.2).trans (by rw [hs_e_o hok.1 hkd])) hc k hk hlink hsame (hs_fs_get hsh) hdg kk
theorem hs_getIN (hx : p.tables.exec = Jvm.exec) (hb : c.code = cc) {own ref C host : String} {T : u_T} {N index : Nat} {Ts : List Cond} (hts : ∀ w ∈ Ts, w.before args s = true) (hin : ∀ w ∈ u_ws C T N, w ∈ Ts) (hown : s.vm.findClass own = some m.cls) (hK : va_K D vwCl (hs_ty E) s) (hB : hs_H D E ad A σ H) {kd n : Nat} (hok : hs_ok σ kd n) (hkd : kd < 11) (hc : vwCl[kd - 1]? = some (C, T, N)) (k : Nat) (hk : k < N) (hsh : (hs_sh kd)[k]? = some false) (hlink : va_Nw (.fieldLinkNest own index ref (T k).2.1 (T k).2.2.1 host) s) (hsame : ∀ x, s.fieldFound? (T k).1 (T k).2.1 (T k).2.2.1 = some x → s.fieldFound? ref (T k).2.1 (T k).2.2.1 = some x) (hdg : decode cc pc = .ok (.getfield index, 3))
    (kk : W p l e R s m args below meth c H locs cells slots Q (F0 m (pc + 3) ls (.int (hs_F σ k n) :: rest))) : W p l e R s m args below meth c H locs cells slots Q (F0 m pc ls (.ref (ad n) :: rest)) :=
  va_getN hx hb hts hin hown hK hB.1 n ((hs_at hok.2).trans (by rw [hs_e_o hok.1 hkd])) hc k hk (hlink.use rfl) hsame (hs_fs_get hsh) hdg kk
theorem hs_getRN (hx : p.tables.exec = Jvm.exec) (hb : c.code = cc) {own ref C host : String} {T : u_T} {N index : Nat} {Ts : List Cond} (hts : ∀ w ∈ Ts, w.before args s = true) (hin : ∀ w ∈ u_ws C T N, w ∈ Ts) (hown : s.vm.findClass own = some m.cls) (hK : va_K D vwCl (hs_ty E) s) (hB : hs_H D E ad A σ H) {kd n : Nat} (hok : hs_ok σ kd n) (hkd : kd < 11) (hc : vwCl[kd - 1]? = some (C, T, N)) (k : Nat) (hk : k < N) (hsh : (hs_sh kd)[k]? = some true) (hlink : va_Nw (.fieldLinkNest own index ref (T k).2.1 (T k).2.2.1 host) s) (hsame : ∀ x, s.fieldFound? (T k).1 (T k).2.1 (T k).2.2.1 = some x → s.fieldFound? ref (T k).2.1 (T k).2.2.1 = some x) {r : Option Nat} (hr : hs_G σ k n = r) (hdg : decode cc pc = .ok (.getfield index, 3))
    (kk : W p l e R s m args below meth c H locs cells slots Q (F0 m (pc + 3) ls (va_rf (r.map ad) :: rest))) : W p l e R s m args below meth c H locs cells slots Q (F0 m pc ls (.ref (ad n) :: rest)) := by
  subst hr
  exact va_getN hx hb hts hin hown hK hB.1 n ((hs_at hok.2).trans (by rw [hs_e_o hok.1 hkd])) hc k hk (hlink.use rfl) hsame (hs_fs_get hsh) hdg kk
theorem hs_fs_len {kd n k : Nat} {b : Bool} (h : (hs_sh kd)[k]? = some b) : k < (hs_fs ad σ kd n).length := by
  have hl := (List.getElem?_eq_some_iff.mp h).1
  simpa [hs_fs] using hl
theorem hs_putI (hx : p.tables.exec = Jvm.exec) (hb : c.code = cc) {own ref C : String} {T : u_T} {N index : Nat} {Ts : List Cond} (hts : ∀ w ∈ Ts, w.before args s = true) (hin : ∀ w ∈ u_ws C T N, w ∈ Ts) {ty0 : Nat → FieldType} (hty : ∀ k, k < N → parseFieldDescriptor (T k).2.2.1 = some (ty0 k)) (hnm : ∀ a, a < N → ∀ b, b < N → a ≠ b → (T a).2.1 ≠ (T b).2.1) (hown : s.vm.findClass own = some m.cls) (hK : va_K D vwCl (hs_ty E) s) (hB : hs_H D E ad A σ H) (hS : va_S A H0 H locs) {kd n : Nat} (hok : hs_ok σ kd n) (hkd : kd < 11) (hc : vwCl[kd - 1]? = some (C, T, N)) (k : Nat) (hk : k < N) (hsh : (hs_sh kd)[k]? = some false) (hlink : (Cond.fieldLink own index ref (T k).2.1 (T k).2.2.1).before args s = true) (hsame : ∀ x, s.fieldFound? (T k).1 (T k).2.1 (T k).2.2.1 = some x → s.fieldFound? ref (T k).2.1 (T k).2.2.1 = some x) (hfin : (T k).2.2.2 = false) (hd : parseFieldDescriptor (T k).2.2.1 = some .int) {v : Int32} (hdg : decode cc pc = .ok (.putfield index, 3))
    (kk : ∀ (H1 : Heap) (locs1 : List Loc), hs_H D E ad A (hs_wF σ k n v) H1 → va_S A H0 H1 locs1 → W p l e R s m args below meth c H1 locs1 cells slots Q (F0 m (pc + 3) ls rest)) : W p l e R s m args below meth c H locs cells slots Q (F0 m pc ls (.int v :: .ref (ad n) :: rest)) :=
  va_put hx hb hts hin ty0 hty hnm hown hK hB.1 hB.2.1 hS n ((hs_at hok.2).trans (by rw [hs_e_o hok.1 hkd])) hc k hk hlink hsame hfin hd rfl rfl (hs_fs_len hsh) hdg (fun H1 locs1 h1 h2 h3 => kk H1 locs1 (by rw [hs_ws_F hok.1 hkd hsh] at h1 h2; exact ⟨h1, h2, hB.2.2⟩) h3)
theorem hs_putIN (hx : p.tables.exec = Jvm.exec) (hb : c.code = cc) {own ref C host : String} {T : u_T} {N index : Nat} {Ts : List Cond} (hts : ∀ w ∈ Ts, w.before args s = true) (hin : ∀ w ∈ u_ws C T N, w ∈ Ts) {ty0 : Nat → FieldType} (hty : ∀ k, k < N → parseFieldDescriptor (T k).2.2.1 = some (ty0 k)) (hnm : ∀ a, a < N → ∀ b, b < N → a ≠ b → (T a).2.1 ≠ (T b).2.1) (hown : s.vm.findClass own = some m.cls) (hK : va_K D vwCl (hs_ty E) s) (hB : hs_H D E ad A σ H) (hS : va_S A H0 H locs) {kd n : Nat} (hok : hs_ok σ kd n) (hkd : kd < 11) (hc : vwCl[kd - 1]? = some (C, T, N)) (k : Nat) (hk : k < N) (hsh : (hs_sh kd)[k]? = some false) (hlink : va_Nw (.fieldLinkNest own index ref (T k).2.1 (T k).2.2.1 host) s) (hsame : ∀ x, s.fieldFound? (T k).1 (T k).2.1 (T k).2.2.1 = some x → s.fieldFound? ref (T k).2.1 (T k).2.2.1 = some x) (hfin : (T k).2.2.2 = false) (hd : parseFieldDescriptor (T k).2.2.1 = some .int) {v : Int32} (hdg : decode cc pc = .ok (.putfield index, 3))
    (kk : ∀ (H1 : Heap) (locs1 : List Loc), hs_H D E ad A (hs_wF σ k n v) H1 → va_S A H0 H1 locs1 → W p l e R s m args below meth c H1 locs1 cells slots Q (F0 m (pc + 3) ls rest)) : W p l e R s m args below meth c H locs cells slots Q (F0 m pc ls (.int v :: .ref (ad n) :: rest)) :=
  va_putN hx hb hts hin ty0 hty hnm hown hK hB.1 hB.2.1 hS n ((hs_at hok.2).trans (by rw [hs_e_o hok.1 hkd])) hc k hk (hlink.use rfl) hsame hfin hd rfl rfl (hs_fs_len hsh) hdg (fun H1 locs1 h1 h2 h3 => kk H1 locs1 (by rw [hs_ws_F hok.1 hkd hsh] at h1 h2; exact ⟨h1, h2, hB.2.2⟩) h3)
/-- in a constructor, a final field -/
theorem hs_putIF (hx : p.tables.exec = Jvm.exec) (hb : c.code = cc) {own ref C : String} {T : u_T} {N index : Nat} {Ts : List Cond} (hts : ∀ w ∈ Ts, w.before args s = true) (hin : ∀ w ∈ u_ws C T N, w ∈ Ts) {ty0 : Nat → FieldType} (hty : ∀ k, k < N → parseFieldDescriptor (T k).2.2.1 = some (ty0 k)) (hnm : ∀ a, a < N → ∀ b, b < N → a ≠ b → (T a).2.1 ≠ (T b).2.1) (hown : s.vm.findClass own = some m.cls) (hK : va_K D vwCl (hs_ty E) s) (hB : hs_H D E ad A σ H) (hS : va_S A H0 H locs) {kd n : Nat} (hok : hs_ok σ kd n) (hkd : kd < 11) (hc : vwCl[kd - 1]? = some (C, T, N)) (k : Nat) (hk : k < N) (hsh : (hs_sh kd)[k]? = some false) (hlink : (Cond.fieldLink own index ref (T k).2.1 (T k).2.2.1).before args s = true) (hsame : ∀ x, s.fieldFound? (T k).1 (T k).2.1 (T k).2.2.1 = some x → s.fieldFound? ref (T k).2.1 (T k).2.2.1 = some x) (hfin : (T k).2.2.2 = true) (hin2 : meth.name = "<init>") (hdecl : (T k).1 = own) (hd : parseFieldDescriptor (T k).2.2.1 = some .int) {v : Int32} (hdg : decode cc pc = .ok (.putfield index, 3))
    (kk : ∀ (H1 : Heap) (locs1 : List Loc), hs_H D E ad A (hs_wF σ k n v) H1 → va_S A H0 H1 locs1 → W p l e R s m args below meth c H1 locs1 cells slots Q (F0 m (pc + 3) ls rest)) : W p l e R s m args below meth c H locs cells slots Q (F0 m pc ls (.int v :: .ref (ad n) :: rest)) :=
  va_putF hx hb hts hin ty0 hty hnm hown hK hB.1 hB.2.1 hS n ((hs_at hok.2).trans (by rw [hs_e_o hok.1 hkd])) hc k hk hlink hsame hfin hin2 hdecl hd rfl rfl (hs_fs_len hsh) hdg (fun H1 locs1 h1 h2 h3 => kk H1 locs1 (by rw [hs_ws_F hok.1 hkd hsh] at h1 h2; exact ⟨h1, h2, hB.2.2⟩) h3)
theorem hs_putR (hx : p.tables.exec = Jvm.exec) (hb : c.code = cc) {own ref C : String} {T : u_T} {N index : Nat} {Ts : List Cond} (hts : ∀ w ∈ Ts, w.before args s = true) (hin : ∀ w ∈ u_ws C T N, w ∈ Ts) {ty0 : Nat → FieldType} (hty : ∀ k, k < N → parseFieldDescriptor (T k).2.2.1 = some (ty0 k)) (hnm : ∀ a, a < N → ∀ b, b < N → a ≠ b → (T a).2.1 ≠ (T b).2.1) (hown : s.vm.findClass own = some m.cls) (hK : va_K D vwCl (hs_ty E) s) (hB : hs_H D E ad A σ H) (hS : va_S A H0 H locs) {kd n : Nat} (hok : hs_ok σ kd n) (hkd : kd < 11) (hc : vwCl[kd - 1]? = some (C, T, N)) (k : Nat) (hk : k < N) (hsh : (hs_sh kd)[k]? = some true) (hlink : (Cond.fieldLink own index ref (T k).2.1 (T k).2.2.1).before args s = true) (hsame : ∀ x, s.fieldFound? (T k).1 (T k).2.1 (T k).2.2.1 = some x → s.fieldFound? ref (T k).2.1 (T k).2.2.1 = some x) (hfin : (T k).2.2.2 = false) {ty : FieldType} (hd : parseFieldDescriptor (T k).2.2.1 = some ty) (r : Option Nat) (hlv : ∀ q, r = some q → q < hs_N σ ∨ q = hs_em) {v : Value} (hv : v = va_rf (r.map ad)) (hn : narrow ty v = v) (hfit : fits ty v = true) (hdg : decode cc pc = .ok (.putfield index, 3))
    (kk : ∀ (H1 : Heap) (locs1 : List Loc), hs_H D E ad A (hs_wG σ k n r) H1 → va_S A H0 H1 locs1 → W p l e R s m args below meth c H1 locs1 cells slots Q (F0 m (pc + 3) ls rest)) : W p l e R s m args below meth c H locs cells slots Q (F0 m pc ls (v :: .ref (ad n) :: rest)) :=
  va_put hx hb hts hin ty0 hty hnm hown hK hB.1 hB.2.1 hS n ((hs_at hok.2).trans (by rw [hs_e_o hok.1 hkd])) hc k hk hlink hsame hfin hd hn hfit (hs_fs_len hsh) hdg (fun H1 locs1 h1 h2 h3 => kk H1 locs1 (by rw [hv, hs_ws_G hok.1 hkd hsh] at h1 h2; exact ⟨h1, h2, hs_wf_G hB.2.2 hlv⟩) h3)
theorem hs_putRN (hx : p.tables.exec = Jvm.exec) (hb : c.code = cc) {own ref C host : String} {T : u_T} {N index : Nat} {Ts : List Cond} (hts : ∀ w ∈ Ts, w.before args s = true) (hin : ∀ w ∈ u_ws C T N, w ∈ Ts) {ty0 : Nat → FieldType} (hty : ∀ k, k < N → parseFieldDescriptor (T k).2.2.1 = some (ty0 k)) (hnm : ∀ a, a < N → ∀ b, b < N → a ≠ b → (T a).2.1 ≠ (T b).2.1) (hown : s.vm.findClass own = some m.cls) (hK : va_K D vwCl (hs_ty E) s) (hB : hs_H D E ad A σ H) (hS : va_S A H0 H locs) {kd n : Nat} (hok : hs_ok σ kd n) (hkd : kd < 11) (hc : vwCl[kd - 1]? = some (C, T, N)) (k : Nat) (hk : k < N) (hsh : (hs_sh kd)[k]? = some true) (hlink : va_Nw (.fieldLinkNest own index ref (T k).2.1 (T k).2.2.1 host) s) (hsame : ∀ x, s.fieldFound? (T k).1 (T k).2.1 (T k).2.2.1 = some x → s.fieldFound? ref (T k).2.1 (T k).2.2.1 = some x) (hfin : (T k).2.2.2 = false) {ty : FieldType} (hd : parseFieldDescriptor (T k).2.2.1 = some ty) (r : Option Nat) (hlv : ∀ q, r = some q → q < hs_N σ ∨ q = hs_em) {v : Value} (hv : v = va_rf (r.map ad)) (hn : narrow ty v = v) (hfit : fits ty v = true) (hdg : decode cc pc = .ok (.putfield index, 3))
    (kk : ∀ (H1 : Heap) (locs1 : List Loc), hs_H D E ad A (hs_wG σ k n r) H1 → va_S A H0 H1 locs1 → W p l e R s m args below meth c H1 locs1 cells slots Q (F0 m (pc + 3) ls rest)) : W p l e R s m args below meth c H locs cells slots Q (F0 m pc ls (v :: .ref (ad n) :: rest)) :=
  va_putN hx hb hts hin ty0 hty hnm hown hK hB.1 hB.2.1 hS n ((hs_at hok.2).trans (by rw [hs_e_o hok.1 hkd])) hc k hk (hlink.use rfl) hsame hfin hd hn hfit (hs_fs_len hsh) hdg (fun H1 locs1 h1 h2 h3 => kk H1 locs1 (by rw [hv, hs_ws_G hok.1 hkd hsh] at h1 h2; exact ⟨h1, h2, hs_wf_G hB.2.2 hlv⟩) h3)
theorem hs_putRF (hx : p.tables.exec = Jvm.exec) (hb : c.code = cc) {own ref C : String} {T : u_T} {N index : Nat} {Ts : List Cond} (hts : ∀ w ∈ Ts, w.before args s = true) (hin : ∀ w ∈ u_ws C T N, w ∈ Ts) {ty0 : Nat → FieldType} (hty : ∀ k, k < N → parseFieldDescriptor (T k).2.2.1 = some (ty0 k)) (hnm : ∀ a, a < N → ∀ b, b < N → a ≠ b → (T a).2.1 ≠ (T b).2.1) (hown : s.vm.findClass own = some m.cls) (hK : va_K D vwCl (hs_ty E) s) (hB : hs_H D E ad A σ H) (hS : va_S A H0 H locs) {kd n : Nat} (hok : hs_ok σ kd n) (hkd : kd < 11) (hc : vwCl[kd - 1]? = some (C, T, N)) (k : Nat) (hk : k < N) (hsh : (hs_sh kd)[k]? = some true) (hlink : (Cond.fieldLink own index ref (T k).2.1 (T k).2.2.1).before args s = true) (hsame : ∀ x, s.fieldFound? (T k).1 (T k).2.1 (T k).2.2.1 = some x → s.fieldFound? ref (T k).2.1 (T k).2.2.1 = some x) (hfin : (T k).2.2.2 = true) (hin2 : meth.name = "<init>") (hdecl : (T k).1 = own) {ty : FieldType} (hd : parseFieldDescriptor (T k).2.2.1 = some ty) (r : Option Nat) (hlv : ∀ q, r = some q → q < hs_N σ ∨ q = hs_em) {v : Value} (hv : v = va_rf (r.map ad)) (hn : narrow ty v = v) (hfit : fits ty v = true) (hdg : decode cc pc = .ok (.putfield index, 3))
    (kk : ∀ (H1 : Heap) (locs1 : List Loc), hs_H D E ad A (hs_wG σ k n r) H1 → va_S A H0 H1 locs1 → W p l e R s m args below meth c H1 locs1 cells slots Q (F0 m (pc + 3) ls rest)) : W p l e R s m args below meth c H locs cells slots Q (F0 m pc ls (v :: .ref (ad n) :: rest)) :=
  va_putF hx hb hts hin ty0 hty hnm hown hK hB.1 hB.2.1 hS n ((hs_at hok.2).trans (by rw [hs_e_o hok.1 hkd])) hc k hk hlink hsame hfin hin2 hdecl hd hn hfit (hs_fs_len hsh) hdg (fun H1 locs1 h1 h2 h3 => kk H1 locs1 (by rw [hv, hs_ws_G hok.1 hkd hsh] at h1 h2; exact ⟨h1, h2, hs_wf_G hB.2.2 hlv⟩) h3)
theorem hs_iald (hx : p.tables.exec = Jvm.exec) (hb : c.code = cc) (hK : va_K D vwCl (hs_ty E) s) (hB : hs_H D E ad A σ H) {n : Nat} (hok : hs_ok σ 11 n) {i : Int32} (hin : vp_in i (hs_L σ n)) (hdg : decode cc pc = .ok (.iaload, 1))
    (kk : W p l e R s m args below meth c H locs cells slots Q (F0 m (pc + 1) ls (.int (hs_R σ n i.toNatClampNeg) :: rest))) : W p l e R s m args below meth c H locs cells slots Q (F0 m pc ls (.int i :: .ref (ad n) :: rest)) :=
  va_iald hx hb hK hB.1 n 0 ((hs_at hok.2).trans (by rw [hs_e_i hok.1])) rfl hin hdg kk
theorem hs_zald (hx : p.tables.exec = Jvm.exec) (hb : c.code = cc) (hK : va_K D vwCl (hs_ty E) s) (hB : hs_H D E ad A σ H) {n : Nat} (hok : hs_ok σ 12 n) {i : Int32} (hin : vp_in i (hs_L σ n)) (hdg : decode cc pc = .ok (.baload, 1))
    (kk : W p l e R s m args below meth c H locs cells slots Q (F0 m (pc + 1) ls (.int (hs_R σ n i.toNatClampNeg) :: rest))) : W p l e R s m args below meth c H locs cells slots Q (F0 m pc ls (.int i :: .ref (ad n) :: rest)) :=
  va_zald hx hb hK hB.1 n 1 ((hs_at hok.2).trans (by rw [hs_e_z hok.1])) rfl hin hdg kk
theorem hs_aald (hx : p.tables.exec = Jvm.exec) (hb : c.code = cc) (hK : va_K D vwCl (hs_ty E) s) (hB : hs_H D E ad A σ H) {n : Nat} (hok : hs_ok σ 13 n) {i : Int32} (hin : vp_in i (hs_L σ n)) (hdg : decode cc pc = .ok (.aaload, 1))
    (kk : W p l e R s m args below meth c H locs cells slots Q (F0 m (pc + 1) ls (va_rf ((hs_O σ n i.toNatClampNeg).map ad) :: rest))) : W p l e R s m args below meth c H locs cells slots Q (F0 m pc ls (.int i :: .ref (ad n) :: rest)) :=
  va_aldq hx hb hK hB.1 n 2 ((hs_at hok.2).trans (by rw [hs_e_q hok.1])) rfl hin hdg kk
theorem hs_iast (hx : p.tables.exec = Jvm.exec) (hb : c.code = cc) (hK : va_K D vwCl (hs_ty E) s) (hB : hs_H D E ad A σ H) (hS : va_S A H0 H locs) {n : Nat} (hok : hs_ok σ 11 n) {i v : Int32} (hin : vp_in i (hs_L σ n)) (hdg : decode cc pc = .ok (.iastore, 1))
    (kk : ∀ (H1 : Heap) (locs1 : List Loc), hs_H D E ad A (hs_wR σ n i.toNatClampNeg v) H1 → va_S A H0 H1 locs1 → W p l e R s m args below meth c H1 locs1 cells slots Q (F0 m (pc + 1) ls rest)) : W p l e R s m args below meth c H locs cells slots Q (F0 m pc ls (.int v :: .int i :: .ref (ad n) :: rest)) :=
  va_iast hx hb hK hB.1 hB.2.1 hS n 0 ((hs_at hok.2).trans (by rw [hs_e_i hok.1])) rfl hin hdg (fun H1 locs1 h1 h2 h3 => kk H1 locs1 (by rw [hs_ws_R hok.1] at h1 h2; exact ⟨h1, h2, hB.2.2⟩) h3)
theorem hs_zast (hx : p.tables.exec = Jvm.exec) (hb : c.code = cc) (hK : va_K D vwCl (hs_ty E) s) (hB : hs_H D E ad A σ H) (hS : va_S A H0 H locs) {n : Nat} (hok : hs_ok σ 12 n) {i v : Int32} (hin : vp_in i (hs_L σ n)) (hdg : decode cc pc = .ok (.bastore, 1))
    (kk : ∀ (H1 : Heap) (locs1 : List Loc), hs_H D E ad A (hs_wR σ n i.toNatClampNeg (v &&& 1)) H1 → va_S A H0 H1 locs1 → W p l e R s m args below meth c H1 locs1 cells slots Q (F0 m (pc + 1) ls rest)) : W p l e R s m args below meth c H locs cells slots Q (F0 m pc ls (.int v :: .int i :: .ref (ad n) :: rest)) :=
  va_zast hx hb hK hB.1 hB.2.1 hS n 1 ((hs_at hok.2).trans (by rw [hs_e_z hok.1])) rfl hin hdg (fun H1 locs1 h1 h2 h3 => kk H1 locs1 (by rw [show vp_nar .boolean v = v &&& 1 from rfl, hs_ws_Z hok.1] at h1 h2; exact ⟨h1, h2, hB.2.2⟩) h3)
theorem hs_alen (hx : p.tables.exec = Jvm.exec) (hb : c.code = cc) (hK : va_K D vwCl (hs_ty E) s) (hB : hs_H D E ad A σ H) {n : Nat} (hok : hs_ok σ 11 n) (hdg : decode cc pc = .ok (.arraylength, 1))
    (kk : W p l e R s m args below meth c H locs cells slots Q (F0 m (pc + 1) ls (.int (nI (hs_L σ n)) :: rest))) : W p l e R s m args below meth c H locs cells slots Q (F0 m pc ls (.ref (ad n) :: rest)) :=
  va_alen (x := (hs_L σ n, .inl (hs_R σ n))) hx hb hK hB.1 n 0 ((hs_at hok.2).trans (by rw [hs_e_i hok.1])) rfl rfl hdg kk
/-- a static row of numbers -/
theorem hs_tld (hx : p.tables.exec = Jvm.exec) (hb : c.code = cc) {t n0 N : Nat} {f : Nat → Int32} {nm : String} (hZ : hs_Z1 t n0 N f nm s s.heap) (hA0 : ∀ q, A q → n0 ≤ q) (hS : va_S A s.heap H locs) {i : Int32} (hin : vp_in i N) (hdg : decode cc pc = .ok (.iaload, 1))
    (kk : W p l e R s m args below meth c H locs cells slots Q (F0 m (pc + 1) ls (.int (f i.toNatClampNeg) :: rest))) : W p l e R s m args below meth c H locs cells slots Q (F0 m pc ls (.int i :: .ref t :: rest)) :=
  va_ti hx hb (hZ.2.narrow hA0) hS hin rfl hdg kk
theorem hs_tget (hx : p.tables.exec = Jvm.exec) (hb : c.code = cc) {own ref : String} {index : Nat} {t n0 N : Nat} {f : Nat → Int32} {nm : String} (hZ : hs_Z1 t n0 N f nm s s.heap) (hA0 : ∀ q, A q → n0 ≤ q) (hS : va_S A s.heap H locs) (hown : s.vm.findClass own = some m.cls) (hlink : (Cond.fieldLink own index ref nm "[I").before args s = true) (hsame : ∀ x, s.fieldFound? "ServiceGame" nm "[I" = some x → s.fieldFound? ref nm "[I" = some x) (hdg : decode cc pc = .ok (.getstatic index, 3))
    (kk : W p l e R s m args below meth c H locs cells slots Q (F0 m (pc + 3) ls (.ref t :: rest))) : W p l e R s m args below meth c H locs cells slots Q (F0 m pc ls rest) :=
  va_gets hx hb (hZ.1.narrow hA0) hS hown hlink hsame hdg kk
theorem hs_copy (hx : p.tables.exec = Jvm.exec) (hb : c.code = cc) (hml : c.maxLocals = ls.size) {own : String} {index : Nat} (hown : s.vm.findClass own = some m.cls) (hlink : (Cond.methodLink own index arraycopyName).before args s = true) (hnat : (Cond.native arraycopyName).before args s = true) (hstat : (Cond.static arraycopyName).before args s = true) (hini : (Cond.initialized "java/lang/System").before args s = true)
    (hK : va_K D vwCl (hs_ty E) s) (hB : hs_H D E ad A σ H) (hS : va_S A H0 H locs) {n0 n1 : Nat} (hok0 : hs_ok σ 11 n0) (hok1 : hs_ok σ 11 n1) {sp dp n : Int32} (h1 : ¬ sp < 0) (h2 : ¬ dp < 0) (h3 : ¬ n < 0) (h4 : sp.toNatClampNeg + n.toNatClampNeg ≤ hs_L σ n0) (h5 : dp.toNatClampNeg + n.toNatClampNeg ≤ hs_L σ n1)
    (hframes : 1 ≤ R.frames) (hlocals : (rest.map fun v => v.category).sum + (nativeFrameWords "java/lang/System" "arraycopy" 5 + 11) ≤ R.locals) (hdg : decode cc pc = .ok (.invokestatic index, 3))
    (kk : ∀ (H1 : Heap) (locs1 : List Loc), hs_H D E ad A (hs_wRow σ n1 (va_cpy (hs_R σ n0) (hs_R σ n1) sp.toNatClampNeg dp.toNatClampNeg n.toNatClampNeg)) H1 → va_S A H0 H1 locs1 → W p l e R s m args below meth c H1 locs1 cells slots Q (F0 m (pc + 3) ls rest)) : W p l e R s m args below meth c H locs cells slots Q (F0 m pc ls (.int n :: .int dp :: .ref (ad n1) :: .int sp :: .ref (ad n0) :: rest)) :=
  va_copyi hx hb hml hown hlink hnat hstat hini hK hB.1 hB.2.1 hS n0 n1 0 0 ((hs_at hok0.2).trans (by rw [hs_e_i hok0.1])) ((hs_at hok1.2).trans (by rw [hs_e_i hok1.1])) rfl rfl rfl h1 h2 h3 h4 h5 (fun _ _ => rfl) hframes hlocals hdg (fun H1 locs1 g1 g2 g3 => kk H1 locs1 (by rw [hs_ws_Row hok1.1] at g1 g2; exact ⟨g1, g2, hB.2.2⟩) g3)
/-- the receiver of a call -/
theorem hs_recv (hK : va_K D vwCl (hs_ty E) s) (hB : hs_H D E ad A σ H) {kd n : Nat} (hok : hs_ok σ kd n) (hkd : kd < 11) {C : String} {T : u_T} {N : Nat} (hc : vwCl[kd - 1]? = some (C, T, N)) : ∃ cell : Cell, H[ad n]? = some cell ∧ cell.vm.isStatics = false ∧ s.vm.findClass C = some cell.cls :=
  va_recv hK hB.1 hc ((hs_at (E := E) (ad := ad) hok.2).trans (by rw [hs_e_o hok.1 hkd]))
/-- a callee's start holds -/
theorem hs_pre {av : List Value} (hV : hs_V X s) (hB : hs_H X.1 X.2.1 ad A σ H) (hS : va_S A s.heap H locs) (hA0 : ∀ q, A q → hs_A0 X q) (hA : ∀ q, s.heap.size ≤ q → A q) (hem : ad hs_em = X.2.2.1.2.2.2) : PreS s H (hs_Pc X ad σ H.size av) av :=
  ⟨fun a U g mk h => ⟨h.1, h.2.1, h.2.2.1.blind, h.2.2.2⟩, fun U hU hW => ⟨rfl, by rw [hU], hV.call hS hA0 hU hW, hem, by rw [hU]; exact hB.weaken hA0, hA0 _ (hA _ hS.1)⟩⟩
theorem hs_preV {C : String} {b : Nat} {av : List Value} (hr : ∃ cell : Cell, H[b]? = some cell ∧ cell.vm.isStatics = false ∧ s.vm.findClass C = some cell.cls) (hV : hs_V X s) (hB : hs_H X.1 X.2.1 ad A σ H) (hS : va_S A s.heap H locs) (hA0 : ∀ q, A q → hs_A0 X q) (hA : ∀ q, s.heap.size ≤ q → A q) (hem : ad hs_em = X.2.2.1.2.2.2) : PreV s H C b (hs_Pc X ad σ H.size (Value.ref b :: av)) av :=
  ⟨(hs_pre (av := Value.ref b :: av) hV hB hS hA0 hA hem).1, hr, (hs_pre (av := Value.ref b :: av) hV hB hS hA0 hA hem).2⟩
theorem hs_Aw_in (hB : hs_H X.1 X.2.1 ad A σ H) (hS : va_S A s.heap H locs) (hA : ∀ q, s.heap.size ≤ q → A q) : ∀ q, hs_Aw X ad σ H.size q → A q := by
  intro q hq
  rcases hq with ⟨k, en, hk⟩ | hq
  · exact hB.2.1.2 k _ hk
  · exact hA q (Nat.le_trans hS.1 hq)
theorem hs_S_call {H1 : Heap} {A1 : Nat → Prop} {L : List Loc} (hS : va_S A s.heap H locs) (hz : H.size ≤ H1.size) (hk : ∀ q : Nat, q < H.size → ¬ A1 q → H1[q]? = H[q]?) (hAA : ∀ q, A1 q → A q) (hL : ∀ q ∈ L, A1 q.base) : va_S A s.heap H1 (locs ++ L) :=
  ⟨Nat.le_trans hS.1 hz, fun q h1 h2 => by rw [hk q (Nat.lt_of_lt_of_le h1 hS.1) (fun z => h2 (hAA q z))]; exact hS.2.1 q h1 h2, fun q hq => by
    rcases List.mem_append.mp hq with h | h
    · exact hS.2.2 q h
    · exact hAA _ (hL q h)⟩
variable {st0 : List Value} {a : Array Value}
/-- a call of a method that makes no cell -/
theorem hs_call0 {ρ : Type} {tv : (Nat → Nat) → ρ → Option Value} {r : ρ} {σ' : hs_T} {vs : List Value} (hr : va_Run p l e R s m args below meth c H locs cells slots 0 0 (F0 m pc ls st0) rest (hs_Q0 tv X ad (hs_Aw X ad σ H.size) r σ' a) (hs_Aw X ad σ H.size)) (hB : hs_H X.1 X.2.1 ad A σ H) (hS : va_S A s.heap H locs) (hA : ∀ q, s.heap.size ≤ q → A q) (hvs : (tv ad r).toList ++ rest = vs)
    (kk : ∀ (H1 : Heap) (locs1 : List Loc), hs_H X.1 X.2.1 ad A σ' H1 → va_S A s.heap H1 locs1 → W p l e R s m args below meth c H1 locs1 cells slots Q (F0 m (pc + 3) ls vs)) : W p l e R s m args below meth c H locs cells slots Q (F0 m pc ls st0) := by
  intro T hT Y
  obtain ⟨v, st₀, t, T', L, h0, Y', hL, e1, e2, ⟨⟨ho, hB'⟩, hz, hk⟩, st⟩ := hr T hT Y
  cases ho
  subst hvs
  rw [h0] at hz hk
  have hAA := hs_Aw_in hB hS hA
  obtain ⟨t2, a1, b1⟩ := kk T'.heap (locs ++ L) (by rw [e1]; exact hB'.weaken hAA) (hs_S_call hS (by rw [e1]; exact hz) (fun q h1 h2 => by rw [e1]; exact hk q h1 h2) hAA hL) T' rfl Y'
  exact ⟨t2, st t2 a1, b1⟩
/-- a call of a method that may make cells -/
theorem hs_call1 {ρ : Type} {tv : (Nat → Nat) → ρ → Option Value} {mc ms : Nat} {r : ρ} {σ' : hs_T} (hr : va_Run p l e R s m args below meth c H locs cells slots mc ms (F0 m pc ls st0) rest (hs_Q1 tv X ad (hs_N σ) (hs_Aw X ad σ H.size) r σ' a) (hs_Aw X ad σ H.size)) (hB : hs_H X.1 X.2.1 ad A σ H) (hS : va_S A s.heap H locs) (hA : ∀ q, s.heap.size ≤ q → A q)
    (kk : ∀ (ad' : Nat → Nat) (H1 : Heap) (locs1 : List Loc), (∀ n, n < hs_N σ ∨ n = hs_em → ad' n = ad n) → hs_H X.1 X.2.1 ad' A σ' H1 → va_S A s.heap H1 locs1 → W p l e R s m args below meth c H1 locs1 (cells + mc) (slots + ms) Q (F0 m (pc + 3) ls ((tv ad' r).toList ++ rest))) : W p l e R s m args below meth c H locs cells slots Q (F0 m pc ls st0) := by
  intro T hT Y
  obtain ⟨v, st₀, t, T', L, h0, Y', hL, e1, e2, ⟨⟨ad', had, ho, hB'⟩, hz, hk⟩, st⟩ := hr T hT Y
  cases ho
  rw [h0] at hz hk
  have hAA := hs_Aw_in hB hS hA
  obtain ⟨t2, a1, b1⟩ := kk ad' T'.heap (locs ++ L) had (by rw [e1]; exact hB'.weaken hAA) (hs_S_call hS (by rw [e1]; exact hz) (fun q h1 h2 => by rw [e1]; exact hk q h1 h2) hAA hL) T' rfl Y'
  exact ⟨t2, st t2 a1, b1⟩
/-- ends -/
theorem hs_iret (hx : p.tables.exec = Jvm.exec) (hb : c.code = cc) (hr : meth.sig.returnType = some .int) (hlk : meth.locks = false) {r : Int32} (hB : hs_H X.1 X.2.1 ad A σ H) (hS : va_S A s.heap H locs) (hdg : decode cc pc = .ok (.ireturn, 1)) : W p l e R s m args below meth c H locs cells slots (MQ below (hs_Q0 hs_tvi X ad A r σ) args s cells slots A) (F0 m pc ls [.int r]) :=
  W.iret hx hb hr (fun t ht hW => ⟨⟨rfl, by rw [ht]; exact hB⟩, hS.F ht⟩) hS.2.2 hdg hlk
theorem hs_zret (hx : p.tables.exec = Jvm.exec) (hb : c.code = cc) (hr : meth.sig.returnType = some .boolean) (hlk : meth.locks = false) {r : Int32} (hn : r &&& 1 = r) (hB : hs_H X.1 X.2.1 ad A σ H) (hS : va_S A s.heap H locs) (hdg : decode cc pc = .ok (.ireturn, 1)) : W p l e R s m args below meth c H locs cells slots (MQ below (hs_Q0 hs_tvi X ad A r σ) args s cells slots A) (F0 m pc ls [.int r]) :=
  W.zret hx hb hr (congrArg Value.int hn) (fun t ht hW => ⟨⟨rfl, by rw [ht]; exact hB⟩, hS.F ht⟩) hS.2.2 hdg hlk
theorem hs_vret (hx : p.tables.exec = Jvm.exec) (hb : c.code = cc) (hr : meth.sig.returnType = none) (hlk : meth.locks = false) {r : Unit} (hB : hs_H X.1 X.2.1 ad A σ H) (hS : va_S A s.heap H locs) (hdg : decode cc pc = .ok (.return_, 1)) : W p l e R s m args below meth c H locs cells slots (MQ below (hs_Q0 hs_tvv X ad A r σ) args s cells slots A) (F0 m pc ls []) :=
  W.vret hx hb hr (fun t ht hW => ⟨⟨rfl, by rw [ht]; exact hB⟩, hS.F ht⟩) hS.2.2 hdg hlk
theorem hs_aret (hx : p.tables.exec = Jvm.exec) (hb : c.code = cc) {C : String} (hr : meth.sig.returnType = some (.object C)) (hlk : meth.locks = false) (r : Option Nat) {v : Value} (hv : v = va_rf (r.map ad)) (hB : hs_H X.1 X.2.1 ad A σ H) (hS : va_S A s.heap H locs) (hdg : decode cc pc = .ok (.areturn, 1)) : W p l e R s m args below meth c H locs cells slots (MQ below (hs_Q0 hs_tvr X ad A r σ) args s cells slots A) (F0 m pc ls [v]) := by
  subst hv
  refine W.aret hx hb hr (Or.inl ⟨_, rfl⟩) ?_ (fun t ht hW => ⟨⟨rfl, by rw [ht]; exact hB⟩, hS.F ht⟩) hS.2.2 hdg hlk
  cases r with
  | none => exact Or.inl rfl
  | some n => exact Or.inr ⟨_, rfl⟩
end HsRows
theorem hs_bi {α β : Type} {o : Option α} {f : α → Option β} {b : β} (h : o.bind f = some b) : ∃ a, o = some a ∧ f a = some b := Option.bind_eq_some_iff.mp h
end
section
/-! The picture's own steps: each gives nothing where the machine would throw -/
def hs_ck (σ : hs_T) (kd n : Nat) : Option Unit := if hs_K σ n = kd ∧ n < hs_N σ then some () else none
def hs_gI (σ : hs_T) (kd n k : Nat) : Option Int32 := if hs_K σ n = kd ∧ n < hs_N σ then some (hs_F σ k n) else none
def hs_gR (σ : hs_T) (kd n k : Nat) : Option (Option Nat) := if hs_K σ n = kd ∧ n < hs_N σ then some (hs_G σ k n) else none
def hs_gN (σ : hs_T) (kd n k : Nat) : Option Nat := if hs_K σ n = kd ∧ n < hs_N σ then hs_G σ k n else none
def hs_pI (σ : hs_T) (kd n k : Nat) (v : Int32) : Option hs_T := if hs_K σ n = kd ∧ n < hs_N σ then some (hs_wF σ k n v) else none
def hs_lvr (σ : hs_T) (r : Option Nat) : Bool := match r with
  | none => true
  | some q => decide (q < hs_N σ ∨ q = hs_em)
def hs_pR (σ : hs_T) (kd n k : Nat) (r : Option Nat) : Option hs_T := if (hs_K σ n = kd ∧ n < hs_N σ) ∧ hs_lvr σ r = true then some (hs_wG σ k n r) else none
def hs_ld (σ : hs_T) (kd n : Nat) (i : Int32) : Option Int32 := if (hs_K σ n = kd ∧ n < hs_N σ) ∧ ¬ (i < 0 ∨ hs_L σ n ≤ i.toNatClampNeg) then some (hs_R σ n i.toNatClampNeg) else none
def hs_st (σ : hs_T) (kd n : Nat) (i v : Int32) : Option hs_T := if (hs_K σ n = kd ∧ n < hs_N σ) ∧ ¬ (i < 0 ∨ hs_L σ n ≤ i.toNatClampNeg) then some (hs_wR σ n i.toNatClampNeg v) else none
def hs_la (σ : hs_T) (n : Nat) (i : Int32) : Option (Option Nat) := if (hs_K σ n = 13 ∧ n < hs_N σ) ∧ ¬ (i < 0 ∨ hs_L σ n ≤ i.toNatClampNeg) then some (hs_O σ n i.toNatClampNeg) else none
def hs_ln (σ : hs_T) (n : Nat) : Option Int32 := if hs_K σ n = 11 ∧ n < hs_N σ then some (nI (hs_L σ n)) else none
def hs_tb (N : Nat) (f : Nat → Int32) (i : Int32) : Option Int32 := if ¬ (i < 0 ∨ N ≤ i.toNatClampNeg) then some (f i.toNatClampNeg) else none
def hs_nz (y : Int32) : Option Unit := if y = 0 then none else some ()
def hs_bz (y : Int32) : Option Unit := if y &&& 1 = y then some () else none
def hs_cp (σ : hs_T) (n0 : Nat) (sp : Int32) (n1 : Nat) (dp n : Int32) : Option hs_T :=
  if (hs_K σ n0 = 11 ∧ n0 < hs_N σ) ∧ (hs_K σ n1 = 11 ∧ n1 < hs_N σ) ∧ ¬ sp < 0 ∧ ¬ dp < 0 ∧ ¬ n < 0 ∧ sp.toNatClampNeg + n.toNatClampNeg ≤ hs_L σ n0 ∧ dp.toNatClampNeg + n.toNatClampNeg ≤ hs_L σ n1 then some (hs_wRow σ n1 (va_cpy (hs_R σ n0) (hs_R σ n1) sp.toNatClampNeg dp.toNatClampNeg n.toNatClampNeg)) else none
def hs_b2 {α β γ : Type} (o : Option (α × β)) (f : α → β → Option γ) : Option γ := o.bind (fun q => f q.1 q.2)
def hs_mt {β : Type} (r : Option Nat) (A : Option β) (B : Nat → Option β) : Option β := match r with
  | none => A
  | some n => B n
def hs_lp {α β : Type} (B : (α → Option β) → α → Option β) : Nat → α → Option β
  | 0 => fun _ => none
  | n + 1 => B (hs_lp B n)
theorem hs_lp_i {α β : Type} {B : (α → Option β) → α → Option β} {b : β} {P : α → Prop} (h : ∀ (k : α → Option β) (a : α), (∀ a', k a' = some b → P a') → B k a = some b → P a) : ∀ (n : Nat) (a : α), hs_lp B n a = some b → P a
  | 0, a, e => by cases e
  | n + 1, a, e => h (hs_lp B n) a (hs_lp_i h n) e
theorem hs_b2i {α β γ : Type} {o : Option (α × β)} {f : α → β → Option γ} {c : γ} (h : hs_b2 o f = some c) : ∃ a b, o = some (a, b) ∧ f a b = some c := by
  obtain ⟨q, h1, h2⟩ := Option.bind_eq_some_iff.mp h
  exact ⟨q.1, q.2, h1, h2⟩
theorem hs_mn {β : Type} {A : Option β} {B : Nat → Option β} {z : Option β} (h : hs_mt none A B = z) : A = z := h
theorem hs_ms {β : Type} {n : Nat} {A : Option β} {B : Nat → Option β} {z : Option β} (h : hs_mt (some n) A B = z) : B n = z := h
theorem hs_mx {β : Type} {r : Option Nat} {B : Nat → Option β} {z : β} (h : hs_mt r none B = some z) : ∃ n, B n = some z ∧ r = some n := by
  cases r with
  | none => cases h
  | some n => exact ⟨n, h, rfl⟩
theorem hs_tt {α : Type} {c : Prop} [Decidable c] {A B z : α} (hc : c) (h : (if c then A else B) = z) : A = z := by rw [if_pos hc] at h; exact h
theorem hs_ff {α : Type} {c : Prop} [Decidable c] {A B z : α} (hc : ¬ c) (h : (if c then A else B) = z) : B = z := by rw [if_neg hc] at h; exact h
theorem hs_ri {α β : Type} {a c : α} {b d : β} (h : some (a, b) = some (c, d)) : a = c ∧ b = d := by cases h; exact ⟨rfl, rfl⟩
theorem hs_si {α : Type} {c : Prop} [Decidable c] {a : α} {z : α} (h : (if c then some a else none) = some z) : c ∧ a = z := by
  by_cases hc : c
  · rw [if_pos hc] at h
    exact ⟨hc, Option.some.inj h⟩
  · rw [if_neg hc] at h
    cases h
theorem hs_nz_i {y : Int32} {u : Unit} (h : hs_nz y = some u) : ¬ y = 0 := by
  intro q
  unfold hs_nz at h
  rw [if_pos q] at h
  cases h
theorem hs_bz_i {y : Int32} {u : Unit} (h : hs_bz y = some u) : y &&& 1 = y := (hs_si h).1
theorem hs_ck_i {σ : hs_T} {kd n : Nat} {u : Unit} (h : hs_ck σ kd n = some u) : hs_ok σ kd n := (hs_si h).1
theorem hs_gN_i {σ : hs_T} {kd n k m : Nat} (h : hs_gN σ kd n k = some m) : hs_ok σ kd n ∧ hs_G σ k n = some m := by
  unfold hs_gN at h
  by_cases hc : hs_K σ n = kd ∧ n < hs_N σ
  · rw [if_pos hc] at h
    exact ⟨hc, h⟩
  · rw [if_neg hc] at h
    cases h
theorem hs_lvr_i {σ : hs_T} {r : Option Nat} (h : hs_lvr σ r = true) : ∀ q, r = some q → q < hs_N σ ∨ q = hs_em := by
  intro q e
  subst e
  exact of_decide_eq_true h
section XRows
variable {p : Program} {l : Launch} {e : Env} {R : Room} {s : State} {m : MethodId} {args : Array Value} {below : List Frame} {meth : Method} {c : Code} {H H0 : Heap} {locs : List Loc} {cells slots : Nat} {Q : State → Prop} {cc : ByteArray} {pc : Nat} {ls : Array Slot} {rest : List Value} {D : va_G} {E : hs_E} {ad : Nat → Nat} {A : Nat → Prop} {σ σ' : hs_T} {X : hs_X}
variable {own ref C host : String} {T : u_T} {N index : Nat} {Ts : List Cond} {kd n : Nat} {ty0 : Nat → FieldType}
theorem x_getI (hx : p.tables.exec = Jvm.exec) (hb : c.code = cc) (hts : ∀ w ∈ Ts, w.before args s = true) (hin : ∀ w ∈ u_ws C T N, w ∈ Ts) (hown : s.vm.findClass own = some m.cls) (hK : va_K D vwCl (hs_ty E) s) (hB : hs_H D E ad A σ H) {v : Int32} (hkd : kd < 11) (hc : vwCl[kd - 1]? = some (C, T, N)) {k : Nat} (hk : k < N) (hsh : (hs_sh kd)[k]? = some false) (hg : hs_gI σ kd n k = some v) (hlink : (Cond.fieldLink own index ref (T k).2.1 (T k).2.2.1).before args s = true) (hsame : ∀ x, s.fieldFound? (T k).1 (T k).2.1 (T k).2.2.1 = some x → s.fieldFound? ref (T k).2.1 (T k).2.2.1 = some x) (hdg : decode cc pc = .ok (.getfield index, 3))
    (kk : W p l e R s m args below meth c H locs cells slots Q (F0 m (pc + 3) ls (.int v :: rest))) : W p l e R s m args below meth c H locs cells slots Q (F0 m pc ls (.ref (ad n) :: rest)) := by
  obtain ⟨hok, rfl⟩ := hs_si hg
  exact hs_getI hx hb hts hin hown hK hB hok hkd hc k hk hsh hlink hsame hdg kk
theorem x_getRn (hx : p.tables.exec = Jvm.exec) (hb : c.code = cc) (hts : ∀ w ∈ Ts, w.before args s = true) (hin : ∀ w ∈ u_ws C T N, w ∈ Ts) (hown : s.vm.findClass own = some m.cls) (hK : va_K D vwCl (hs_ty E) s) (hB : hs_H D E ad A σ H) (hkd : kd < 11) (hc : vwCl[kd - 1]? = some (C, T, N)) {k : Nat} (hk : k < N) (hsh : (hs_sh kd)[k]? = some true) (hg : hs_gR σ kd n k = some none) (hlink : (Cond.fieldLink own index ref (T k).2.1 (T k).2.2.1).before args s = true) (hsame : ∀ x, s.fieldFound? (T k).1 (T k).2.1 (T k).2.2.1 = some x → s.fieldFound? ref (T k).2.1 (T k).2.2.1 = some x) (hdg : decode cc pc = .ok (.getfield index, 3))
    (kk : W p l e R s m args below meth c H locs cells slots Q (F0 m (pc + 3) ls (.null :: rest))) : W p l e R s m args below meth c H locs cells slots Q (F0 m pc ls (.ref (ad n) :: rest)) := by
  obtain ⟨hok, hr⟩ := hs_si hg
  exact hs_getR hx hb hts hin hown hK hB hok hkd hc k hk hsh hlink hsame hr hdg kk
theorem x_getRs (hx : p.tables.exec = Jvm.exec) (hb : c.code = cc) (hts : ∀ w ∈ Ts, w.before args s = true) (hin : ∀ w ∈ u_ws C T N, w ∈ Ts) (hown : s.vm.findClass own = some m.cls) (hK : va_K D vwCl (hs_ty E) s) (hB : hs_H D E ad A σ H) {q : Nat} (hkd : kd < 11) (hc : vwCl[kd - 1]? = some (C, T, N)) {k : Nat} (hk : k < N) (hsh : (hs_sh kd)[k]? = some true) (hg : hs_gR σ kd n k = some (some q)) (hlink : (Cond.fieldLink own index ref (T k).2.1 (T k).2.2.1).before args s = true) (hsame : ∀ x, s.fieldFound? (T k).1 (T k).2.1 (T k).2.2.1 = some x → s.fieldFound? ref (T k).2.1 (T k).2.2.1 = some x) (hdg : decode cc pc = .ok (.getfield index, 3))
    (kk : W p l e R s m args below meth c H locs cells slots Q (F0 m (pc + 3) ls (.ref (ad q) :: rest))) : W p l e R s m args below meth c H locs cells slots Q (F0 m pc ls (.ref (ad n) :: rest)) := by
  obtain ⟨hok, hr⟩ := hs_si hg
  exact hs_getR hx hb hts hin hown hK hB hok hkd hc k hk hsh hlink hsame hr hdg kk
theorem x_getN (hx : p.tables.exec = Jvm.exec) (hb : c.code = cc) (hts : ∀ w ∈ Ts, w.before args s = true) (hin : ∀ w ∈ u_ws C T N, w ∈ Ts) (hown : s.vm.findClass own = some m.cls) (hK : va_K D vwCl (hs_ty E) s) (hB : hs_H D E ad A σ H) {q : Nat} (hkd : kd < 11) (hc : vwCl[kd - 1]? = some (C, T, N)) {k : Nat} (hk : k < N) (hsh : (hs_sh kd)[k]? = some true) (hg : hs_gN σ kd n k = some q) (hlink : (Cond.fieldLink own index ref (T k).2.1 (T k).2.2.1).before args s = true) (hsame : ∀ x, s.fieldFound? (T k).1 (T k).2.1 (T k).2.2.1 = some x → s.fieldFound? ref (T k).2.1 (T k).2.2.1 = some x) (hdg : decode cc pc = .ok (.getfield index, 3))
    (kk : W p l e R s m args below meth c H locs cells slots Q (F0 m (pc + 3) ls (.ref (ad q) :: rest))) : W p l e R s m args below meth c H locs cells slots Q (F0 m pc ls (.ref (ad n) :: rest)) := by
  obtain ⟨hok, hr⟩ := hs_gN_i hg
  exact hs_getR hx hb hts hin hown hK hB hok hkd hc k hk hsh hlink hsame hr hdg kk
theorem x_getIN (hx : p.tables.exec = Jvm.exec) (hb : c.code = cc) (hts : ∀ w ∈ Ts, w.before args s = true) (hin : ∀ w ∈ u_ws C T N, w ∈ Ts) (hown : s.vm.findClass own = some m.cls) (hK : va_K D vwCl (hs_ty E) s) (hB : hs_H D E ad A σ H) {v : Int32} (hkd : kd < 11) (hc : vwCl[kd - 1]? = some (C, T, N)) {k : Nat} (hk : k < N) (hsh : (hs_sh kd)[k]? = some false) (hg : hs_gI σ kd n k = some v) (hlink : va_Nw (.fieldLinkNest own index ref (T k).2.1 (T k).2.2.1 host) s) (hsame : ∀ x, s.fieldFound? (T k).1 (T k).2.1 (T k).2.2.1 = some x → s.fieldFound? ref (T k).2.1 (T k).2.2.1 = some x) (hdg : decode cc pc = .ok (.getfield index, 3))
    (kk : W p l e R s m args below meth c H locs cells slots Q (F0 m (pc + 3) ls (.int v :: rest))) : W p l e R s m args below meth c H locs cells slots Q (F0 m pc ls (.ref (ad n) :: rest)) := by
  obtain ⟨hok, rfl⟩ := hs_si hg
  exact hs_getIN hx hb hts hin hown hK hB hok hkd hc k hk hsh hlink hsame hdg kk
theorem x_getRnN (hx : p.tables.exec = Jvm.exec) (hb : c.code = cc) (hts : ∀ w ∈ Ts, w.before args s = true) (hin : ∀ w ∈ u_ws C T N, w ∈ Ts) (hown : s.vm.findClass own = some m.cls) (hK : va_K D vwCl (hs_ty E) s) (hB : hs_H D E ad A σ H) (hkd : kd < 11) (hc : vwCl[kd - 1]? = some (C, T, N)) {k : Nat} (hk : k < N) (hsh : (hs_sh kd)[k]? = some true) (hg : hs_gR σ kd n k = some none) (hlink : va_Nw (.fieldLinkNest own index ref (T k).2.1 (T k).2.2.1 host) s) (hsame : ∀ x, s.fieldFound? (T k).1 (T k).2.1 (T k).2.2.1 = some x → s.fieldFound? ref (T k).2.1 (T k).2.2.1 = some x) (hdg : decode cc pc = .ok (.getfield index, 3))
    (kk : W p l e R s m args below meth c H locs cells slots Q (F0 m (pc + 3) ls (.null :: rest))) : W p l e R s m args below meth c H locs cells slots Q (F0 m pc ls (.ref (ad n) :: rest)) := by
  obtain ⟨hok, hr⟩ := hs_si hg
  exact hs_getRN hx hb hts hin hown hK hB hok hkd hc k hk hsh hlink hsame hr hdg kk
theorem x_getRsN (hx : p.tables.exec = Jvm.exec) (hb : c.code = cc) (hts : ∀ w ∈ Ts, w.before args s = true) (hin : ∀ w ∈ u_ws C T N, w ∈ Ts) (hown : s.vm.findClass own = some m.cls) (hK : va_K D vwCl (hs_ty E) s) (hB : hs_H D E ad A σ H) {q : Nat} (hkd : kd < 11) (hc : vwCl[kd - 1]? = some (C, T, N)) {k : Nat} (hk : k < N) (hsh : (hs_sh kd)[k]? = some true) (hg : hs_gR σ kd n k = some (some q)) (hlink : va_Nw (.fieldLinkNest own index ref (T k).2.1 (T k).2.2.1 host) s) (hsame : ∀ x, s.fieldFound? (T k).1 (T k).2.1 (T k).2.2.1 = some x → s.fieldFound? ref (T k).2.1 (T k).2.2.1 = some x) (hdg : decode cc pc = .ok (.getfield index, 3))
    (kk : W p l e R s m args below meth c H locs cells slots Q (F0 m (pc + 3) ls (.ref (ad q) :: rest))) : W p l e R s m args below meth c H locs cells slots Q (F0 m pc ls (.ref (ad n) :: rest)) := by
  obtain ⟨hok, hr⟩ := hs_si hg
  exact hs_getRN hx hb hts hin hown hK hB hok hkd hc k hk hsh hlink hsame hr hdg kk
theorem x_getNN (hx : p.tables.exec = Jvm.exec) (hb : c.code = cc) (hts : ∀ w ∈ Ts, w.before args s = true) (hin : ∀ w ∈ u_ws C T N, w ∈ Ts) (hown : s.vm.findClass own = some m.cls) (hK : va_K D vwCl (hs_ty E) s) (hB : hs_H D E ad A σ H) {q : Nat} (hkd : kd < 11) (hc : vwCl[kd - 1]? = some (C, T, N)) {k : Nat} (hk : k < N) (hsh : (hs_sh kd)[k]? = some true) (hg : hs_gN σ kd n k = some q) (hlink : va_Nw (.fieldLinkNest own index ref (T k).2.1 (T k).2.2.1 host) s) (hsame : ∀ x, s.fieldFound? (T k).1 (T k).2.1 (T k).2.2.1 = some x → s.fieldFound? ref (T k).2.1 (T k).2.2.1 = some x) (hdg : decode cc pc = .ok (.getfield index, 3))
    (kk : W p l e R s m args below meth c H locs cells slots Q (F0 m (pc + 3) ls (.ref (ad q) :: rest))) : W p l e R s m args below meth c H locs cells slots Q (F0 m pc ls (.ref (ad n) :: rest)) := by
  obtain ⟨hok, hr⟩ := hs_gN_i hg
  exact hs_getRN hx hb hts hin hown hK hB hok hkd hc k hk hsh hlink hsame hr hdg kk
theorem x_putI (hx : p.tables.exec = Jvm.exec) (hb : c.code = cc) (hts : ∀ w ∈ Ts, w.before args s = true) (hin : ∀ w ∈ u_ws C T N, w ∈ Ts) (hty : ∀ k, k < N → parseFieldDescriptor (T k).2.2.1 = some (ty0 k)) (hnm : ∀ a, a < N → ∀ b, b < N → a ≠ b → (T a).2.1 ≠ (T b).2.1) (hown : s.vm.findClass own = some m.cls) (hK : va_K D vwCl (hs_ty E) s) (hB : hs_H D E ad A σ H) (hS : va_S A H0 H locs) {v : Int32} (hkd : kd < 11) (hc : vwCl[kd - 1]? = some (C, T, N)) {k : Nat} (hk : k < N) (hsh : (hs_sh kd)[k]? = some false) (hg : hs_pI σ kd n k v = some σ') (hlink : (Cond.fieldLink own index ref (T k).2.1 (T k).2.2.1).before args s = true) (hsame : ∀ x, s.fieldFound? (T k).1 (T k).2.1 (T k).2.2.1 = some x → s.fieldFound? ref (T k).2.1 (T k).2.2.1 = some x) (hfin : (T k).2.2.2 = false) (hd : parseFieldDescriptor (T k).2.2.1 = some .int) (hdg : decode cc pc = .ok (.putfield index, 3))
    (kk : ∀ (H1 : Heap) (locs1 : List Loc), hs_H D E ad A σ' H1 → va_S A H0 H1 locs1 → W p l e R s m args below meth c H1 locs1 cells slots Q (F0 m (pc + 3) ls rest)) : W p l e R s m args below meth c H locs cells slots Q (F0 m pc ls (.int v :: .ref (ad n) :: rest)) := by
  obtain ⟨hok, rfl⟩ := hs_si hg
  exact hs_putI hx hb hts hin hty hnm hown hK hB hS hok hkd hc k hk hsh hlink hsame hfin hd hdg kk
theorem x_putRn (hx : p.tables.exec = Jvm.exec) (hb : c.code = cc) (hts : ∀ w ∈ Ts, w.before args s = true) (hin : ∀ w ∈ u_ws C T N, w ∈ Ts) (hty : ∀ k, k < N → parseFieldDescriptor (T k).2.2.1 = some (ty0 k)) (hnm : ∀ a, a < N → ∀ b, b < N → a ≠ b → (T a).2.1 ≠ (T b).2.1) (hown : s.vm.findClass own = some m.cls) (hK : va_K D vwCl (hs_ty E) s) (hB : hs_H D E ad A σ H) (hS : va_S A H0 H locs) (hkd : kd < 11) (hc : vwCl[kd - 1]? = some (C, T, N)) {k : Nat} (hk : k < N) (hsh : (hs_sh kd)[k]? = some true) (hg : hs_pR σ kd n k none = some σ') (hlink : (Cond.fieldLink own index ref (T k).2.1 (T k).2.2.1).before args s = true) (hsame : ∀ x, s.fieldFound? (T k).1 (T k).2.1 (T k).2.2.1 = some x → s.fieldFound? ref (T k).2.1 (T k).2.2.1 = some x) (hfin : (T k).2.2.2 = false) {ty : FieldType} (hd : parseFieldDescriptor (T k).2.2.1 = some ty) (hn : narrow ty (.null) = .null) (hfit : fits ty (.null) = true) (hdg : decode cc pc = .ok (.putfield index, 3))
    (kk : ∀ (H1 : Heap) (locs1 : List Loc), hs_H D E ad A σ' H1 → va_S A H0 H1 locs1 → W p l e R s m args below meth c H1 locs1 cells slots Q (F0 m (pc + 3) ls rest)) : W p l e R s m args below meth c H locs cells slots Q (F0 m pc ls (.null :: .ref (ad n) :: rest)) := by
  obtain ⟨hok, rfl⟩ := hs_si hg
  exact hs_putR hx hb hts hin hty hnm hown hK hB hS hok.1 hkd hc k hk hsh hlink hsame hfin hd none (hs_lvr_i hok.2) rfl hn hfit hdg kk
theorem x_putRs (hx : p.tables.exec = Jvm.exec) (hb : c.code = cc) (hts : ∀ w ∈ Ts, w.before args s = true) (hin : ∀ w ∈ u_ws C T N, w ∈ Ts) (hty : ∀ k, k < N → parseFieldDescriptor (T k).2.2.1 = some (ty0 k)) (hnm : ∀ a, a < N → ∀ b, b < N → a ≠ b → (T a).2.1 ≠ (T b).2.1) (hown : s.vm.findClass own = some m.cls) (hK : va_K D vwCl (hs_ty E) s) (hB : hs_H D E ad A σ H) (hS : va_S A H0 H locs) {q : Nat} (hkd : kd < 11) (hc : vwCl[kd - 1]? = some (C, T, N)) {k : Nat} (hk : k < N) (hsh : (hs_sh kd)[k]? = some true) (hg : hs_pR σ kd n k (some q) = some σ') (hlink : (Cond.fieldLink own index ref (T k).2.1 (T k).2.2.1).before args s = true) (hsame : ∀ x, s.fieldFound? (T k).1 (T k).2.1 (T k).2.2.1 = some x → s.fieldFound? ref (T k).2.1 (T k).2.2.1 = some x) (hfin : (T k).2.2.2 = false) {ty : FieldType} (hd : parseFieldDescriptor (T k).2.2.1 = some ty) (hn : narrow ty (.ref (ad q)) = .ref (ad q)) (hfit : fits ty (.ref (ad q)) = true) (hdg : decode cc pc = .ok (.putfield index, 3))
    (kk : ∀ (H1 : Heap) (locs1 : List Loc), hs_H D E ad A σ' H1 → va_S A H0 H1 locs1 → W p l e R s m args below meth c H1 locs1 cells slots Q (F0 m (pc + 3) ls rest)) : W p l e R s m args below meth c H locs cells slots Q (F0 m pc ls (.ref (ad q) :: .ref (ad n) :: rest)) := by
  obtain ⟨hok, rfl⟩ := hs_si hg
  exact hs_putR hx hb hts hin hty hnm hown hK hB hS hok.1 hkd hc k hk hsh hlink hsame hfin hd (some q) (hs_lvr_i hok.2) rfl hn hfit hdg kk
theorem x_putIN (hx : p.tables.exec = Jvm.exec) (hb : c.code = cc) (hts : ∀ w ∈ Ts, w.before args s = true) (hin : ∀ w ∈ u_ws C T N, w ∈ Ts) (hty : ∀ k, k < N → parseFieldDescriptor (T k).2.2.1 = some (ty0 k)) (hnm : ∀ a, a < N → ∀ b, b < N → a ≠ b → (T a).2.1 ≠ (T b).2.1) (hown : s.vm.findClass own = some m.cls) (hK : va_K D vwCl (hs_ty E) s) (hB : hs_H D E ad A σ H) (hS : va_S A H0 H locs) {v : Int32} (hkd : kd < 11) (hc : vwCl[kd - 1]? = some (C, T, N)) {k : Nat} (hk : k < N) (hsh : (hs_sh kd)[k]? = some false) (hg : hs_pI σ kd n k v = some σ') (hlink : va_Nw (.fieldLinkNest own index ref (T k).2.1 (T k).2.2.1 host) s) (hsame : ∀ x, s.fieldFound? (T k).1 (T k).2.1 (T k).2.2.1 = some x → s.fieldFound? ref (T k).2.1 (T k).2.2.1 = some x) (hfin : (T k).2.2.2 = false) (hd : parseFieldDescriptor (T k).2.2.1 = some .int) (hdg : decode cc pc = .ok (.putfield index, 3))
    (kk : ∀ (H1 : Heap) (locs1 : List Loc), hs_H D E ad A σ' H1 → va_S A H0 H1 locs1 → W p l e R s m args below meth c H1 locs1 cells slots Q (F0 m (pc + 3) ls rest)) : W p l e R s m args below meth c H locs cells slots Q (F0 m pc ls (.int v :: .ref (ad n) :: rest)) := by
  obtain ⟨hok, rfl⟩ := hs_si hg
  exact hs_putIN hx hb hts hin hty hnm hown hK hB hS hok hkd hc k hk hsh hlink hsame hfin hd hdg kk
theorem x_putRnN (hx : p.tables.exec = Jvm.exec) (hb : c.code = cc) (hts : ∀ w ∈ Ts, w.before args s = true) (hin : ∀ w ∈ u_ws C T N, w ∈ Ts) (hty : ∀ k, k < N → parseFieldDescriptor (T k).2.2.1 = some (ty0 k)) (hnm : ∀ a, a < N → ∀ b, b < N → a ≠ b → (T a).2.1 ≠ (T b).2.1) (hown : s.vm.findClass own = some m.cls) (hK : va_K D vwCl (hs_ty E) s) (hB : hs_H D E ad A σ H) (hS : va_S A H0 H locs) (hkd : kd < 11) (hc : vwCl[kd - 1]? = some (C, T, N)) {k : Nat} (hk : k < N) (hsh : (hs_sh kd)[k]? = some true) (hg : hs_pR σ kd n k none = some σ') (hlink : va_Nw (.fieldLinkNest own index ref (T k).2.1 (T k).2.2.1 host) s) (hsame : ∀ x, s.fieldFound? (T k).1 (T k).2.1 (T k).2.2.1 = some x → s.fieldFound? ref (T k).2.1 (T k).2.2.1 = some x) (hfin : (T k).2.2.2 = false) {ty : FieldType} (hd : parseFieldDescriptor (T k).2.2.1 = some ty) (hn : narrow ty (.null) = .null) (hfit : fits ty (.null) = true) (hdg : decode cc pc = .ok (.putfield index, 3))
    (kk : ∀ (H1 : Heap) (locs1 : List Loc), hs_H D E ad A σ' H1 → va_S A H0 H1 locs1 → W p l e R s m args below meth c H1 locs1 cells slots Q (F0 m (pc + 3) ls rest)) : W p l e R s m args below meth c H locs cells slots Q (F0 m pc ls (.null :: .ref (ad n) :: rest)) := by
  obtain ⟨hok, rfl⟩ := hs_si hg
  exact hs_putRN hx hb hts hin hty hnm hown hK hB hS hok.1 hkd hc k hk hsh hlink hsame hfin hd none (hs_lvr_i hok.2) rfl hn hfit hdg kk
theorem x_putRsN (hx : p.tables.exec = Jvm.exec) (hb : c.code = cc) (hts : ∀ w ∈ Ts, w.before args s = true) (hin : ∀ w ∈ u_ws C T N, w ∈ Ts) (hty : ∀ k, k < N → parseFieldDescriptor (T k).2.2.1 = some (ty0 k)) (hnm : ∀ a, a < N → ∀ b, b < N → a ≠ b → (T a).2.1 ≠ (T b).2.1) (hown : s.vm.findClass own = some m.cls) (hK : va_K D vwCl (hs_ty E) s) (hB : hs_H D E ad A σ H) (hS : va_S A H0 H locs) {q : Nat} (hkd : kd < 11) (hc : vwCl[kd - 1]? = some (C, T, N)) {k : Nat} (hk : k < N) (hsh : (hs_sh kd)[k]? = some true) (hg : hs_pR σ kd n k (some q) = some σ') (hlink : va_Nw (.fieldLinkNest own index ref (T k).2.1 (T k).2.2.1 host) s) (hsame : ∀ x, s.fieldFound? (T k).1 (T k).2.1 (T k).2.2.1 = some x → s.fieldFound? ref (T k).2.1 (T k).2.2.1 = some x) (hfin : (T k).2.2.2 = false) {ty : FieldType} (hd : parseFieldDescriptor (T k).2.2.1 = some ty) (hn : narrow ty (.ref (ad q)) = .ref (ad q)) (hfit : fits ty (.ref (ad q)) = true) (hdg : decode cc pc = .ok (.putfield index, 3))
    (kk : ∀ (H1 : Heap) (locs1 : List Loc), hs_H D E ad A σ' H1 → va_S A H0 H1 locs1 → W p l e R s m args below meth c H1 locs1 cells slots Q (F0 m (pc + 3) ls rest)) : W p l e R s m args below meth c H locs cells slots Q (F0 m pc ls (.ref (ad q) :: .ref (ad n) :: rest)) := by
  obtain ⟨hok, rfl⟩ := hs_si hg
  exact hs_putRN hx hb hts hin hty hnm hown hK hB hS hok.1 hkd hc k hk hsh hlink hsame hfin hd (some q) (hs_lvr_i hok.2) rfl hn hfit hdg kk
theorem x_putIF (hx : p.tables.exec = Jvm.exec) (hb : c.code = cc) (hts : ∀ w ∈ Ts, w.before args s = true) (hin : ∀ w ∈ u_ws C T N, w ∈ Ts) (hty : ∀ k, k < N → parseFieldDescriptor (T k).2.2.1 = some (ty0 k)) (hnm : ∀ a, a < N → ∀ b, b < N → a ≠ b → (T a).2.1 ≠ (T b).2.1) (hown : s.vm.findClass own = some m.cls) (hK : va_K D vwCl (hs_ty E) s) (hB : hs_H D E ad A σ H) (hS : va_S A H0 H locs) {v : Int32} (hkd : kd < 11) (hc : vwCl[kd - 1]? = some (C, T, N)) {k : Nat} (hk : k < N) (hsh : (hs_sh kd)[k]? = some false) (hg : hs_pI σ kd n k v = some σ') (hlink : (Cond.fieldLink own index ref (T k).2.1 (T k).2.2.1).before args s = true) (hsame : ∀ x, s.fieldFound? (T k).1 (T k).2.1 (T k).2.2.1 = some x → s.fieldFound? ref (T k).2.1 (T k).2.2.1 = some x) (hfin : (T k).2.2.2 = true) (hin2 : meth.name = "<init>") (hdecl : (T k).1 = own) (hd : parseFieldDescriptor (T k).2.2.1 = some .int) (hdg : decode cc pc = .ok (.putfield index, 3))
    (kk : ∀ (H1 : Heap) (locs1 : List Loc), hs_H D E ad A σ' H1 → va_S A H0 H1 locs1 → W p l e R s m args below meth c H1 locs1 cells slots Q (F0 m (pc + 3) ls rest)) : W p l e R s m args below meth c H locs cells slots Q (F0 m pc ls (.int v :: .ref (ad n) :: rest)) := by
  obtain ⟨hok, rfl⟩ := hs_si hg
  exact hs_putIF hx hb hts hin hty hnm hown hK hB hS hok hkd hc k hk hsh hlink hsame hfin hin2 hdecl hd hdg kk
theorem x_putRnF (hx : p.tables.exec = Jvm.exec) (hb : c.code = cc) (hts : ∀ w ∈ Ts, w.before args s = true) (hin : ∀ w ∈ u_ws C T N, w ∈ Ts) (hty : ∀ k, k < N → parseFieldDescriptor (T k).2.2.1 = some (ty0 k)) (hnm : ∀ a, a < N → ∀ b, b < N → a ≠ b → (T a).2.1 ≠ (T b).2.1) (hown : s.vm.findClass own = some m.cls) (hK : va_K D vwCl (hs_ty E) s) (hB : hs_H D E ad A σ H) (hS : va_S A H0 H locs) (hkd : kd < 11) (hc : vwCl[kd - 1]? = some (C, T, N)) {k : Nat} (hk : k < N) (hsh : (hs_sh kd)[k]? = some true) (hg : hs_pR σ kd n k none = some σ') (hlink : (Cond.fieldLink own index ref (T k).2.1 (T k).2.2.1).before args s = true) (hsame : ∀ x, s.fieldFound? (T k).1 (T k).2.1 (T k).2.2.1 = some x → s.fieldFound? ref (T k).2.1 (T k).2.2.1 = some x) (hfin : (T k).2.2.2 = true) (hin2 : meth.name = "<init>") (hdecl : (T k).1 = own) {ty : FieldType} (hd : parseFieldDescriptor (T k).2.2.1 = some ty) (hn : narrow ty (.null) = .null) (hfit : fits ty (.null) = true) (hdg : decode cc pc = .ok (.putfield index, 3))
    (kk : ∀ (H1 : Heap) (locs1 : List Loc), hs_H D E ad A σ' H1 → va_S A H0 H1 locs1 → W p l e R s m args below meth c H1 locs1 cells slots Q (F0 m (pc + 3) ls rest)) : W p l e R s m args below meth c H locs cells slots Q (F0 m pc ls (.null :: .ref (ad n) :: rest)) := by
  obtain ⟨hok, rfl⟩ := hs_si hg
  exact hs_putRF hx hb hts hin hty hnm hown hK hB hS hok.1 hkd hc k hk hsh hlink hsame hfin hin2 hdecl hd none (hs_lvr_i hok.2) rfl hn hfit hdg kk
theorem x_putRsF (hx : p.tables.exec = Jvm.exec) (hb : c.code = cc) (hts : ∀ w ∈ Ts, w.before args s = true) (hin : ∀ w ∈ u_ws C T N, w ∈ Ts) (hty : ∀ k, k < N → parseFieldDescriptor (T k).2.2.1 = some (ty0 k)) (hnm : ∀ a, a < N → ∀ b, b < N → a ≠ b → (T a).2.1 ≠ (T b).2.1) (hown : s.vm.findClass own = some m.cls) (hK : va_K D vwCl (hs_ty E) s) (hB : hs_H D E ad A σ H) (hS : va_S A H0 H locs) {q : Nat} (hkd : kd < 11) (hc : vwCl[kd - 1]? = some (C, T, N)) {k : Nat} (hk : k < N) (hsh : (hs_sh kd)[k]? = some true) (hg : hs_pR σ kd n k (some q) = some σ') (hlink : (Cond.fieldLink own index ref (T k).2.1 (T k).2.2.1).before args s = true) (hsame : ∀ x, s.fieldFound? (T k).1 (T k).2.1 (T k).2.2.1 = some x → s.fieldFound? ref (T k).2.1 (T k).2.2.1 = some x) (hfin : (T k).2.2.2 = true) (hin2 : meth.name = "<init>") (hdecl : (T k).1 = own) {ty : FieldType} (hd : parseFieldDescriptor (T k).2.2.1 = some ty) (hn : narrow ty (.ref (ad q)) = .ref (ad q)) (hfit : fits ty (.ref (ad q)) = true) (hdg : decode cc pc = .ok (.putfield index, 3))
    (kk : ∀ (H1 : Heap) (locs1 : List Loc), hs_H D E ad A σ' H1 → va_S A H0 H1 locs1 → W p l e R s m args below meth c H1 locs1 cells slots Q (F0 m (pc + 3) ls rest)) : W p l e R s m args below meth c H locs cells slots Q (F0 m pc ls (.ref (ad q) :: .ref (ad n) :: rest)) := by
  obtain ⟨hok, rfl⟩ := hs_si hg
  exact hs_putRF hx hb hts hin hty hnm hown hK hB hS hok.1 hkd hc k hk hsh hlink hsame hfin hin2 hdecl hd (some q) (hs_lvr_i hok.2) rfl hn hfit hdg kk
theorem x_iald (hx : p.tables.exec = Jvm.exec) (hb : c.code = cc) (hK : va_K D vwCl (hs_ty E) s) (hB : hs_H D E ad A σ H) {i v : Int32} (hg : hs_ld σ 11 n i = some v) (hdg : decode cc pc = .ok (.iaload, 1))
    (kk : W p l e R s m args below meth c H locs cells slots Q (F0 m (pc + 1) ls (.int v :: rest))) : W p l e R s m args below meth c H locs cells slots Q (F0 m pc ls (.int i :: .ref (ad n) :: rest)) := by
  obtain ⟨hok, rfl⟩ := hs_si hg
  exact hs_iald hx hb hK hB hok.1 hok.2 hdg kk
theorem x_zald (hx : p.tables.exec = Jvm.exec) (hb : c.code = cc) (hK : va_K D vwCl (hs_ty E) s) (hB : hs_H D E ad A σ H) {i v : Int32} (hg : hs_ld σ 12 n i = some v) (hdg : decode cc pc = .ok (.baload, 1))
    (kk : W p l e R s m args below meth c H locs cells slots Q (F0 m (pc + 1) ls (.int v :: rest))) : W p l e R s m args below meth c H locs cells slots Q (F0 m pc ls (.int i :: .ref (ad n) :: rest)) := by
  obtain ⟨hok, rfl⟩ := hs_si hg
  exact hs_zald hx hb hK hB hok.1 hok.2 hdg kk
theorem x_aald (hx : p.tables.exec = Jvm.exec) (hb : c.code = cc) (hK : va_K D vwCl (hs_ty E) s) (hB : hs_H D E ad A σ H) {i : Int32} {r : Option Nat} (hg : hs_la σ n i = some r) (hdg : decode cc pc = .ok (.aaload, 1))
    (kk : W p l e R s m args below meth c H locs cells slots Q (F0 m (pc + 1) ls (va_rf (r.map ad) :: rest))) : W p l e R s m args below meth c H locs cells slots Q (F0 m pc ls (.int i :: .ref (ad n) :: rest)) := by
  obtain ⟨hok, rfl⟩ := hs_si hg
  exact hs_aald hx hb hK hB hok.1 hok.2 hdg kk
theorem x_iast (hx : p.tables.exec = Jvm.exec) (hb : c.code = cc) (hK : va_K D vwCl (hs_ty E) s) (hB : hs_H D E ad A σ H) (hS : va_S A H0 H locs) {i v : Int32} (hg : hs_st σ 11 n i v = some σ') (hdg : decode cc pc = .ok (.iastore, 1))
    (kk : ∀ (H1 : Heap) (locs1 : List Loc), hs_H D E ad A σ' H1 → va_S A H0 H1 locs1 → W p l e R s m args below meth c H1 locs1 cells slots Q (F0 m (pc + 1) ls rest)) : W p l e R s m args below meth c H locs cells slots Q (F0 m pc ls (.int v :: .int i :: .ref (ad n) :: rest)) := by
  obtain ⟨hok, rfl⟩ := hs_si hg
  exact hs_iast hx hb hK hB hS hok.1 hok.2 hdg kk
theorem x_zast (hx : p.tables.exec = Jvm.exec) (hb : c.code = cc) (hK : va_K D vwCl (hs_ty E) s) (hB : hs_H D E ad A σ H) (hS : va_S A H0 H locs) {i v : Int32} (hg : hs_st σ 12 n i (v &&& 1) = some σ') (hdg : decode cc pc = .ok (.bastore, 1))
    (kk : ∀ (H1 : Heap) (locs1 : List Loc), hs_H D E ad A σ' H1 → va_S A H0 H1 locs1 → W p l e R s m args below meth c H1 locs1 cells slots Q (F0 m (pc + 1) ls rest)) : W p l e R s m args below meth c H locs cells slots Q (F0 m pc ls (.int v :: .int i :: .ref (ad n) :: rest)) := by
  obtain ⟨hok, rfl⟩ := hs_si hg
  exact hs_zast hx hb hK hB hS hok.1 hok.2 hdg kk
theorem x_alen (hx : p.tables.exec = Jvm.exec) (hb : c.code = cc) (hK : va_K D vwCl (hs_ty E) s) (hB : hs_H D E ad A σ H) {v : Int32} (hg : hs_ln σ n = some v) (hdg : decode cc pc = .ok (.arraylength, 1))
    (kk : W p l e R s m args below meth c H locs cells slots Q (F0 m (pc + 1) ls (.int v :: rest))) : W p l e R s m args below meth c H locs cells slots Q (F0 m pc ls (.ref (ad n) :: rest)) := by
  obtain ⟨hok, rfl⟩ := hs_si hg
  exact hs_alen hx hb hK hB hok hdg kk
theorem x_tld (hx : p.tables.exec = Jvm.exec) (hb : c.code = cc) {t n0 M : Nat} {f : Nat → Int32} {nm : String} (hZ : hs_Z1 t n0 M f nm s s.heap) (hA0 : ∀ q, A q → n0 ≤ q) (hS : va_S A s.heap H locs) {i v : Int32} (hg : hs_tb M f i = some v) (hdg : decode cc pc = .ok (.iaload, 1))
    (kk : W p l e R s m args below meth c H locs cells slots Q (F0 m (pc + 1) ls (.int v :: rest))) : W p l e R s m args below meth c H locs cells slots Q (F0 m pc ls (.int i :: .ref t :: rest)) := by
  obtain ⟨hok, rfl⟩ := hs_si hg
  exact hs_tld hx hb hZ hA0 hS hok hdg kk
theorem x_copy (hx : p.tables.exec = Jvm.exec) (hb : c.code = cc) (hml : c.maxLocals = ls.size) (hown : s.vm.findClass own = some m.cls) (hlink : (Cond.methodLink own index arraycopyName).before args s = true) (hnat : (Cond.native arraycopyName).before args s = true) (hstat : (Cond.static arraycopyName).before args s = true) (hini : (Cond.initialized "java/lang/System").before args s = true)
    (hK : va_K D vwCl (hs_ty E) s) (hB : hs_H D E ad A σ H) (hS : va_S A H0 H locs) {n0 n1 : Nat} {sp dp k : Int32} (hg : hs_cp σ n0 sp n1 dp k = some σ')
    (hframes : 1 ≤ R.frames) (hlocals : (rest.map fun v => v.category).sum + (nativeFrameWords "java/lang/System" "arraycopy" 5 + 11) ≤ R.locals) (hdg : decode cc pc = .ok (.invokestatic index, 3))
    (kk : ∀ (H1 : Heap) (locs1 : List Loc), hs_H D E ad A σ' H1 → va_S A H0 H1 locs1 → W p l e R s m args below meth c H1 locs1 cells slots Q (F0 m (pc + 3) ls rest)) : W p l e R s m args below meth c H locs cells slots Q (F0 m pc ls (.int k :: .int dp :: .ref (ad n1) :: .int sp :: .ref (ad n0) :: rest)) := by
  obtain ⟨⟨h0, h1, h2, h3, h4, h5, h6⟩, rfl⟩ := hs_si hg
  exact hs_copy hx hb hml hown hlink hnat hstat hini hK hB hS h0 h1 h2 h3 h4 h5 h6 hframes hlocals hdg kk
theorem x_cast (hx : p.tables.exec = Jvm.exec) (hb : c.code = cc) (hown : s.vm.findClass own = some m.cls) (hlink : (Cond.classLink own index C).before args s = true) (hK : va_K D vwCl (hs_ty E) s) (hB : hs_H D E ad A σ H) (hok : hs_ok σ kd n) (hkd : kd < 11) (hc : vwCl[kd - 1]? = some (C, T, N)) (hdg : decode cc pc = .ok (.checkcast index, 3))
    (kk : W p l e R s m args below meth c H locs cells slots Q (F0 m (pc + 3) ls (.ref (ad n) :: rest))) : W p l e R s m args below meth c H locs cells slots Q (F0 m pc ls (.ref (ad n) :: rest)) :=
  va_castS hx hb hown hlink (hK.1 (kd - 1) (C, T, N) hc).2 (hs_recv hK hB hok hkd hc) hdg kk
end XRows
end
section
/-! Cells that are made -/
def hs_z2 {α : Type} (f : Nat → Nat → α) (n : Nat) (v : α) : Nat → Nat → α := fun k n' => if n' = n then v else f k n'
def hs_z1 {α : Type} (f : Nat → Nat → α) (n : Nat) (v : α) : Nat → Nat → α := fun n' i => if n' = n then v else f n' i
def hs_mkO (σ : hs_T) (kd : Nat) : hs_T := ((hs_N σ + 1, va_up (hs_K σ) (hs_N σ) kd, hs_L σ), hs_z2 (hs_F σ) (hs_N σ) 0, hs_z2 (hs_G σ) (hs_N σ) none, hs_R σ, hs_O σ)
def hs_mkA (σ : hs_T) (kd len : Nat) : hs_T := ((hs_N σ + 1, va_up (hs_K σ) (hs_N σ) kd, va_up (hs_L σ) (hs_N σ) len), hs_F σ, hs_G σ, hs_z1 (hs_R σ) (hs_N σ) 0, hs_z1 (hs_O σ) (hs_N σ) none)
def hs_nO (σ : hs_T) (kd : Nat) : Option hs_T := if hs_N σ < 1000000000 then some (hs_mkO σ kd) else none
/-- a row of n places, at most 65536 -/
def hs_nA (σ : hs_T) (kd : Nat) (n : Int32) (mx : Nat) : Option hs_T := if hs_N σ < 1000000000 ∧ ¬ n < 0 ∧ n.toNatClampNeg ≤ mx then some (hs_mkA σ kd n.toNatClampNeg) else none
def hs_lv (σ : hs_T) (L : List Nat) : Option Unit := if L.all (fun n => decide (n < hs_N σ)) = true then some () else none
def hs_le (a b : Nat) : Option Unit := if a ≤ b then some () else none
theorem hs_le_i {a b : Nat} {u : Unit} (h : hs_le a b = some u) : a ≤ b := (hs_si h).1
theorem hs_lv_i {σ : hs_T} {L : List Nat} {u : Unit} (h : hs_lv σ L = some u) : ∀ n ∈ L, n < hs_N σ := fun n hn => of_decide_eq_true (List.all_eq_true.mp (hs_si h).1 n hn)
theorem hs_mapag {ad ad' : Nat → Nat} {r : Option Nat} (h : ∀ m, r = some m → ad' m = ad m) : r.map ad' = r.map ad := by
  cases r with
  | none => rfl
  | some m => exact congrArg some (h m rfl)
def hs_Ag (N : Nat) (ad' ad : Nat → Nat) : Prop := ∀ n, n < N ∨ n = hs_em → ad' n = ad n
theorem hs_agt {N0 N : Nat} {a0 a1 a2 : Nat → Nat} (h : hs_Ag N0 a1 a0) (hN : N0 ≤ N) (h2 : hs_Ag N a2 a1) : hs_Ag N0 a2 a0 := fun n hn => (h2 n (hn.imp (fun z => Nat.lt_of_lt_of_le z hN) id)).trans (h n hn)
theorem hs_e_ag {E : hs_E} {ad ad' : Nat → Nat} {σ σ' : hs_T} {n : Nat} (hw : hs_wf σ) (ha : hs_Ag (hs_N σ) ad' ad) (hK : hs_K σ' n = hs_K σ n) (hL : hs_L σ' n = hs_L σ n) (hF : ∀ k, hs_F σ' k n = hs_F σ k n) (hG : ∀ k, hs_G σ' k n = hs_G σ k n) (hR : hs_R σ' n = hs_R σ n) (hO : hs_O σ' n = hs_O σ n) : hs_e E ad' σ' n = hs_e E ad σ n := by
  have e1 : ∀ k, (hs_G σ k n).map ad' = (hs_G σ k n).map ad := fun k => hs_mapag (fun m hm => ha m (hw.1 k n m hm))
  have e2 : ∀ i, (hs_O σ n i).map ad' = (hs_O σ n i).map ad := fun i => hs_mapag (fun m hm => ha m (hw.2 n i m hm))
  unfold hs_e hs_fs hs_v
  simp only [hK, hL, hF, hG, hR, hO, e1, e2]
theorem hs_ag_up {ad : Nat → Nat} {N q : Nat} (hN : N < 1000000000) : hs_Ag N (va_up ad N q) ad := by
  intro n hn
  unfold va_up
  rw [if_neg]
  rcases hn with h | h
  · omega
  · rw [h]; unfold hs_em; omega
theorem hs_up_at {α : Type} {f : Nat → α} {k : Nat} {v : α} : va_up f k v k = v := if_pos rfl
theorem hs_up_no {α : Type} {f : Nat → α} {k j : Nat} {v : α} (h : j ≠ k) : va_up f k v j = f j := if_neg h
theorem hs_ws_mkO {E : hs_E} {ad : Nat → Nat} {σ : hs_T} {kd q : Nat} {fs : List Value} (hw : hs_wf σ) (hN : hs_N σ < 1000000000) (hkd : kd < 11) (hfs : hs_fs (va_up ad (hs_N σ) q) (hs_mkO σ kd) kd (hs_N σ) = fs) : hs_ws E (va_up ad (hs_N σ) q) (hs_mkO σ kd) = hs_ws E ad σ ++ [(q, .inr (kd - 1, fs))] := by
  have hn : hs_N (hs_mkO σ kd) = hs_N σ + 1 := rfl
  unfold hs_ws
  rw [hn, List.range_succ, List.map_append]
  congr 1
  · apply List.map_congr_left
    intro n hn
    have hlt := List.mem_range.mp hn
    have hne : n ≠ hs_N σ := by omega
    rw [hs_up_no hne, hs_e_ag (σ := σ) (σ' := hs_mkO σ kd) hw (hs_ag_up hN) (hs_up_no hne) rfl (fun k => if_neg hne) (fun k => if_neg hne) rfl rfl]
  · rw [List.map_singleton, hs_up_at, hs_e_o (σ := hs_mkO σ kd) (kd := kd) hs_up_at hkd, hfs]
theorem hs_wf_mkO {σ : hs_T} {kd : Nat} (hw : hs_wf σ) : hs_wf (hs_mkO σ kd) := by
  refine ⟨fun k n m hm => ?_, fun n i m hm => ?_⟩
  · by_cases hc : n = hs_N σ
    · have e : hs_G (hs_mkO σ kd) k n = none := if_pos hc
      rw [e] at hm
      cases hm
    · have e : hs_G (hs_mkO σ kd) k n = hs_G σ k n := if_neg hc
      rw [e] at hm
      rcases hw.1 k n m hm with h | h
      · exact Or.inl (Nat.lt_succ_of_lt h)
      · exact Or.inr h
  · rcases hw.2 n i m hm with h | h
    · exact Or.inl (Nat.lt_succ_of_lt h)
    · exact Or.inr h
theorem hs_wf_mkA {σ : hs_T} {kd len : Nat} (hw : hs_wf σ) : hs_wf (hs_mkA σ kd len) := by
  refine ⟨fun k n m hm => ?_, fun n i m hm => ?_⟩
  · rcases hw.1 k n m hm with h | h
    · exact Or.inl (Nat.lt_succ_of_lt h)
    · exact Or.inr h
  · by_cases hc : n = hs_N σ
    · have e : hs_O (hs_mkA σ kd len) n i = none := by
        show hs_z1 (hs_O σ) (hs_N σ) none n i = none
        unfold hs_z1
        rw [if_pos hc]
      rw [e] at hm
      cases hm
    · have e : hs_O (hs_mkA σ kd len) n i = hs_O σ n i := by
        show hs_z1 (hs_O σ) (hs_N σ) none n i = _
        unfold hs_z1
        rw [if_neg hc]
      rw [e] at hm
      rcases hw.2 n i m hm with h | h
      · exact Or.inl (Nat.lt_succ_of_lt h)
      · exact Or.inr h
theorem hs_z1_no {α : Type} {f : Nat → Nat → α} {n j : Nat} {v : α} (h : j ≠ n) : hs_z1 f n v j = f j := by
  funext i
  exact if_neg h
theorem hs_z1_at {α : Type} {f : Nat → Nat → α} {n : Nat} {v : α} : hs_z1 f n v n = fun _ => v := by
  funext i
  exact if_pos rfl
theorem hs_ws_mkA {E : hs_E} {ad : Nat → Nat} {σ : hs_T} {kd len q : Nat} {en : va_E} (hw : hs_wf σ) (hN : hs_N σ < 1000000000) (he : hs_e E (va_up ad (hs_N σ) q) (hs_mkA σ kd len) (hs_N σ) = en) : hs_ws E (va_up ad (hs_N σ) q) (hs_mkA σ kd len) = hs_ws E ad σ ++ [(q, en)] := by
  have hn : hs_N (hs_mkA σ kd len) = hs_N σ + 1 := rfl
  unfold hs_ws
  rw [hn, List.range_succ, List.map_append]
  congr 1
  · apply List.map_congr_left
    intro n hn
    have hlt := List.mem_range.mp hn
    have hne : n ≠ hs_N σ := by omega
    rw [hs_up_no hne, hs_e_ag (σ := σ) (σ' := hs_mkA σ kd len) hw (hs_ag_up hN) (hs_up_no hne) (hs_up_no hne) (fun _ => rfl) (fun _ => rfl) (hs_z1_no hne) (hs_z1_no hne)]
  · rw [List.map_singleton, hs_up_at, he]
section HsMake
variable {p : Program} {l : Launch} {e : Env} {R : Room} {s : State} {m : MethodId} {args : Array Value} {below : List Frame} {meth : Method} {c : Code} {H H0 : Heap} {locs : List Loc} {cells slots : Nat} {Q : State → Prop} {cc : ByteArray} {pc : Nat} {ls : Array Slot} {rest : List Value} {D : va_G} {E : hs_E} {ad : Nat → Nat} {A : Nat → Prop} {σ σ' : hs_T} {X : hs_X}
variable {own ref C host : String} {T : u_T} {N index : Nat} {Ts : List Cond} {kd n : Nat}
theorem hs_new (hx : p.tables.exec = Jvm.exec) (hb : c.code = cc) (hts : ∀ w ∈ Ts, w.before args s = true) (hin : ∀ w ∈ u_ws C T N, w ∈ Ts) {ty0 : Nat → FieldType} (hty : ∀ k, k < N → parseFieldDescriptor (T k).2.2.1 = some (ty0 k)) (hown : s.vm.findClass own = some m.cls) (hcl : (Cond.classLink own index C).before args s = true) (hinst : (Cond.instantiable C N).before args s = true) (hini : (Cond.initialized C).before args s = true)
    (hK : va_K D vwCl (hs_ty E) s) (hB : hs_H D E ad A σ H) (hS : va_S A H0 H locs) (hA : ∀ q, H0.size ≤ q → A q) (hkd : kd < 11) (hc : vwCl[kd - 1]? = some (C, T, N)) (hfs : ∀ (ad' : Nat → Nat) (j : Nat), j < N → defaultValue (ty0 j) = vp_V (hs_fs ad' (hs_mkO σ kd) kd (hs_N σ)) j) (hg : hs_nO σ kd = some σ') (hcells : cells + 1 ≤ R.cells) (hslots : slots + N ≤ R.slots) (hdg : decode cc pc = .ok (.new index, 3))
    (kk : ∀ (ad' : Nat → Nat) (H1 : Heap), hs_Ag (hs_N σ) ad' ad → hs_H D E ad' A σ' H1 → va_S A H0 H1 locs → W p l e R s m args below meth c H1 locs (cells + 1) (slots + N) Q (F0 m (pc + 3) ls (.ref (ad' (hs_N σ)) :: rest))) : W p l e R s m args below meth c H locs cells slots Q (F0 m pc ls rest) := by
  obtain ⟨hN, rfl⟩ := hs_si hg
  refine va_new hx hb hts hin ty0 hty hown hcl hinst hini hK hB.1 hB.2.1 hS hA hc (hfs (fun _ => 0)) hcells hslots hdg (fun q H1 h1 h2 h3 => ?_)
  have e0 : hs_fs (va_up ad (hs_N σ) q) (hs_mkO σ kd) kd (hs_N σ) = hs_fs (fun _ => 0) (hs_mkO σ kd) kd (hs_N σ) := by
    unfold hs_fs hs_v
    have e1 : ∀ k, hs_G (hs_mkO σ kd) k (hs_N σ) = none := fun k => if_pos rfl
    simp only [e1, Option.map_none]
  rw [← hs_ws_mkO (E := E) hB.2.2 hN hkd e0] at h1 h2
  have hk := kk (va_up ad (hs_N σ) q) H1 (hs_ag_up hN) ⟨h1, h2, hs_wf_mkO hB.2.2⟩ h3
  rw [hs_up_at] at hk
  exact hk
theorem hs_newI (hx : p.tables.exec = Jvm.exec) (hb : c.code = cc) (harr : (Cond.arrayClass .int).before args s = true) (hK : va_K D vwCl (hs_ty E) s) (hB : hs_H D E ad A σ H) (hS : va_S A H0 H locs) (hA : ∀ q, H0.size ≤ q → A q) {k : Int32} {mx : Nat} (hmx : mx ≤ 65536) (hg : hs_nA σ 11 k mx = some σ') (hcells : cells + 1 ≤ R.cells) (hslots : slots + mx ≤ R.slots) (hdg : decode cc pc = .ok (.newarray .int, 2))
    (kk : ∀ (ad' : Nat → Nat) (H1 : Heap), hs_Ag (hs_N σ) ad' ad → hs_H D E ad' A σ' H1 → va_S A H0 H1 locs → W p l e R s m args below meth c H1 locs (cells + 1) (slots + mx) Q (F0 m (pc + 2) ls (.ref (ad' (hs_N σ)) :: rest))) : W p l e R s m args below meth c H locs cells slots Q (F0 m pc ls (.int k :: rest)) := by
  obtain ⟨⟨hN, hk0, hkm⟩, rfl⟩ := hs_si hg
  refine va_newa (atype := .int) (ty := .int) (a0 := (k.toNatClampNeg, .inl (fun _ => 0))) hx hb harr rfl hK hB.1 hB.2.1 hS hA (fun cA => rfl) hk0 rfl (by show k.toNatClampNeg * 4 ≤ _; omega) hcells (by omega) hdg (fun q cA H1 h0 h1 h2 h3 => ?_)
  have hcA : cA = E.1 := Option.some.inj ((h0.2 3 _ rfl).2.symm.trans (hK.2 0 _ rfl).2)
  subst hcA
  rw [← hs_ws_mkA (E := E) (kd := 11) hB.2.2 hN (by rw [hs_e_i (σ := hs_mkA σ 11 k.toNatClampNeg) hs_up_at]; show Sum.inl (E.1, va_up (hs_L σ) (hs_N σ) k.toNatClampNeg (hs_N σ), Sum.inl (hs_z1 (hs_R σ) (hs_N σ) 0 (hs_N σ))) = _; rw [hs_up_at, hs_z1_at])] at h1 h2
  have hk := kk (va_up ad (hs_N σ) q) H1 (hs_ag_up hN) ⟨h1, h2, hs_wf_mkA hB.2.2⟩ h3
  rw [hs_up_at] at hk
  exact W.widen (Nat.le_refl _) (Nat.add_le_add_left hkm _) hk
theorem hs_newZ (hx : p.tables.exec = Jvm.exec) (hb : c.code = cc) (harr : (Cond.arrayClass .boolean).before args s = true) (hK : va_K D vwCl (hs_ty E) s) (hB : hs_H D E ad A σ H) (hS : va_S A H0 H locs) (hA : ∀ q, H0.size ≤ q → A q) {k : Int32} {mx : Nat} (hmx : mx ≤ 65536) (hg : hs_nA σ 12 k mx = some σ') (hcells : cells + 1 ≤ R.cells) (hslots : slots + mx ≤ R.slots) (hdg : decode cc pc = .ok (.newarray .boolean, 2))
    (kk : ∀ (ad' : Nat → Nat) (H1 : Heap), hs_Ag (hs_N σ) ad' ad → hs_H D E ad' A σ' H1 → va_S A H0 H1 locs → W p l e R s m args below meth c H1 locs (cells + 1) (slots + mx) Q (F0 m (pc + 2) ls (.ref (ad' (hs_N σ)) :: rest))) : W p l e R s m args below meth c H locs cells slots Q (F0 m pc ls (.int k :: rest)) := by
  obtain ⟨⟨hN, hk0, hkm⟩, rfl⟩ := hs_si hg
  refine va_newa (atype := .boolean) (ty := .boolean) (a0 := (k.toNatClampNeg, .inl (fun _ => 0))) hx hb harr rfl hK hB.1 hB.2.1 hS hA (fun cA => rfl) hk0 rfl (by show k.toNatClampNeg * 1 ≤ _; omega) hcells (by omega) hdg (fun q cA H1 h0 h1 h2 h3 => ?_)
  have hcA : cA = E.2.1 := Option.some.inj ((h0.2 3 _ rfl).2.symm.trans (hK.2 1 _ rfl).2)
  subst hcA
  rw [← hs_ws_mkA (E := E) (kd := 12) hB.2.2 hN (by rw [hs_e_z (σ := hs_mkA σ 12 k.toNatClampNeg) hs_up_at]; show Sum.inl (E.2.1, va_up (hs_L σ) (hs_N σ) k.toNatClampNeg (hs_N σ), Sum.inl (hs_z1 (hs_R σ) (hs_N σ) 0 (hs_N σ))) = _; rw [hs_up_at, hs_z1_at])] at h1 h2
  have hk := kk (va_up ad (hs_N σ) q) H1 (hs_ag_up hN) ⟨h1, h2, hs_wf_mkA hB.2.2⟩ h3
  rw [hs_up_at] at hk
  exact W.widen (Nat.le_refl _) (Nat.add_le_add_left hkm _) hk
theorem hs_iret1 {ad0 : Nat → Nat} {N0 : Nat} (hx : p.tables.exec = Jvm.exec) (hb : c.code = cc) (hr : meth.sig.returnType = some .int) (hlk : meth.locks = false) {r : Int32} (hag : hs_Ag N0 ad ad0) (hB : hs_H X.1 X.2.1 ad A σ H) (hS : va_S A s.heap H locs) (hdg : decode cc pc = .ok (.ireturn, 1)) : W p l e R s m args below meth c H locs cells slots (MQ below (hs_Q1 hs_tvi X ad0 N0 A r σ) args s cells slots A) (F0 m pc ls [.int r]) :=
  W.iret hx hb hr (fun t ht hW => ⟨⟨ad, hag, rfl, by rw [ht]; exact hB⟩, hS.F ht⟩) hS.2.2 hdg hlk
theorem hs_vret1 {ad0 : Nat → Nat} {N0 : Nat} (hx : p.tables.exec = Jvm.exec) (hb : c.code = cc) (hr : meth.sig.returnType = none) (hlk : meth.locks = false) {r : Unit} (hag : hs_Ag N0 ad ad0) (hB : hs_H X.1 X.2.1 ad A σ H) (hS : va_S A s.heap H locs) (hdg : decode cc pc = .ok (.return_, 1)) : W p l e R s m args below meth c H locs cells slots (MQ below (hs_Q1 hs_tvv X ad0 N0 A r σ) args s cells slots A) (F0 m pc ls []) :=
  W.vret hx hb hr (fun t ht hW => ⟨⟨ad, hag, rfl, by rw [ht]; exact hB⟩, hS.F ht⟩) hS.2.2 hdg hlk
theorem hs_zret1 {ad0 : Nat → Nat} {N0 : Nat} (hx : p.tables.exec = Jvm.exec) (hb : c.code = cc) (hr : meth.sig.returnType = some .boolean) (hlk : meth.locks = false) {r : Int32} (hn : r &&& 1 = r) (hag : hs_Ag N0 ad ad0) (hB : hs_H X.1 X.2.1 ad A σ H) (hS : va_S A s.heap H locs) (hdg : decode cc pc = .ok (.ireturn, 1)) : W p l e R s m args below meth c H locs cells slots (MQ below (hs_Q1 hs_tvi X ad0 N0 A r σ) args s cells slots A) (F0 m pc ls [.int r]) :=
  W.zret hx hb hr (congrArg Value.int hn) (fun t ht hW => ⟨⟨ad, hag, rfl, by rw [ht]; exact hB⟩, hS.F ht⟩) hS.2.2 hdg hlk
theorem hs_aret1 {ad0 : Nat → Nat} {N0 : Nat} (hx : p.tables.exec = Jvm.exec) (hb : c.code = cc) {rt : FieldType} (hr : meth.sig.returnType = some rt) (hrt : (∃ n, rt = .object n) ∨ ∃ t, rt = .array t) (hlk : meth.locks = false) (r : Option Nat) {v : Value} (hv : v = va_rf (r.map ad)) (hag : hs_Ag N0 ad ad0) (hB : hs_H X.1 X.2.1 ad A σ H) (hS : va_S A s.heap H locs) (hdg : decode cc pc = .ok (.areturn, 1)) : W p l e R s m args below meth c H locs cells slots (MQ below (hs_Q1 hs_tvr X ad0 N0 A r σ) args s cells slots A) (F0 m pc ls [v]) := by
  subst hv
  refine W.aret hx hb hr hrt ?_ (fun t ht hW => ⟨⟨ad, hag, rfl, by rw [ht]; exact hB⟩, hS.F ht⟩) hS.2.2 hdg hlk
  cases r with
  | none => exact Or.inl rfl
  | some n => exact Or.inr ⟨_, rfl⟩
end HsMake
theorem hs_pI_N {σ σ' : hs_T} {kd n k : Nat} {v : Int32} (h : hs_pI σ kd n k v = some σ') : hs_N σ' = hs_N σ := by
  obtain ⟨-, rfl⟩ := hs_si h
  rfl
theorem hs_pR_N {σ σ' : hs_T} {kd n k : Nat} {v : Option Nat} (h : hs_pR σ kd n k v = some σ') : hs_N σ' = hs_N σ := by
  obtain ⟨-, rfl⟩ := hs_si h
  rfl
theorem hs_st_N {σ σ' : hs_T} {kd n : Nat} {i v : Int32} (h : hs_st σ kd n i v = some σ') : hs_N σ' = hs_N σ := by
  obtain ⟨-, rfl⟩ := hs_si h
  rfl
theorem hs_cp_N {σ σ' : hs_T} {n0 n1 : Nat} {sp dp n : Int32} (h : hs_cp σ n0 sp n1 dp n = some σ') : hs_N σ' = hs_N σ := by
  obtain ⟨-, rfl⟩ := hs_si h
  rfl
theorem hs_nO_N {σ σ' : hs_T} {kd : Nat} (h : hs_nO σ kd = some σ') : hs_N σ' = hs_N σ + 1 := by
  obtain ⟨-, rfl⟩ := hs_si h
  rfl
theorem hs_nA_N {σ σ' : hs_T} {kd mx : Nat} {n : Int32} (h : hs_nA σ kd n mx = some σ') : hs_N σ' = hs_N σ + 1 := by
  obtain ⟨-, rfl⟩ := hs_si h
  rfl
end
section
/-! ServiceGameModel.isTeam(I)Z -/
abbrev rmX8_isTeam : Room := { frames := 0, cells := 0, slots := 0, locals := 0 }
theorem inX8_isTeam_X8 : ∀ w ∈ wsX80, w ∈ wsX8_isTeam := fun _ h => List.mem_cons_of_mem _ (List.mem_append_right _ h)
theorem lkX8_isTeam_0 : Cond.fieldLink RX8 104 "ServiceGameModel" "teams" "I" ∈ wsX8_isTeam := by decide +kernel
def fX8_isTeam (fu : Nat) (σ : hs_T) (o : Nat) (a1 : Int32) : Option (Int32 × hs_T) :=
if a1 < 0 then
(some (0, σ))
else
((hs_gI σ 10 o 0).bind fun v3 =>
if v3 ≤ a1 then
(some (0, σ))
else
(some (1, σ)))
section SX8_isTeam
variable {p : Program} {l : Launch} {e : Env} {s : State} {m : MethodId} {args : Array Value} {below : List Frame} {meth : Method} {c : Code} {X : hs_X} {ad : Nat → Nat} {A : Nat → Prop} {r : Int32} {τ : hs_T}
set_option maxRecDepth 100000 in
set_option maxHeartbeats 4000000 in
theorem wX8_isTeam_e (fu : Nat) (C : hs_Cx p s m args meth c X A yX8_isTeam cX8_isTeam 2 (some .boolean) wsX8_isTeam) (hem : ad hs_em = X.2.2.1.2.2.2) {H : Heap} {locs : List Loc} {ls : Array Slot} (σ : hs_T) (o : Nat) (a1 : Int32) (hf : fX8_isTeam fu σ o a1 = some (r, τ)) (hB : hs_H X.1 X.2.1 ad A σ H) (hS : va_S A s.heap H locs) (hl : lv_has ls 2 [(0, .ref (ad o)), (1, .int a1)]) : W p l e rmX8_isTeam s m args below meth c H locs 0 0 (MQ below (hs_Q0 hs_tvi X ad A r τ) args s 0 0 A) (F0 m 0 ls []) := by
  obtain ⟨hx, hb, hml, hr, hts, hown, hlk, hnm, hV, hA0, hA⟩ := id C
  have hown : s.vm.findClass RX8 = some m.cls := hown
  have hK := hV.1
  have hNw := hV.2.1
  unfold fX8_isTeam at hf
  refine lv_iload_n hx hb dX8_isTeam_0 rfl (lv_at hl 1 rfl) ?_
  refine lv_if_lt (tgt := 16) hx hb dX8_isTeam_1 (by decide) (fun h1 => ?_) (fun h1 => ?_)
  · have hf := hs_tt h1 hf
    refine lv_iconst (v := 0) hx hb dX8_isTeam_16 (by decide) ?_
    obtain ⟨rfl, rfl⟩ := hs_ri hf
    exact hs_zret hx hb hr hlk (by decide) hB hS dX8_isTeam_17
  · have hf := hs_ff h1 hf
    refine lv_iload_n hx hb dX8_isTeam_4 rfl (lv_at hl 1 rfl) ?_
    refine lv_aload_n hx hb dX8_isTeam_5 rfl (lv_at hl 0 rfl) ?_
    obtain ⟨v3, h2, hf⟩ := hs_bi hf
    refine x_getI hx hb hts inX8_isTeam_X8 hown hK hB (by decide) rfl (k := 0) (by decide) rfl h2 (hts _ lkX8_isTeam_0) (fun _ h9 => h9) dX8_isTeam_6 ?_
    refine lv_icmp_ge (tgt := 16) hx hb dX8_isTeam_9 (by decide) (fun h4 => ?_) (fun h4 => ?_)
    · have hf := hs_tt h4 hf
      refine lv_iconst (v := 0) hx hb dX8_isTeam_16 (by decide) ?_
      obtain ⟨rfl, rfl⟩ := hs_ri hf
      exact hs_zret hx hb hr hlk (by decide) hB hS dX8_isTeam_17
    · have hf := hs_ff h4 hf
      refine lv_iconst (v := 1) hx hb dX8_isTeam_12 (by decide) ?_
      refine lv_goto (tgt := 17) hx hb dX8_isTeam_13 (by decide) ?_
      obtain ⟨rfl, rfl⟩ := hs_ri hf
      exact hs_zret hx hb hr hlk (by decide) hB hS dX8_isTeam_17
end SX8_isTeam
set_option maxRecDepth 100000 in
theorem ctX8_isTeam (l : Launch) (fu : Nat) (σ : hs_T) (o : Nat) (a1 : Int32) : hs_C0 hs_tvi l yX8_isTeam wsX8_isTeam rmX8_isTeam (fun ad => [.ref (ad o), .int a1]) σ (fX8_isTeam fu σ o a1) := by
  intro X ad sz r τ hf
  refine hs_enter (cc := cX8_isTeam) (maxL := 2) (ret := (some .boolean)) (by decide) rfl (Nat.le_of_ble_eq_true rfl) ?_
  intro p e s m below meth c ls C hl hem hB hS hsz
  exact wX8_isTeam_e fu C hem σ o a1 hf hB hS hl
/-! ServiceGameModel.isIn(JJJ)Z -/
abbrev rmX8_isIn : Room := { frames := 0, cells := 0, slots := 0, locals := 0 }
def fX8_isIn (fu : Nat) (σ : hs_T) (a1 : Int64) (a2 : Int64) (a3 : Int64) : Option (Int32 × hs_T) :=
if (lg_cmp a1 a2) < 0 then
(some (0, σ))
else
(if 0 < (lg_cmp a1 a3) then
(some (0, σ))
else
(some (1, σ)))
section SX8_isIn
variable {p : Program} {l : Launch} {e : Env} {s : State} {m : MethodId} {args : Array Value} {below : List Frame} {meth : Method} {c : Code} {X : hs_X} {ad : Nat → Nat} {A : Nat → Prop} {r : Int32} {τ : hs_T}
set_option maxRecDepth 100000 in
set_option maxHeartbeats 4000000 in
theorem wX8_isIn_e (fu : Nat) (C : hs_Cx p s m args meth c X A yX8_isIn cX8_isIn 6 (some .boolean) wsX8_isIn) (hem : ad hs_em = X.2.2.1.2.2.2) {H : Heap} {locs : List Loc} {ls : Array Slot} (σ : hs_T) (a1 : Int64) (a2 : Int64) (a3 : Int64) (hf : fX8_isIn fu σ a1 a2 a3 = some (r, τ)) (hB : hs_H X.1 X.2.1 ad A σ H) (hS : va_S A s.heap H locs) (hl : lv_has ls 6 [(0, .long a1), (2, .long a2), (4, .long a3)]) : W p l e rmX8_isIn s m args below meth c H locs 0 0 (MQ below (hs_Q0 hs_tvi X ad A r τ) args s 0 0 A) (F0 m 0 ls []) := by
  obtain ⟨hx, hb, hml, hr, hts, hown, hlk, hnm, hV, hA0, hA⟩ := id C
  have hown : s.vm.findClass RX8 = some m.cls := hown
  have hK := hV.1
  have hNw := hV.2.1
  unfold fX8_isIn at hf
  refine lv_lload_n hx hb dX8_isIn_0 rfl (lv_at hl 0 rfl) ?_
  refine lv_lload_n hx hb dX8_isIn_1 rfl (lv_at hl 1 rfl) ?_
  refine W.lcmp hx hb dX8_isIn_2 ?_
  refine lv_if_lt (tgt := 17) hx hb dX8_isIn_3 (by decide) (fun h1 => ?_) (fun h1 => ?_)
  · have hf := hs_tt h1 hf
    refine lv_iconst (v := 0) hx hb dX8_isIn_17 (by decide) ?_
    obtain ⟨rfl, rfl⟩ := hs_ri hf
    exact hs_zret hx hb hr hlk (by decide) hB hS dX8_isIn_18
  · have hf := hs_ff h1 hf
    refine lv_lload_n hx hb dX8_isIn_6 rfl (lv_at hl 0 rfl) ?_
    refine lv_lload hx hb dX8_isIn_7 (lv_at hl 2 rfl) ?_
    refine W.lcmp hx hb dX8_isIn_9 ?_
    refine lv_if_gt (tgt := 17) hx hb dX8_isIn_10 (by decide) (fun h2 => ?_) (fun h2 => ?_)
    · have hf := hs_tt h2 hf
      refine lv_iconst (v := 0) hx hb dX8_isIn_17 (by decide) ?_
      obtain ⟨rfl, rfl⟩ := hs_ri hf
      exact hs_zret hx hb hr hlk (by decide) hB hS dX8_isIn_18
    · have hf := hs_ff h2 hf
      refine lv_iconst (v := 1) hx hb dX8_isIn_13 (by decide) ?_
      refine lv_goto (tgt := 18) hx hb dX8_isIn_14 (by decide) ?_
      obtain ⟨rfl, rfl⟩ := hs_ri hf
      exact hs_zret hx hb hr hlk (by decide) hB hS dX8_isIn_18
end SX8_isIn
set_option maxRecDepth 100000 in
theorem ctX8_isIn (l : Launch) (fu : Nat) (σ : hs_T) (a1 : Int64) (a2 : Int64) (a3 : Int64) : hs_C0 hs_tvi l yX8_isIn wsX8_isIn rmX8_isIn (fun ad => [.long a1, .long a2, .long a3]) σ (fX8_isIn fu σ a1 a2 a3) := by
  intro X ad sz r τ hf
  refine hs_enter (cc := cX8_isIn) (maxL := 6) (ret := (some .boolean)) (by decide) rfl (Nat.le_of_ble_eq_true rfl) ?_
  intro p e s m below meth c ls C hl hem hB hS hsz
  exact wX8_isIn_e fu C hem σ a1 a2 a3 hf hB hS hl
/-! ServiceGameModel.isPlace(II)Z -/
abbrev rmX8_isPlace : Room := { frames := 1, cells := 0, slots := 0, locals := 25 }
theorem lkX8_isPlace_0 : Cond.constantLong RX8 112 (2) ∈ wsX8_isPlace := by decide +kernel
def fX8_isPlace (fu : Nat) (σ : hs_T) (o : Nat) (a1 : Int32) (a2 : Int32) : Option (Int32 × hs_T) :=
(hs_ck σ 10 o).bind fun _ =>
hs_b2 (fX8_isTeam fu σ o a1) fun v4 σ2 =>
if v4 = 0 then
(some (0, σ2))
else
(hs_b2 (fX8_isIn fu σ2 a2.toInt64 0 2) fun v8 σ7 =>
if v8 = 0 then
(some (0, σ7))
else
(some (1, σ7)))
section SX8_isPlace
variable {p : Program} {l : Launch} {e : Env} {s : State} {m : MethodId} {args : Array Value} {below : List Frame} {meth : Method} {c : Code} {X : hs_X} {ad : Nat → Nat} {A : Nat → Prop} {r : Int32} {τ : hs_T}
set_option maxRecDepth 100000 in
set_option maxHeartbeats 4000000 in
theorem wX8_isPlace_e (fu : Nat) (C : hs_Cx p s m args meth c X A yX8_isPlace cX8_isPlace 3 (some .boolean) wsX8_isPlace) (hem : ad hs_em = X.2.2.1.2.2.2) {H : Heap} {locs : List Loc} {ls : Array Slot} (σ : hs_T) (o : Nat) (a1 : Int32) (a2 : Int32) (hf : fX8_isPlace fu σ o a1 a2 = some (r, τ)) (hB : hs_H X.1 X.2.1 ad A σ H) (hS : va_S A s.heap H locs) (hl : lv_has ls 3 [(0, .ref (ad o)), (1, .int a1), (2, .int a2)]) : W p l e rmX8_isPlace s m args below meth c H locs 0 0 (MQ below (hs_Q0 hs_tvi X ad A r τ) args s 0 0 A) (F0 m 0 ls []) := by
  obtain ⟨hx, hb, hml, hr, hts, hown, hlk, hnm, hV, hA0, hA⟩ := id C
  have hown : s.vm.findClass RX8 = some m.cls := hown
  have hK := hV.1
  have hNw := hV.2.1
  unfold fX8_isPlace at hf
  refine lv_aload_n hx hb dX8_isPlace_0 rfl (lv_at hl 0 rfl) ?_
  refine lv_iload_n hx hb dX8_isPlace_1 rfl (lv_at hl 1 rfl) ?_
  obtain ⟨_, h3, hf⟩ := hs_bi hf
  obtain ⟨v4, σ2, h1, hf⟩ := hs_b2i hf
  refine hs_call0 (va_runV (As := [.int a1]) (rest := []) ⟨hx, hb, hml, hown, hts⟩ (ctX8_isTeam l fu σ o a1 X ad H.size _ _ h1) (cwV 1 hts gX8_isPlace_X8_isTeam rfl rfl rfl (by decide +kernel) ⟨Nat.le_of_ble_eq_true rfl, Nat.le_of_ble_eq_true rfl⟩) (hs_preV (hs_recv hK hB (hs_ck_i h3) (by decide) rfl) hV hB hS hA0 hA hem) rfl rfl hl.1 rfl (lv_room (Nat.le_of_ble_eq_true rfl)) dX8_isPlace_2 ⟨Nat.le_of_ble_eq_true rfl, Nat.le_of_ble_eq_true rfl⟩) hB hS hA rfl (fun H locs hB hS => ?_)
  refine lv_if_eq (tgt := 24) hx hb dX8_isPlace_5 (by decide) (fun h5 => ?_) (fun h5 => ?_)
  · have hf := hs_tt h5 hf
    refine lv_iconst (v := 0) hx hb dX8_isPlace_24 (by decide) ?_
    obtain ⟨rfl, rfl⟩ := hs_ri hf
    exact hs_zret hx hb hr hlk (by decide) hB hS dX8_isPlace_25
  · have hf := hs_ff h5 hf
    refine lv_iload_n hx hb dX8_isPlace_8 rfl (lv_at hl 2 rfl) ?_
    refine lv_i2l hx hb dX8_isPlace_9 rfl ?_
    refine lv_lconst (v := 0) hx hb dX8_isPlace_10 (by decide) ?_
    refine lv_ldc2 hx hb hown (hts _ lkX8_isPlace_0) dX8_isPlace_11 ?_
    obtain ⟨v8, σ7, h6, hf⟩ := hs_b2i hf
    refine hs_call0 (va_runS (As := [.long a2.toInt64, .long 0, .long 2]) (rest := []) ⟨hx, hb, hml, hown, hts⟩ (ctX8_isIn l fu σ2 a2.toInt64 0 2 X ad H.size _ _ h6) (va_cwS 3 hts gX8_isPlace_X8_isIn rfl rfl rfl (by decide +kernel) ⟨Nat.le_of_ble_eq_true rfl, Nat.le_of_ble_eq_true rfl⟩) (hs_pre hV hB hS hA0 hA hem) rfl rfl hl.1 rfl (lv_room (Nat.le_of_ble_eq_true rfl)) dX8_isPlace_14 ⟨Nat.le_of_ble_eq_true rfl, Nat.le_of_ble_eq_true rfl⟩) hB hS hA rfl (fun H locs hB hS => ?_)
    refine lv_if_eq (tgt := 24) hx hb dX8_isPlace_17 (by decide) (fun h9 => ?_) (fun h9 => ?_)
    · have hf := hs_tt h9 hf
      refine lv_iconst (v := 0) hx hb dX8_isPlace_24 (by decide) ?_
      obtain ⟨rfl, rfl⟩ := hs_ri hf
      exact hs_zret hx hb hr hlk (by decide) hB hS dX8_isPlace_25
    · have hf := hs_ff h9 hf
      refine lv_iconst (v := 1) hx hb dX8_isPlace_20 (by decide) ?_
      refine lv_goto (tgt := 25) hx hb dX8_isPlace_21 (by decide) ?_
      obtain ⟨rfl, rfl⟩ := hs_ri hf
      exact hs_zret hx hb hr hlk (by decide) hB hS dX8_isPlace_25
end SX8_isPlace
set_option maxRecDepth 100000 in
theorem ctX8_isPlace (l : Launch) (fu : Nat) (σ : hs_T) (o : Nat) (a1 : Int32) (a2 : Int32) : hs_C0 hs_tvi l yX8_isPlace wsX8_isPlace rmX8_isPlace (fun ad => [.ref (ad o), .int a1, .int a2]) σ (fX8_isPlace fu σ o a1 a2) := by
  intro X ad sz r τ hf
  refine hs_enter (cc := cX8_isPlace) (maxL := 3) (ret := (some .boolean)) (by decide) rfl (Nat.le_of_ble_eq_true rfl) ?_
  intro p e s m below meth c ls C hl hem hB hS hsz
  exact wX8_isPlace_e fu C hem σ o a1 a2 hf hB hS hl
/-! ServiceGameModel.team()I -/
abbrev rmX8_team : Room := { frames := 0, cells := 0, slots := 0, locals := 0 }
theorem inX8_team_X8 : ∀ w ∈ wsX80, w ∈ wsX8_team := fun _ h => List.mem_cons_of_mem _ (List.mem_append_right _ h)
theorem lkX8_team_0 : Cond.fieldLink RX8 118 "ServiceGameModel" "rounds" "I" ∈ wsX8_team := by decide +kernel
theorem lkX8_team_1 : Cond.fieldLink RX8 104 "ServiceGameModel" "teams" "I" ∈ wsX8_team := by decide +kernel
def fX8_team (fu : Nat) (σ : hs_T) (o : Nat) : Option (Int32 × hs_T) :=
(hs_gI σ 10 o 1).bind fun v2 =>
if v2 ≤ 0 then
((hs_gI σ 10 o 0).bind fun v5 =>
if v5 = 5 then
(some ((-4), σ))
else
((hs_gI σ 10 o 0).bind fun v8 =>
(hs_pI σ 10 o 0 (v8 + 1)).bind fun σ10 =>
(hs_gI σ10 10 o 0).bind fun v12 =>
some ((v12 - 1), σ10)))
else
(some ((-3), σ))
section SX8_team
variable {p : Program} {l : Launch} {e : Env} {s : State} {m : MethodId} {args : Array Value} {below : List Frame} {meth : Method} {c : Code} {X : hs_X} {ad : Nat → Nat} {A : Nat → Prop} {r : Int32} {τ : hs_T}
set_option maxRecDepth 100000 in
set_option maxHeartbeats 4000000 in
theorem wX8_team_e (fu : Nat) (C : hs_Cx p s m args meth c X A yX8_team cX8_team 1 (some .int) wsX8_team) (hem : ad hs_em = X.2.2.1.2.2.2) {H : Heap} {locs : List Loc} {ls : Array Slot} (σ : hs_T) (o : Nat) (hf : fX8_team fu σ o = some (r, τ)) (hB : hs_H X.1 X.2.1 ad A σ H) (hS : va_S A s.heap H locs) (hl : lv_has ls 1 [(0, .ref (ad o))]) : W p l e rmX8_team s m args below meth c H locs 0 0 (MQ below (hs_Q0 hs_tvi X ad A r τ) args s 0 0 A) (F0 m 0 ls []) := by
  obtain ⟨hx, hb, hml, hr, hts, hown, hlk, hnm, hV, hA0, hA⟩ := id C
  have hown : s.vm.findClass RX8 = some m.cls := hown
  have hK := hV.1
  have hNw := hV.2.1
  unfold fX8_team at hf
  refine lv_aload_n hx hb dX8_team_0 rfl (lv_at hl 0 rfl) ?_
  obtain ⟨v2, h1, hf⟩ := hs_bi hf
  refine x_getI hx hb hts inX8_team_X8 hown hK hB (by decide) rfl (k := 1) (by decide) rfl h1 (hts _ lkX8_team_0) (fun _ h9 => h9) dX8_team_1 ?_
  refine lv_if_le (tgt := 10) hx hb dX8_team_4 (by decide) (fun h3 => ?_) (fun h3 => ?_)
  · have hf := hs_tt h3 hf
    refine lv_aload_n hx hb dX8_team_10 rfl (lv_at hl 0 rfl) ?_
    obtain ⟨v5, h4, hf⟩ := hs_bi hf
    refine x_getI hx hb hts inX8_team_X8 hown hK hB (by decide) rfl (k := 0) (by decide) rfl h4 (hts _ lkX8_team_1) (fun _ h9 => h9) dX8_team_11 ?_
    refine lv_iconst (v := 5) hx hb dX8_team_14 (by decide) ?_
    refine lv_icmp_ne (tgt := 21) hx hb dX8_team_15 (by decide) (fun h6 => ?_) (fun h6 => ?_)
    · have hf := hs_ff h6 hf
      refine lv_aload_n hx hb dX8_team_21 rfl (lv_at hl 0 rfl) ?_
      refine lv_dup hx hb dX8_team_22 rfl ?_
      obtain ⟨v8, h7, hf⟩ := hs_bi hf
      refine x_getI hx hb hts inX8_team_X8 hown hK hB (by decide) rfl (k := 0) (by decide) rfl h7 (hts _ lkX8_team_1) (fun _ h9 => h9) dX8_team_23 ?_
      refine lv_iconst (v := 1) hx hb dX8_team_26 (by decide) ?_
      refine lv_iadd hx hb dX8_team_27 ?_
      obtain ⟨σ10, h9, hf⟩ := hs_bi hf
      refine x_putI hx hb hts inX8_team_X8 tyX8_ok nmX8 hown hK hB hS (by decide) rfl (k := 0) (by decide) rfl h9 (hts _ lkX8_team_1) (fun _ h9 => h9) rfl (by decide +kernel) dX8_team_28 (fun H locs hB hS => ?_)
      refine lv_aload_n hx hb dX8_team_31 rfl (lv_at hl 0 rfl) ?_
      obtain ⟨v12, h11, hf⟩ := hs_bi hf
      refine x_getI hx hb hts inX8_team_X8 hown hK hB (by decide) rfl (k := 0) (by decide) rfl h11 (hts _ lkX8_team_1) (fun _ h9 => h9) dX8_team_32 ?_
      refine lv_iconst (v := 1) hx hb dX8_team_35 (by decide) ?_
      refine lv_isub hx hb dX8_team_36 ?_
      obtain ⟨rfl, rfl⟩ := hs_ri hf
      exact hs_iret hx hb hr hlk hB hS dX8_team_37
    · have hf := hs_tt h6 hf
      refine lv_bipush (v := (-4)) hx hb dX8_team_18 (by decide) ?_
      obtain ⟨rfl, rfl⟩ := hs_ri hf
      exact hs_iret hx hb hr hlk hB hS dX8_team_20
  · have hf := hs_ff h3 hf
    refine lv_bipush (v := (-3)) hx hb dX8_team_7 (by decide) ?_
    obtain ⟨rfl, rfl⟩ := hs_ri hf
    exact hs_iret hx hb hr hlk hB hS dX8_team_9
end SX8_team
set_option maxRecDepth 100000 in
theorem ctX8_team (l : Launch) (fu : Nat) (σ : hs_T) (o : Nat) : hs_C0 hs_tvi l yX8_team wsX8_team rmX8_team (fun ad => [.ref (ad o)]) σ (fX8_team fu σ o) := by
  intro X ad sz r τ hf
  refine hs_enter (cc := cX8_team) (maxL := 1) (ret := (some .int)) (by decide) rfl (Nat.le_of_ble_eq_true rfl) ?_
  intro p e s m below meth c ls C hl hem hB hS hsz
  exact wX8_team_e fu C hem σ o hf hB hS hl
/-! ServiceGameModel.feed(JI)I -/
abbrev rmX8_feed : Room := { frames := 1, cells := 0, slots := 0, locals := 25 }
theorem inX8_feed_X8 : ∀ w ∈ wsX80, w ∈ wsX8_feed := fun _ h => List.mem_cons_of_mem _ (List.mem_append_right _ h)
theorem lkX8_feed_0 : Cond.constantLong RX8 121 (8) ∈ wsX8_feed := by decide +kernel
theorem lkX8_feed_1 : Cond.fieldLink RX8 123 "ServiceGameModel" "taped" "I" ∈ wsX8_feed := by decide +kernel
theorem lkX8_feed_2 : Cond.fieldLink RX8 7 "ServiceGameModel" "tape" "[I" ∈ wsX8_feed := by decide +kernel
theorem lkX8_feed_3 : Cond.constantLong RX8 126 (255) ∈ wsX8_feed := by decide +kernel
def fX8_feed_34b (fu : Nat)  (k34 : hs_T → Nat → Int64 → Int32 → Option (Int32 × hs_T)) (σ : hs_T) (x0 : Nat) (x1 : Int64) (x4 : Int32) : Option (Int32 × hs_T) :=
if x4 < 0 then
((hs_gI σ 10 x0 7).bind fun v10 =>
some (v10, σ))
else
((hs_gN σ 10 x0 2).bind fun n12 =>
(hs_gI σ 10 x0 7).bind fun v14 =>
(hs_st σ 11 n12 v14 (((x1 >>> ((8 * x4).toInt64 &&& 63)) &&& 255).toInt32)).bind fun σ15 =>
(hs_gI σ15 10 x0 7).bind fun v18 =>
(hs_pI σ15 10 x0 7 (v18 + 1)).bind fun σ20 =>
k34 σ20 x0 x1 (x4 + (-1)))
def fX8_feed_34 (fu : Nat)  (σ : hs_T) (x0 : Nat) (x1 : Int64) (x4 : Int32) : Option (Int32 × hs_T) :=
  hs_lp (fun (k : hs_T × Nat × Int64 × Int32 → Option (Int32 × hs_T)) (a : hs_T × Nat × Int64 × Int32) => fX8_feed_34b fu  (fun σ x0 x1 x4 => k (σ, x0, x1, x4)) a.1 a.2.1 a.2.2.1 a.2.2.2) fu (σ, x0, x1, x4)
def fX8_feed (fu : Nat) (σ : hs_T) (o : Nat) (a1 : Int64) (a2 : Int32) : Option (Int32 × hs_T) :=
hs_b2 (fX8_isIn fu σ a2.toInt64 1 8) fun v3 σ2 =>
if v3 = 0 then
(some ((-2), σ2))
else
((hs_gI σ2 10 o 7).bind fun v6 =>
if (v6 + a2) ≤ 120 then
(fX8_feed_34 fu σ2 o a1 (a2 - 1))
else
(some ((-4), σ2)))
section SX8_feed
variable {p : Program} {l : Launch} {e : Env} {s : State} {m : MethodId} {args : Array Value} {below : List Frame} {meth : Method} {c : Code} {X : hs_X} {ad : Nat → Nat} {A : Nat → Prop} {r : Int32} {τ : hs_T}
set_option maxRecDepth 100000 in
set_option maxHeartbeats 4000000 in
theorem wX8_feed_34b (fu : Nat) (C : hs_Cx p s m args meth c X A yX8_feed cX8_feed 5 (some .int) wsX8_feed) (hem : ad hs_em = X.2.2.1.2.2.2)  (k34 : hs_T → Nat → Int64 → Int32 → Option (Int32 × hs_T)) (hk34 : ∀ (σ : hs_T) (x0 : Nat) (x1 : Int64) (x4 : Int32) (H : Heap) (locs : List Loc) (ls : Array Slot), k34 σ x0 x1 x4 = some (r, τ) → hs_H X.1 X.2.1 ad A σ H → va_S A s.heap H locs → lv_has ls 5 [(0, .ref (ad x0)), (1, .long x1), (4, .int x4)] → W p l e rmX8_feed s m args below meth c H locs 0 0 (MQ below (hs_Q0 hs_tvi X ad A r τ) args s 0 0 A) (F0 m 34 ls [])) {H : Heap} {locs : List Loc} {ls : Array Slot} (σ : hs_T) (x0 : Nat) (x1 : Int64) (x4 : Int32) (hf : fX8_feed_34b fu  k34 σ x0 x1 x4 = some (r, τ)) (hB : hs_H X.1 X.2.1 ad A σ H) (hS : va_S A s.heap H locs) (hl : lv_has ls 5 [(0, .ref (ad x0)), (1, .long x1), (4, .int x4)]) : W p l e rmX8_feed s m args below meth c H locs 0 0 (MQ below (hs_Q0 hs_tvi X ad A r τ) args s 0 0 A) (F0 m 34 ls []) := by
  obtain ⟨hx, hb, hml, hr, hts, hown, hlk, hnm, hV, hA0, hA⟩ := id C
  have hown : s.vm.findClass RX8 = some m.cls := hown
  have hK := hV.1
  have hNw := hV.2.1
  unfold fX8_feed_34b at hf
  refine lv_iload hx hb dX8_feed_34 (lv_at hl 2 rfl) ?_
  refine lv_if_lt (tgt := 76) hx hb dX8_feed_36 (by decide) (fun h8 => ?_) (fun h8 => ?_)
  · have hf := hs_tt h8 hf
    refine lv_aload_n hx hb dX8_feed_76 rfl (lv_at hl 0 rfl) ?_
    obtain ⟨v10, h9, hf⟩ := hs_bi hf
    refine x_getI hx hb hts inX8_feed_X8 hown hK hB (by decide) rfl (k := 7) (by decide) rfl h9 (hts _ lkX8_feed_1) (fun _ h9 => h9) dX8_feed_77 ?_
    obtain ⟨rfl, rfl⟩ := hs_ri hf
    exact hs_iret hx hb hr hlk hB hS dX8_feed_80
  · have hf := hs_ff h8 hf
    refine lv_aload_n hx hb dX8_feed_39 rfl (lv_at hl 0 rfl) ?_
    obtain ⟨n12, h11, hf⟩ := hs_bi hf
    refine x_getN hx hb hts inX8_feed_X8 hown hK hB (by decide) rfl (k := 2) (by decide) rfl h11 (hts _ lkX8_feed_2) (fun _ h9 => h9) dX8_feed_40 ?_
    refine lv_aload_n hx hb dX8_feed_43 rfl (lv_at hl 0 rfl) ?_
    obtain ⟨v14, h13, hf⟩ := hs_bi hf
    refine x_getI hx hb hts inX8_feed_X8 hown hK hB (by decide) rfl (k := 7) (by decide) rfl h13 (hts _ lkX8_feed_1) (fun _ h9 => h9) dX8_feed_44 ?_
    refine lv_lload_n hx hb dX8_feed_47 rfl (lv_at hl 1 rfl) ?_
    refine lv_bipush (v := 8) hx hb dX8_feed_48 (by decide) ?_
    refine lv_iload hx hb dX8_feed_50 (lv_at hl 2 rfl) ?_
    refine lv_imul hx hb dX8_feed_52 ?_
    refine lv_lshr hx hb dX8_feed_53 rfl ?_
    refine lv_ldc2 hx hb hown (hts _ lkX8_feed_3) dX8_feed_54 ?_
    refine lv_land hx hb dX8_feed_57 ?_
    refine lv_l2i hx hb dX8_feed_58 rfl ?_
    obtain ⟨σ15, h16, hf⟩ := hs_bi hf
    refine x_iast hx hb hK hB hS h16 dX8_feed_59 (fun H locs hB hS => ?_)
    refine lv_aload_n hx hb dX8_feed_60 rfl (lv_at hl 0 rfl) ?_
    refine lv_dup hx hb dX8_feed_61 rfl ?_
    obtain ⟨v18, h17, hf⟩ := hs_bi hf
    refine x_getI hx hb hts inX8_feed_X8 hown hK hB (by decide) rfl (k := 7) (by decide) rfl h17 (hts _ lkX8_feed_1) (fun _ h9 => h9) dX8_feed_62 ?_
    refine lv_iconst (v := 1) hx hb dX8_feed_65 (by decide) ?_
    refine lv_iadd hx hb dX8_feed_66 ?_
    obtain ⟨σ20, h19, hf⟩ := hs_bi hf
    refine x_putI hx hb hts inX8_feed_X8 tyX8_ok nmX8 hown hK hB hS (by decide) rfl (k := 7) (by decide) rfl h19 (hts _ lkX8_feed_1) (fun _ h9 => h9) rfl (by decide +kernel) dX8_feed_67 (fun H locs hB hS => ?_)
    refine lv_iinc (v := (x4 + (-1))) (lv' := [(4, .int (x4 + (-1))), (0, .ref (ad x0)), (1, .long x1)]) hx hb dX8_feed_70 hl (k := 2) rfl rfl (by decide) rfl (fun ls hl => ?_)
    refine lv_goto (tgt := 34) hx hb dX8_feed_73 (by decide) ?_
    exact hk34 σ20 x0 x1 (x4 + (-1)) _ _ _ hf hB hS (lv_sub hl [1, 2, 0] rfl)
set_option maxRecDepth 100000 in
set_option maxHeartbeats 4000000 in
theorem wX8_feed_34 (fu : Nat) (C : hs_Cx p s m args meth c X A yX8_feed cX8_feed 5 (some .int) wsX8_feed) (hem : ad hs_em = X.2.2.1.2.2.2)  {H : Heap} {locs : List Loc} {ls : Array Slot} (σ : hs_T) (x0 : Nat) (x1 : Int64) (x4 : Int32) (hf : fX8_feed_34 fu  σ x0 x1 x4 = some (r, τ)) (hB : hs_H X.1 X.2.1 ad A σ H) (hS : va_S A s.heap H locs) (hl : lv_has ls 5 [(0, .ref (ad x0)), (1, .long x1), (4, .int x4)]) : W p l e rmX8_feed s m args below meth c H locs 0 0 (MQ below (hs_Q0 hs_tvi X ad A r τ) args s 0 0 A) (F0 m 34 ls []) := by
  unfold fX8_feed_34 at hf
  exact hs_lp_i (P := fun a => ∀ (H : Heap) (locs : List Loc) (ls : Array Slot), hs_H X.1 X.2.1 ad A a.1 H → va_S A s.heap H locs → lv_has ls 5 [(0, .ref (ad a.2.1)), (1, .long a.2.2.1), (4, .int a.2.2.2)] → W p l e rmX8_feed s m args below meth c H locs 0 0 (MQ below (hs_Q0 hs_tvi X ad A r τ) args s 0 0 A) (F0 m 34 ls [])) (fun k a hk hf H locs ls hB hS hl => wX8_feed_34b fu C hem  _ (fun σ x0 x1 x4 H locs ls hf hB hS hl => hk (σ, x0, x1, x4) hf H locs ls hB hS hl) a.1 a.2.1 a.2.2.1 a.2.2.2 hf hB hS hl) fu (σ, x0, x1, x4) hf H locs ls hB hS hl
set_option maxRecDepth 100000 in
set_option maxHeartbeats 4000000 in
theorem wX8_feed_e (fu : Nat) (C : hs_Cx p s m args meth c X A yX8_feed cX8_feed 5 (some .int) wsX8_feed) (hem : ad hs_em = X.2.2.1.2.2.2) {H : Heap} {locs : List Loc} {ls : Array Slot} (σ : hs_T) (o : Nat) (a1 : Int64) (a2 : Int32) (hf : fX8_feed fu σ o a1 a2 = some (r, τ)) (hB : hs_H X.1 X.2.1 ad A σ H) (hS : va_S A s.heap H locs) (hl : lv_has ls 5 [(0, .ref (ad o)), (1, .long a1), (3, .int a2)]) : W p l e rmX8_feed s m args below meth c H locs 0 0 (MQ below (hs_Q0 hs_tvi X ad A r τ) args s 0 0 A) (F0 m 0 ls []) := by
  obtain ⟨hx, hb, hml, hr, hts, hown, hlk, hnm, hV, hA0, hA⟩ := id C
  have hown : s.vm.findClass RX8 = some m.cls := hown
  have hK := hV.1
  have hNw := hV.2.1
  unfold fX8_feed at hf
  refine lv_iload_n hx hb dX8_feed_0 rfl (lv_at hl 2 rfl) ?_
  refine lv_i2l hx hb dX8_feed_1 rfl ?_
  refine lv_lconst (v := 1) hx hb dX8_feed_2 (by decide) ?_
  refine lv_ldc2 hx hb hown (hts _ lkX8_feed_0) dX8_feed_3 ?_
  obtain ⟨v3, σ2, h1, hf⟩ := hs_b2i hf
  refine hs_call0 (va_runS (As := [.long a2.toInt64, .long 1, .long 8]) (rest := []) ⟨hx, hb, hml, hown, hts⟩ (ctX8_isIn l fu σ a2.toInt64 1 8 X ad H.size _ _ h1) (va_cwS 3 hts gX8_feed_X8_isIn rfl rfl rfl (by decide +kernel) ⟨Nat.le_of_ble_eq_true rfl, Nat.le_of_ble_eq_true rfl⟩) (hs_pre hV hB hS hA0 hA hem) rfl rfl hl.1 rfl (lv_room (Nat.le_of_ble_eq_true rfl)) dX8_feed_6 ⟨Nat.le_of_ble_eq_true rfl, Nat.le_of_ble_eq_true rfl⟩) hB hS hA rfl (fun H locs hB hS => ?_)
  refine lv_if_ne (tgt := 15) hx hb dX8_feed_9 (by decide) (fun h4 => ?_) (fun h4 => ?_)
  · have hf := hs_ff h4 hf
    refine lv_aload_n hx hb dX8_feed_15 rfl (lv_at hl 0 rfl) ?_
    obtain ⟨v6, h5, hf⟩ := hs_bi hf
    refine x_getI hx hb hts inX8_feed_X8 hown hK hB (by decide) rfl (k := 7) (by decide) rfl h5 (hts _ lkX8_feed_1) (fun _ h9 => h9) dX8_feed_16 ?_
    refine lv_iload_n hx hb dX8_feed_19 rfl (lv_at hl 2 rfl) ?_
    refine lv_iadd hx hb dX8_feed_20 ?_
    refine lv_bipush (v := 120) hx hb dX8_feed_21 (by decide) ?_
    refine lv_icmp_le (tgt := 29) hx hb dX8_feed_23 (by decide) (fun h7 => ?_) (fun h7 => ?_)
    · have hf := hs_tt h7 hf
      refine lv_iload_n hx hb dX8_feed_29 rfl (lv_at hl 2 rfl) ?_
      refine lv_iconst (v := 1) hx hb dX8_feed_30 (by decide) ?_
      refine lv_isub hx hb dX8_feed_31 ?_
      refine lv_istore (lv' := [(4, .int (a2 - 1)), (0, .ref (ad o)), (1, .long a1), (3, .int a2)]) hx hb dX8_feed_32 hl (by decide) rfl (fun ls hl => ?_)
      exact wX8_feed_34 fu C hem σ2 o a1 (a2 - 1) hf hB hS (lv_sub hl [1, 2, 0] rfl)
    · have hf := hs_ff h7 hf
      refine lv_bipush (v := (-4)) hx hb dX8_feed_26 (by decide) ?_
      obtain ⟨rfl, rfl⟩ := hs_ri hf
      exact hs_iret hx hb hr hlk hB hS dX8_feed_28
  · have hf := hs_tt h4 hf
    refine lv_bipush (v := (-2)) hx hb dX8_feed_12 (by decide) ?_
    obtain ⟨rfl, rfl⟩ := hs_ri hf
    exact hs_iret hx hb hr hlk hB hS dX8_feed_14
end SX8_feed
set_option maxRecDepth 100000 in
theorem ctX8_feed (l : Launch) (fu : Nat) (σ : hs_T) (o : Nat) (a1 : Int64) (a2 : Int32) : hs_C0 hs_tvi l yX8_feed wsX8_feed rmX8_feed (fun ad => [.ref (ad o), .long a1, .int a2]) σ (fX8_feed fu σ o a1 a2) := by
  intro X ad sz r τ hf
  refine hs_enter (cc := cX8_feed) (maxL := 5) (ret := (some .int)) (by decide) rfl (Nat.le_of_ble_eq_true rfl) ?_
  intro p e s m below meth c ls C hl hem hB hS hsz
  exact wX8_feed_e fu C hem σ o a1 a2 hf hB hS hl
/-! ServiceGameModel.sign()I -/
abbrev rmX8_sign : Room := { frames := 0, cells := 0, slots := 0, locals := 0 }
theorem inX8_sign_X8 : ∀ w ∈ wsX80, w ∈ wsX8_sign := fun _ h => List.mem_cons_of_mem _ (List.mem_append_right _ h)
theorem lkX8_sign_0 : Cond.fieldLink RX8 128 "ServiceGameModel" "at" "I" ∈ wsX8_sign := by decide +kernel
theorem lkX8_sign_1 : Cond.fieldLink RX8 123 "ServiceGameModel" "taped" "I" ∈ wsX8_sign := by decide +kernel
theorem lkX8_sign_2 : Cond.fieldLink RX8 7 "ServiceGameModel" "tape" "[I" ∈ wsX8_sign := by decide +kernel
def fX8_sign (fu : Nat) (σ : hs_T) (o : Nat) : Option (Int32 × hs_T) :=
(hs_gI σ 10 o 8).bind fun v2 =>
(hs_gI σ 10 o 7).bind fun v4 =>
if v4 ≤ v2 then
(some ((-1), σ))
else
((hs_gN σ 10 o 2).bind fun n7 =>
(hs_gI σ 10 o 8).bind fun v9 =>
(hs_ld σ 11 n7 v9).bind fun v10 =>
some (v10, σ))
section SX8_sign
variable {p : Program} {l : Launch} {e : Env} {s : State} {m : MethodId} {args : Array Value} {below : List Frame} {meth : Method} {c : Code} {X : hs_X} {ad : Nat → Nat} {A : Nat → Prop} {r : Int32} {τ : hs_T}
set_option maxRecDepth 100000 in
set_option maxHeartbeats 4000000 in
theorem wX8_sign_e (fu : Nat) (C : hs_Cx p s m args meth c X A yX8_sign cX8_sign 1 (some .int) wsX8_sign) (hem : ad hs_em = X.2.2.1.2.2.2) {H : Heap} {locs : List Loc} {ls : Array Slot} (σ : hs_T) (o : Nat) (hf : fX8_sign fu σ o = some (r, τ)) (hB : hs_H X.1 X.2.1 ad A σ H) (hS : va_S A s.heap H locs) (hl : lv_has ls 1 [(0, .ref (ad o))]) : W p l e rmX8_sign s m args below meth c H locs 0 0 (MQ below (hs_Q0 hs_tvi X ad A r τ) args s 0 0 A) (F0 m 0 ls []) := by
  obtain ⟨hx, hb, hml, hr, hts, hown, hlk, hnm, hV, hA0, hA⟩ := id C
  have hown : s.vm.findClass RX8 = some m.cls := hown
  have hK := hV.1
  have hNw := hV.2.1
  unfold fX8_sign at hf
  refine lv_aload_n hx hb dX8_sign_0 rfl (lv_at hl 0 rfl) ?_
  obtain ⟨v2, h1, hf⟩ := hs_bi hf
  refine x_getI hx hb hts inX8_sign_X8 hown hK hB (by decide) rfl (k := 8) (by decide) rfl h1 (hts _ lkX8_sign_0) (fun _ h9 => h9) dX8_sign_1 ?_
  refine lv_aload_n hx hb dX8_sign_4 rfl (lv_at hl 0 rfl) ?_
  obtain ⟨v4, h3, hf⟩ := hs_bi hf
  refine x_getI hx hb hts inX8_sign_X8 hown hK hB (by decide) rfl (k := 7) (by decide) rfl h3 (hts _ lkX8_sign_1) (fun _ h9 => h9) dX8_sign_5 ?_
  refine lv_icmp_ge (tgt := 23) hx hb dX8_sign_8 (by decide) (fun h5 => ?_) (fun h5 => ?_)
  · have hf := hs_tt h5 hf
    refine lv_iconst (v := (-1)) hx hb dX8_sign_23 (by decide) ?_
    obtain ⟨rfl, rfl⟩ := hs_ri hf
    exact hs_iret hx hb hr hlk hB hS dX8_sign_24
  · have hf := hs_ff h5 hf
    refine lv_aload_n hx hb dX8_sign_11 rfl (lv_at hl 0 rfl) ?_
    obtain ⟨n7, h6, hf⟩ := hs_bi hf
    refine x_getN hx hb hts inX8_sign_X8 hown hK hB (by decide) rfl (k := 2) (by decide) rfl h6 (hts _ lkX8_sign_2) (fun _ h9 => h9) dX8_sign_12 ?_
    refine lv_aload_n hx hb dX8_sign_15 rfl (lv_at hl 0 rfl) ?_
    obtain ⟨v9, h8, hf⟩ := hs_bi hf
    refine x_getI hx hb hts inX8_sign_X8 hown hK hB (by decide) rfl (k := 8) (by decide) rfl h8 (hts _ lkX8_sign_0) (fun _ h9 => h9) dX8_sign_16 ?_
    obtain ⟨v10, h11, hf⟩ := hs_bi hf
    refine x_iald hx hb hK hB h11 dX8_sign_19 ?_
    refine lv_goto (tgt := 24) hx hb dX8_sign_20 (by decide) ?_
    obtain ⟨rfl, rfl⟩ := hs_ri hf
    exact hs_iret hx hb hr hlk hB hS dX8_sign_24
end SX8_sign
set_option maxRecDepth 100000 in
theorem ctX8_sign (l : Launch) (fu : Nat) (σ : hs_T) (o : Nat) : hs_C0 hs_tvi l yX8_sign wsX8_sign rmX8_sign (fun ad => [.ref (ad o)]) σ (fX8_sign fu σ o) := by
  intro X ad sz r τ hf
  refine hs_enter (cc := cX8_sign) (maxL := 1) (ret := (some .int)) (by decide) rfl (Nat.le_of_ble_eq_true rfl) ?_
  intro p e s m below meth c ls C hl hem hB hS hsz
  exact wX8_sign_e fu C hem σ o hf hB hS hl
/-! ServiceGameModel.isDigit()Z -/
abbrev rmX8_isDigit : Room := { frames := 1, cells := 0, slots := 0, locals := 20 }
def fX8_isDigit (fu : Nat) (σ : hs_T) (o : Nat) : Option (Int32 × hs_T) :=
(hs_ck σ 10 o).bind fun _ =>
hs_b2 (fX8_sign fu σ o) fun v4 σ2 =>
if v4 < 48 then
(some (0, σ2))
else
((hs_ck σ2 10 o).bind fun _ =>
hs_b2 (fX8_sign fu σ2 o) fun v9 σ7 =>
if 57 < v9 then
(some (0, σ7))
else
(some (1, σ7)))
section SX8_isDigit
variable {p : Program} {l : Launch} {e : Env} {s : State} {m : MethodId} {args : Array Value} {below : List Frame} {meth : Method} {c : Code} {X : hs_X} {ad : Nat → Nat} {A : Nat → Prop} {r : Int32} {τ : hs_T}
set_option maxRecDepth 100000 in
set_option maxHeartbeats 4000000 in
theorem wX8_isDigit_e (fu : Nat) (C : hs_Cx p s m args meth c X A yX8_isDigit cX8_isDigit 1 (some .boolean) wsX8_isDigit) (hem : ad hs_em = X.2.2.1.2.2.2) {H : Heap} {locs : List Loc} {ls : Array Slot} (σ : hs_T) (o : Nat) (hf : fX8_isDigit fu σ o = some (r, τ)) (hB : hs_H X.1 X.2.1 ad A σ H) (hS : va_S A s.heap H locs) (hl : lv_has ls 1 [(0, .ref (ad o))]) : W p l e rmX8_isDigit s m args below meth c H locs 0 0 (MQ below (hs_Q0 hs_tvi X ad A r τ) args s 0 0 A) (F0 m 0 ls []) := by
  obtain ⟨hx, hb, hml, hr, hts, hown, hlk, hnm, hV, hA0, hA⟩ := id C
  have hown : s.vm.findClass RX8 = some m.cls := hown
  have hK := hV.1
  have hNw := hV.2.1
  unfold fX8_isDigit at hf
  refine lv_aload_n hx hb dX8_isDigit_0 rfl (lv_at hl 0 rfl) ?_
  obtain ⟨_, h3, hf⟩ := hs_bi hf
  obtain ⟨v4, σ2, h1, hf⟩ := hs_b2i hf
  refine hs_call0 (va_runV (As := []) (rest := []) ⟨hx, hb, hml, hown, hts⟩ (ctX8_sign l fu σ o X ad H.size _ _ h1) (cwV 0 hts gX8_isDigit_X8_sign rfl rfl rfl (by decide +kernel) ⟨Nat.le_of_ble_eq_true rfl, Nat.le_of_ble_eq_true rfl⟩) (hs_preV (hs_recv hK hB (hs_ck_i h3) (by decide) rfl) hV hB hS hA0 hA hem) rfl rfl hl.1 rfl (lv_room (Nat.le_of_ble_eq_true rfl)) dX8_isDigit_1 ⟨Nat.le_of_ble_eq_true rfl, Nat.le_of_ble_eq_true rfl⟩) hB hS hA rfl (fun H locs hB hS => ?_)
  refine lv_bipush (v := 48) hx hb dX8_isDigit_4 (by decide) ?_
  refine lv_icmp_lt (tgt := 22) hx hb dX8_isDigit_6 (by decide) (fun h5 => ?_) (fun h5 => ?_)
  · have hf := hs_tt h5 hf
    refine lv_iconst (v := 0) hx hb dX8_isDigit_22 (by decide) ?_
    obtain ⟨rfl, rfl⟩ := hs_ri hf
    exact hs_zret hx hb hr hlk (by decide) hB hS dX8_isDigit_23
  · have hf := hs_ff h5 hf
    refine lv_aload_n hx hb dX8_isDigit_9 rfl (lv_at hl 0 rfl) ?_
    obtain ⟨_, h8, hf⟩ := hs_bi hf
    obtain ⟨v9, σ7, h6, hf⟩ := hs_b2i hf
    refine hs_call0 (va_runV (As := []) (rest := []) ⟨hx, hb, hml, hown, hts⟩ (ctX8_sign l fu σ2 o X ad H.size _ _ h6) (cwV 0 hts gX8_isDigit_X8_sign rfl rfl rfl (by decide +kernel) ⟨Nat.le_of_ble_eq_true rfl, Nat.le_of_ble_eq_true rfl⟩) (hs_preV (hs_recv hK hB (hs_ck_i h8) (by decide) rfl) hV hB hS hA0 hA hem) rfl rfl hl.1 rfl (lv_room (Nat.le_of_ble_eq_true rfl)) dX8_isDigit_10 ⟨Nat.le_of_ble_eq_true rfl, Nat.le_of_ble_eq_true rfl⟩) hB hS hA rfl (fun H locs hB hS => ?_)
    refine lv_bipush (v := 57) hx hb dX8_isDigit_13 (by decide) ?_
    refine lv_icmp_gt (tgt := 22) hx hb dX8_isDigit_15 (by decide) (fun h10 => ?_) (fun h10 => ?_)
    · have hf := hs_tt h10 hf
      refine lv_iconst (v := 0) hx hb dX8_isDigit_22 (by decide) ?_
      obtain ⟨rfl, rfl⟩ := hs_ri hf
      exact hs_zret hx hb hr hlk (by decide) hB hS dX8_isDigit_23
    · have hf := hs_ff h10 hf
      refine lv_iconst (v := 1) hx hb dX8_isDigit_18 (by decide) ?_
      refine lv_goto (tgt := 23) hx hb dX8_isDigit_19 (by decide) ?_
      obtain ⟨rfl, rfl⟩ := hs_ri hf
      exact hs_zret hx hb hr hlk (by decide) hB hS dX8_isDigit_23
end SX8_isDigit
set_option maxRecDepth 100000 in
theorem ctX8_isDigit (l : Launch) (fu : Nat) (σ : hs_T) (o : Nat) : hs_C0 hs_tvi l yX8_isDigit wsX8_isDigit rmX8_isDigit (fun ad => [.ref (ad o)]) σ (fX8_isDigit fu σ o) := by
  intro X ad sz r τ hf
  refine hs_enter (cc := cX8_isDigit) (maxL := 1) (ret := (some .boolean)) (by decide) rfl (Nat.le_of_ble_eq_true rfl) ?_
  intro p e s m below meth c ls C hl hem hB hS hsz
  exact wX8_isDigit_e fu C hem σ o hf hB hS hl
/-! ServiceGameModel.digits(I)I -/
abbrev rmX8_digits : Room := { frames := 2, cells := 0, slots := 0, locals := 40 }
theorem inX8_digits_X8 : ∀ w ∈ wsX80, w ∈ wsX8_digits := fun _ h => List.mem_cons_of_mem _ (List.mem_append_right _ h)
theorem lkX8_digits_0 : Cond.fieldLink RX8 128 "ServiceGameModel" "at" "I" ∈ wsX8_digits := by decide +kernel
def fX8_digits_29b (fu : Nat)  (k29 : hs_T → Nat → Int32 → Int32 → Int32 → Option (Int32 × hs_T)) (σ : hs_T) (x0 : Nat) (x1 : Int32) (x2 : Int32) (x3 : Int32) : Option (Int32 × hs_T) :=
if x1 ≤ x3 then
(some (x2, σ))
else
(if x2 ≤ 0 then
(some (x2, σ))
else
((hs_ck σ 10 x0).bind fun _ =>
hs_b2 (fX8_isDigit fu σ x0) fun v19 σ17 =>
if v19 = 0 then
(some (x2, σ17))
else
((hs_ck σ17 10 x0).bind fun _ =>
hs_b2 (fX8_sign fu σ17 x0) fun v24 σ22 =>
(hs_gI σ22 10 x0 8).bind fun v26 =>
(hs_pI σ22 10 x0 8 (v26 + 1)).bind fun σ28 =>
k29 σ28 x0 x1 (((10 * x2) + v24) - 48) (x3 + 1))))
def fX8_digits_29 (fu : Nat)  (σ : hs_T) (x0 : Nat) (x1 : Int32) (x2 : Int32) (x3 : Int32) : Option (Int32 × hs_T) :=
  hs_lp (fun (k : hs_T × Nat × Int32 × Int32 × Int32 → Option (Int32 × hs_T)) (a : hs_T × Nat × Int32 × Int32 × Int32) => fX8_digits_29b fu  (fun σ x0 x1 x2 x3 => k (σ, x0, x1, x2, x3)) a.1 a.2.1 a.2.2.1 a.2.2.2.1 a.2.2.2.2) fu (σ, x0, x1, x2, x3)
def fX8_digits (fu : Nat) (σ : hs_T) (o : Nat) (a1 : Int32) : Option (Int32 × hs_T) :=
(hs_ck σ 10 o).bind fun _ =>
hs_b2 (fX8_isDigit fu σ o) fun v4 σ2 =>
if v4 = 0 then
(some ((-1), σ2))
else
((hs_ck σ2 10 o).bind fun _ =>
hs_b2 (fX8_sign fu σ2 o) fun v9 σ7 =>
(hs_gI σ7 10 o 8).bind fun v11 =>
(hs_pI σ7 10 o 8 (v11 + 1)).bind fun σ13 =>
fX8_digits_29 fu σ13 o a1 (v9 - 48) 1)
section SX8_digits
variable {p : Program} {l : Launch} {e : Env} {s : State} {m : MethodId} {args : Array Value} {below : List Frame} {meth : Method} {c : Code} {X : hs_X} {ad : Nat → Nat} {A : Nat → Prop} {r : Int32} {τ : hs_T}
set_option maxRecDepth 100000 in
set_option maxHeartbeats 4000000 in
theorem wX8_digits_29b (fu : Nat) (C : hs_Cx p s m args meth c X A yX8_digits cX8_digits 4 (some .int) wsX8_digits) (hem : ad hs_em = X.2.2.1.2.2.2)  (k29 : hs_T → Nat → Int32 → Int32 → Int32 → Option (Int32 × hs_T)) (hk29 : ∀ (σ : hs_T) (x0 : Nat) (x1 : Int32) (x2 : Int32) (x3 : Int32) (H : Heap) (locs : List Loc) (ls : Array Slot), k29 σ x0 x1 x2 x3 = some (r, τ) → hs_H X.1 X.2.1 ad A σ H → va_S A s.heap H locs → lv_has ls 4 [(0, .ref (ad x0)), (1, .int x1), (2, .int x2), (3, .int x3)] → W p l e rmX8_digits s m args below meth c H locs 0 0 (MQ below (hs_Q0 hs_tvi X ad A r τ) args s 0 0 A) (F0 m 29 ls [])) {H : Heap} {locs : List Loc} {ls : Array Slot} (σ : hs_T) (x0 : Nat) (x1 : Int32) (x2 : Int32) (x3 : Int32) (hf : fX8_digits_29b fu  k29 σ x0 x1 x2 x3 = some (r, τ)) (hB : hs_H X.1 X.2.1 ad A σ H) (hS : va_S A s.heap H locs) (hl : lv_has ls 4 [(0, .ref (ad x0)), (1, .int x1), (2, .int x2), (3, .int x3)]) : W p l e rmX8_digits s m args below meth c H locs 0 0 (MQ below (hs_Q0 hs_tvi X ad A r τ) args s 0 0 A) (F0 m 29 ls []) := by
  obtain ⟨hx, hb, hml, hr, hts, hown, hlk, hnm, hV, hA0, hA⟩ := id C
  have hown : s.vm.findClass RX8 = some m.cls := hown
  have hK := hV.1
  have hNw := hV.2.1
  unfold fX8_digits_29b at hf
  refine lv_iload_n hx hb dX8_digits_29 rfl (lv_at hl 3 rfl) ?_
  refine lv_iload_n hx hb dX8_digits_30 rfl (lv_at hl 1 rfl) ?_
  refine lv_icmp_ge (tgt := 74) hx hb dX8_digits_31 (by decide) (fun h14 => ?_) (fun h14 => ?_)
  · have hf := hs_tt h14 hf
    refine lv_iload_n hx hb dX8_digits_74 rfl (lv_at hl 2 rfl) ?_
    obtain ⟨rfl, rfl⟩ := hs_ri hf
    exact hs_iret hx hb hr hlk hB hS dX8_digits_75
  · have hf := hs_ff h14 hf
    refine lv_iload_n hx hb dX8_digits_34 rfl (lv_at hl 2 rfl) ?_
    refine lv_if_le (tgt := 74) hx hb dX8_digits_35 (by decide) (fun h15 => ?_) (fun h15 => ?_)
    · have hf := hs_tt h15 hf
      refine lv_iload_n hx hb dX8_digits_74 rfl (lv_at hl 2 rfl) ?_
      obtain ⟨rfl, rfl⟩ := hs_ri hf
      exact hs_iret hx hb hr hlk hB hS dX8_digits_75
    · have hf := hs_ff h15 hf
      refine lv_aload_n hx hb dX8_digits_38 rfl (lv_at hl 0 rfl) ?_
      obtain ⟨_, h18, hf⟩ := hs_bi hf
      obtain ⟨v19, σ17, h16, hf⟩ := hs_b2i hf
      refine hs_call0 (va_runV (As := []) (rest := []) ⟨hx, hb, hml, hown, hts⟩ (ctX8_isDigit l fu σ x0 X ad H.size _ _ h16) (cwV 0 hts gX8_digits_X8_isDigit rfl rfl rfl (by decide +kernel) ⟨Nat.le_of_ble_eq_true rfl, Nat.le_of_ble_eq_true rfl⟩) (hs_preV (hs_recv hK hB (hs_ck_i h18) (by decide) rfl) hV hB hS hA0 hA hem) rfl rfl hl.1 rfl (lv_room (Nat.le_of_ble_eq_true rfl)) dX8_digits_39 ⟨Nat.le_of_ble_eq_true rfl, Nat.le_of_ble_eq_true rfl⟩) hB hS hA rfl (fun H locs hB hS => ?_)
      refine lv_if_eq (tgt := 74) hx hb dX8_digits_42 (by decide) (fun h20 => ?_) (fun h20 => ?_)
      · have hf := hs_tt h20 hf
        refine lv_iload_n hx hb dX8_digits_74 rfl (lv_at hl 2 rfl) ?_
        obtain ⟨rfl, rfl⟩ := hs_ri hf
        exact hs_iret hx hb hr hlk hB hS dX8_digits_75
      · have hf := hs_ff h20 hf
        refine lv_bipush (v := 10) hx hb dX8_digits_45 (by decide) ?_
        refine lv_iload_n hx hb dX8_digits_47 rfl (lv_at hl 2 rfl) ?_
        refine lv_imul hx hb dX8_digits_48 ?_
        refine lv_aload_n hx hb dX8_digits_49 rfl (lv_at hl 0 rfl) ?_
        obtain ⟨_, h23, hf⟩ := hs_bi hf
        obtain ⟨v24, σ22, h21, hf⟩ := hs_b2i hf
        refine hs_call0 (va_runV (As := []) (rest := [.int (10 * x2)]) ⟨hx, hb, hml, hown, hts⟩ (ctX8_sign l fu σ17 x0 X ad H.size _ _ h21) (cwV 0 hts gX8_digits_X8_sign rfl rfl rfl (by decide +kernel) ⟨Nat.le_of_ble_eq_true rfl, Nat.le_of_ble_eq_true rfl⟩) (hs_preV (hs_recv hK hB (hs_ck_i h23) (by decide) rfl) hV hB hS hA0 hA hem) rfl rfl hl.1 rfl (lv_room (Nat.le_of_ble_eq_true rfl)) dX8_digits_50 ⟨Nat.le_of_ble_eq_true rfl, Nat.le_of_ble_eq_true rfl⟩) hB hS hA rfl (fun H locs hB hS => ?_)
        refine lv_iadd hx hb dX8_digits_53 ?_
        refine lv_bipush (v := 48) hx hb dX8_digits_54 (by decide) ?_
        refine lv_isub hx hb dX8_digits_56 ?_
        refine lv_istore_n (lv' := [(2, .int (((10 * x2) + v24) - 48)), (0, .ref (ad x0)), (1, .int x1), (3, .int x3)]) hx hb dX8_digits_57 rfl hl (by decide) rfl (fun ls hl => ?_)
        refine lv_aload_n hx hb dX8_digits_58 rfl (lv_at hl 1 rfl) ?_
        refine lv_dup hx hb dX8_digits_59 rfl ?_
        obtain ⟨v26, h25, hf⟩ := hs_bi hf
        refine x_getI hx hb hts inX8_digits_X8 hown hK hB (by decide) rfl (k := 8) (by decide) rfl h25 (hts _ lkX8_digits_0) (fun _ h9 => h9) dX8_digits_60 ?_
        refine lv_iconst (v := 1) hx hb dX8_digits_63 (by decide) ?_
        refine lv_iadd hx hb dX8_digits_64 ?_
        obtain ⟨σ28, h27, hf⟩ := hs_bi hf
        refine x_putI hx hb hts inX8_digits_X8 tyX8_ok nmX8 hown hK hB hS (by decide) rfl (k := 8) (by decide) rfl h27 (hts _ lkX8_digits_0) (fun _ h9 => h9) rfl (by decide +kernel) dX8_digits_65 (fun H locs hB hS => ?_)
        refine lv_iinc (v := (x3 + 1)) (lv' := [(3, .int (x3 + 1)), (2, .int (((10 * x2) + v24) - 48)), (0, .ref (ad x0)), (1, .int x1)]) hx hb dX8_digits_68 hl (k := 3) rfl rfl (by decide) rfl (fun ls hl => ?_)
        refine lv_goto (tgt := 29) hx hb dX8_digits_71 (by decide) ?_
        exact hk29 σ28 x0 x1 (((10 * x2) + v24) - 48) (x3 + 1) _ _ _ hf hB hS (lv_sub hl [2, 3, 1, 0] rfl)
set_option maxRecDepth 100000 in
set_option maxHeartbeats 4000000 in
theorem wX8_digits_29 (fu : Nat) (C : hs_Cx p s m args meth c X A yX8_digits cX8_digits 4 (some .int) wsX8_digits) (hem : ad hs_em = X.2.2.1.2.2.2)  {H : Heap} {locs : List Loc} {ls : Array Slot} (σ : hs_T) (x0 : Nat) (x1 : Int32) (x2 : Int32) (x3 : Int32) (hf : fX8_digits_29 fu  σ x0 x1 x2 x3 = some (r, τ)) (hB : hs_H X.1 X.2.1 ad A σ H) (hS : va_S A s.heap H locs) (hl : lv_has ls 4 [(0, .ref (ad x0)), (1, .int x1), (2, .int x2), (3, .int x3)]) : W p l e rmX8_digits s m args below meth c H locs 0 0 (MQ below (hs_Q0 hs_tvi X ad A r τ) args s 0 0 A) (F0 m 29 ls []) := by
  unfold fX8_digits_29 at hf
  exact hs_lp_i (P := fun a => ∀ (H : Heap) (locs : List Loc) (ls : Array Slot), hs_H X.1 X.2.1 ad A a.1 H → va_S A s.heap H locs → lv_has ls 4 [(0, .ref (ad a.2.1)), (1, .int a.2.2.1), (2, .int a.2.2.2.1), (3, .int a.2.2.2.2)] → W p l e rmX8_digits s m args below meth c H locs 0 0 (MQ below (hs_Q0 hs_tvi X ad A r τ) args s 0 0 A) (F0 m 29 ls [])) (fun k a hk hf H locs ls hB hS hl => wX8_digits_29b fu C hem  _ (fun σ x0 x1 x2 x3 H locs ls hf hB hS hl => hk (σ, x0, x1, x2, x3) hf H locs ls hB hS hl) a.1 a.2.1 a.2.2.1 a.2.2.2.1 a.2.2.2.2 hf hB hS hl) fu (σ, x0, x1, x2, x3) hf H locs ls hB hS hl
set_option maxRecDepth 100000 in
set_option maxHeartbeats 4000000 in
theorem wX8_digits_e (fu : Nat) (C : hs_Cx p s m args meth c X A yX8_digits cX8_digits 4 (some .int) wsX8_digits) (hem : ad hs_em = X.2.2.1.2.2.2) {H : Heap} {locs : List Loc} {ls : Array Slot} (σ : hs_T) (o : Nat) (a1 : Int32) (hf : fX8_digits fu σ o a1 = some (r, τ)) (hB : hs_H X.1 X.2.1 ad A σ H) (hS : va_S A s.heap H locs) (hl : lv_has ls 4 [(0, .ref (ad o)), (1, .int a1)]) : W p l e rmX8_digits s m args below meth c H locs 0 0 (MQ below (hs_Q0 hs_tvi X ad A r τ) args s 0 0 A) (F0 m 0 ls []) := by
  obtain ⟨hx, hb, hml, hr, hts, hown, hlk, hnm, hV, hA0, hA⟩ := id C
  have hown : s.vm.findClass RX8 = some m.cls := hown
  have hK := hV.1
  have hNw := hV.2.1
  unfold fX8_digits at hf
  refine lv_aload_n hx hb dX8_digits_0 rfl (lv_at hl 0 rfl) ?_
  obtain ⟨_, h3, hf⟩ := hs_bi hf
  obtain ⟨v4, σ2, h1, hf⟩ := hs_b2i hf
  refine hs_call0 (va_runV (As := []) (rest := []) ⟨hx, hb, hml, hown, hts⟩ (ctX8_isDigit l fu σ o X ad H.size _ _ h1) (cwV 0 hts gX8_digits_X8_isDigit rfl rfl rfl (by decide +kernel) ⟨Nat.le_of_ble_eq_true rfl, Nat.le_of_ble_eq_true rfl⟩) (hs_preV (hs_recv hK hB (hs_ck_i h3) (by decide) rfl) hV hB hS hA0 hA hem) rfl rfl hl.1 rfl (lv_room (Nat.le_of_ble_eq_true rfl)) dX8_digits_1 ⟨Nat.le_of_ble_eq_true rfl, Nat.le_of_ble_eq_true rfl⟩) hB hS hA rfl (fun H locs hB hS => ?_)
  refine lv_if_ne (tgt := 9) hx hb dX8_digits_4 (by decide) (fun h5 => ?_) (fun h5 => ?_)
  · have hf := hs_ff h5 hf
    refine lv_aload_n hx hb dX8_digits_9 rfl (lv_at hl 0 rfl) ?_
    obtain ⟨_, h8, hf⟩ := hs_bi hf
    obtain ⟨v9, σ7, h6, hf⟩ := hs_b2i hf
    refine hs_call0 (va_runV (As := []) (rest := []) ⟨hx, hb, hml, hown, hts⟩ (ctX8_sign l fu σ2 o X ad H.size _ _ h6) (cwV 0 hts gX8_digits_X8_sign rfl rfl rfl (by decide +kernel) ⟨Nat.le_of_ble_eq_true rfl, Nat.le_of_ble_eq_true rfl⟩) (hs_preV (hs_recv hK hB (hs_ck_i h8) (by decide) rfl) hV hB hS hA0 hA hem) rfl rfl hl.1 rfl (lv_room (Nat.le_of_ble_eq_true rfl)) dX8_digits_10 ⟨Nat.le_of_ble_eq_true rfl, Nat.le_of_ble_eq_true rfl⟩) hB hS hA rfl (fun H locs hB hS => ?_)
    refine lv_bipush (v := 48) hx hb dX8_digits_13 (by decide) ?_
    refine lv_isub hx hb dX8_digits_15 ?_
    refine lv_istore_n (lv' := [(2, .int (v9 - 48)), (0, .ref (ad o)), (1, .int a1)]) hx hb dX8_digits_16 rfl hl (by decide) rfl (fun ls hl => ?_)
    refine lv_aload_n hx hb dX8_digits_17 rfl (lv_at hl 1 rfl) ?_
    refine lv_dup hx hb dX8_digits_18 rfl ?_
    obtain ⟨v11, h10, hf⟩ := hs_bi hf
    refine x_getI hx hb hts inX8_digits_X8 hown hK hB (by decide) rfl (k := 8) (by decide) rfl h10 (hts _ lkX8_digits_0) (fun _ h9 => h9) dX8_digits_19 ?_
    refine lv_iconst (v := 1) hx hb dX8_digits_22 (by decide) ?_
    refine lv_iadd hx hb dX8_digits_23 ?_
    obtain ⟨σ13, h12, hf⟩ := hs_bi hf
    refine x_putI hx hb hts inX8_digits_X8 tyX8_ok nmX8 hown hK hB hS (by decide) rfl (k := 8) (by decide) rfl h12 (hts _ lkX8_digits_0) (fun _ h9 => h9) rfl (by decide +kernel) dX8_digits_24 (fun H locs hB hS => ?_)
    refine lv_iconst (v := 1) hx hb dX8_digits_27 (by decide) ?_
    refine lv_istore_n (lv' := [(3, .int 1), (2, .int (v9 - 48)), (0, .ref (ad o)), (1, .int a1)]) hx hb dX8_digits_28 rfl hl (by decide) rfl (fun ls hl => ?_)
    exact wX8_digits_29 fu C hem σ13 o a1 (v9 - 48) 1 hf hB hS (lv_sub hl [2, 3, 1, 0] rfl)
  · have hf := hs_tt h5 hf
    refine lv_iconst (v := (-1)) hx hb dX8_digits_7 (by decide) ?_
    obtain ⟨rfl, rfl⟩ := hs_ri hf
    exact hs_iret hx hb hr hlk hB hS dX8_digits_8
end SX8_digits
set_option maxRecDepth 100000 in
theorem ctX8_digits (l : Launch) (fu : Nat) (σ : hs_T) (o : Nat) (a1 : Int32) : hs_C0 hs_tvi l yX8_digits wsX8_digits rmX8_digits (fun ad => [.ref (ad o), .int a1]) σ (fX8_digits fu σ o a1) := by
  intro X ad sz r τ hf
  refine hs_enter (cc := cX8_digits) (maxL := 4) (ret := (some .int)) (by decide) rfl (Nat.le_of_ble_eq_true rfl) ?_
  intro p e s m below meth c ls C hl hem hB hS hsz
  exact wX8_digits_e fu C hem σ o a1 hf hB hS hl
end

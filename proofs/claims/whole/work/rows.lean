section
-- ===== PART A: goes FIRST, ahead of the names: the tables' words, and 'selects' of the private methods out of them =====
/-- a private method of a class that the tables say can be made, by its rows of tables_1 -/
def lw_okq (q : MethodName × Nat) : Prop := (q.1.cls ≠ "java/lang/invoke/MethodHandle" ∧ q.1.cls ≠ "java/lang/invoke/VarHandle") ∧ Cond.instantiable q.1.cls q.2 ∈ tables_1 ∧ Cond.privateMethod q.1 ∈ tables_1 ∧ Cond.instanceMethod q.1 ∈ tables_1
theorem lw_p0 : lw_okq (⟨"FoundryNine$Run", "clear", "()V"⟩, 18) := ⟨⟨by decide +kernel, by decide +kernel⟩, List.mem_of_getElem? (i := 141) (by decide +kernel), List.mem_of_getElem? (i := 147) (by decide +kernel), List.mem_of_getElem? (i := 148) (by decide +kernel)⟩
theorem lw_p1 : lw_okq (⟨"FoundryNine$Run", "giveUpAll", "()V"⟩, 18) := ⟨⟨by decide +kernel, by decide +kernel⟩, List.mem_of_getElem? (i := 141) (by decide +kernel), List.mem_of_getElem? (i := 152) (by decide +kernel), List.mem_of_getElem? (i := 153) (by decide +kernel)⟩
theorem lw_p2 : lw_okq (⟨"FoundryNine$Run", "beginCounting", "()V"⟩, 18) := ⟨⟨by decide +kernel, by decide +kernel⟩, List.mem_of_getElem? (i := 141) (by decide +kernel), List.mem_of_getElem? (i := 156) (by decide +kernel), List.mem_of_getElem? (i := 157) (by decide +kernel)⟩
theorem lw_p3 : lw_okq (⟨"FoundryNine$Arrivals", "arrivalOf", "(I)I"⟩, 1) := ⟨⟨by decide +kernel, by decide +kernel⟩, List.mem_of_getElem? (i := 130) (by decide +kernel), List.mem_of_getElem? (i := 295) (by decide +kernel), List.mem_of_getElem? (i := 296) (by decide +kernel)⟩
theorem lw_p4 : lw_okq (⟨"FoundryNine", "digestOfTimes", "(J)J"⟩, 7) := ⟨⟨by decide +kernel, by decide +kernel⟩, List.mem_of_getElem? (i := 18) (by decide +kernel), List.mem_of_getElem? (i := 322) (by decide +kernel), List.mem_of_getElem? (i := 323) (by decide +kernel)⟩
theorem lw_p5 : lw_okq (⟨"FoundryNine$Run", "nextLine", "(I)I"⟩, 18) := ⟨⟨by decide +kernel, by decide +kernel⟩, List.mem_of_getElem? (i := 141) (by decide +kernel), List.mem_of_getElem? (i := 339) (by decide +kernel), List.mem_of_getElem? (i := 340) (by decide +kernel)⟩
theorem lw_p6 : lw_okq (⟨"FoundryNine$Run", "comesAheadOf", "(II)Z"⟩, 18) := ⟨⟨by decide +kernel, by decide +kernel⟩, List.mem_of_getElem? (i := 141) (by decide +kernel), List.mem_of_getElem? (i := 343) (by decide +kernel), List.mem_of_getElem? (i := 344) (by decide +kernel)⟩
theorem lw_p7 : lw_okq (⟨"java/lang/Throwable", "fillInStackTrace", "(I)Ljava/lang/Throwable;"⟩, 6) := ⟨⟨by decide +kernel, by decide +kernel⟩, List.mem_of_getElem? (i := 385) (by decide +kernel), List.mem_of_getElem? (i := 383) (by decide +kernel), List.mem_of_getElem? (i := 384) (by decide +kernel)⟩
theorem lw_p8 : lw_okq (⟨"FoundryNine", "digestOfCircuit", "(J)J"⟩, 7) := ⟨⟨by decide +kernel, by decide +kernel⟩, List.mem_of_getElem? (i := 18) (by decide +kernel), List.mem_of_getElem? (i := 415) (by decide +kernel), List.mem_of_getElem? (i := 416) (by decide +kernel)⟩
theorem lw_p9 : lw_okq (⟨"FoundryNine", "digestOfWires", "(J)J"⟩, 7) := ⟨⟨by decide +kernel, by decide +kernel⟩, List.mem_of_getElem? (i := 18) (by decide +kernel), List.mem_of_getElem? (i := 441) (by decide +kernel), List.mem_of_getElem? (i := 442) (by decide +kernel)⟩
theorem lw_p10 : lw_okq (⟨"FoundryNine", "digestOfRun", "(J)J"⟩, 7) := ⟨⟨by decide +kernel, by decide +kernel⟩, List.mem_of_getElem? (i := 18) (by decide +kernel), List.mem_of_getElem? (i := 469) (by decide +kernel), List.mem_of_getElem? (i := 470) (by decide +kernel)⟩
theorem lw_p11 : lw_okq (⟨"FoundryNine", "checkLine", "(I)V"⟩, 7) := ⟨⟨by decide +kernel, by decide +kernel⟩, List.mem_of_getElem? (i := 18) (by decide +kernel), List.mem_of_getElem? (i := 477) (by decide +kernel), List.mem_of_getElem? (i := 478) (by decide +kernel)⟩
theorem lw_p12 : lw_okq (⟨"FoundryNine", "checkRunning", "()V"⟩, 7) := ⟨⟨by decide +kernel, by decide +kernel⟩, List.mem_of_getElem? (i := 18) (by decide +kernel), List.mem_of_getElem? (i := 493) (by decide +kernel), List.mem_of_getElem? (i := 494) (by decide +kernel)⟩
theorem lw_p13 : lw_okq (⟨"FoundryNine$Run", "change", "(II)V"⟩, 18) := ⟨⟨by decide +kernel, by decide +kernel⟩, List.mem_of_getElem? (i := 141) (by decide +kernel), List.mem_of_getElem? (i := 522) (by decide +kernel), List.mem_of_getElem? (i := 523) (by decide +kernel)⟩
theorem lw_p14 : lw_okq (⟨"FoundryNine$Run", "askRegister", "(III)V"⟩, 18) := ⟨⟨by decide +kernel, by decide +kernel⟩, List.mem_of_getElem? (i := 141) (by decide +kernel), List.mem_of_getElem? (i := 531) (by decide +kernel), List.mem_of_getElem? (i := 532) (by decide +kernel)⟩
theorem lw_p15 : lw_okq (⟨"FoundryNine$Run", "valueOf", "(I)I"⟩, 18) := ⟨⟨by decide +kernel, by decide +kernel⟩, List.mem_of_getElem? (i := 141) (by decide +kernel), List.mem_of_getElem? (i := 535) (by decide +kernel), List.mem_of_getElem? (i := 536) (by decide +kernel)⟩
def lw_privs_1 : List (MethodName × Nat) := [(⟨"FoundryNine$Run", "clear", "()V"⟩, 18), (⟨"FoundryNine$Run", "giveUpAll", "()V"⟩, 18), (⟨"FoundryNine$Run", "beginCounting", "()V"⟩, 18), (⟨"FoundryNine$Arrivals", "arrivalOf", "(I)I"⟩, 1), (⟨"FoundryNine", "digestOfTimes", "(J)J"⟩, 7), (⟨"FoundryNine$Run", "nextLine", "(I)I"⟩, 18), (⟨"FoundryNine$Run", "comesAheadOf", "(II)Z"⟩, 18), (⟨"java/lang/Throwable", "fillInStackTrace", "(I)Ljava/lang/Throwable;"⟩, 6), (⟨"FoundryNine", "digestOfCircuit", "(J)J"⟩, 7), (⟨"FoundryNine", "digestOfWires", "(J)J"⟩, 7), (⟨"FoundryNine", "digestOfRun", "(J)J"⟩, 7), (⟨"FoundryNine", "checkLine", "(I)V"⟩, 7), (⟨"FoundryNine", "checkRunning", "()V"⟩, 7), (⟨"FoundryNine$Run", "change", "(II)V"⟩, 18), (⟨"FoundryNine$Run", "askRegister", "(III)V"⟩, 18), (⟨"FoundryNine$Run", "valueOf", "(I)I"⟩, 18)]
theorem lw_r1 : ∀ q ∈ lw_privs_1, lw_okq q := List.forall_mem_cons.mpr ⟨lw_p0, List.forall_mem_cons.mpr ⟨lw_p1, List.forall_mem_cons.mpr ⟨lw_p2, List.forall_mem_cons.mpr ⟨lw_p3, List.forall_mem_cons.mpr ⟨lw_p4, List.forall_mem_cons.mpr ⟨lw_p5, List.forall_mem_cons.mpr ⟨lw_p6, List.forall_mem_cons.mpr ⟨lw_p7, List.forall_mem_cons.mpr ⟨lw_p8, List.forall_mem_cons.mpr ⟨lw_p9, List.forall_mem_cons.mpr ⟨lw_p10, List.forall_mem_cons.mpr ⟨lw_p11, List.forall_mem_cons.mpr ⟨lw_p12, List.forall_mem_cons.mpr ⟨lw_p13, List.forall_mem_cons.mpr ⟨lw_p14, List.forall_mem_cons.mpr ⟨lw_p15, fun _ h => absurd h List.not_mem_nil⟩⟩⟩⟩⟩⟩⟩⟩⟩⟩⟩⟩⟩⟩⟩⟩
theorem lw_p16 : lw_okq (⟨"FoundryNine$Run", "makePending", "(II)V"⟩, 18) := ⟨⟨by decide +kernel, by decide +kernel⟩, List.mem_of_getElem? (i := 141) (by decide +kernel), List.mem_of_getElem? (i := 539) (by decide +kernel), List.mem_of_getElem? (i := 540) (by decide +kernel)⟩
theorem lw_p17 : lw_okq (⟨"FoundryNine$Run", "rise", "(I)V"⟩, 18) := ⟨⟨by decide +kernel, by decide +kernel⟩, List.mem_of_getElem? (i := 141) (by decide +kernel), List.mem_of_getElem? (i := 543) (by decide +kernel), List.mem_of_getElem? (i := 544) (by decide +kernel)⟩
theorem lw_p18 : lw_okq (⟨"FoundryNine$Run", "isRecent", "(II)Z"⟩, 18) := ⟨⟨by decide +kernel, by decide +kernel⟩, List.mem_of_getElem? (i := 141) (by decide +kernel), List.mem_of_getElem? (i := 547) (by decide +kernel), List.mem_of_getElem? (i := 548) (by decide +kernel)⟩
theorem lw_p19 : lw_okq (⟨"FoundryNine$Run", "noteHazard", "(II)V"⟩, 18) := ⟨⟨by decide +kernel, by decide +kernel⟩, List.mem_of_getElem? (i := 141) (by decide +kernel), List.mem_of_getElem? (i := 551) (by decide +kernel), List.mem_of_getElem? (i := 552) (by decide +kernel)⟩
theorem lw_p20 : lw_okq (⟨"FoundryNine$Run", "askGate", "(I)V"⟩, 18) := ⟨⟨by decide +kernel, by decide +kernel⟩, List.mem_of_getElem? (i := 141) (by decide +kernel), List.mem_of_getElem? (i := 555) (by decide +kernel), List.mem_of_getElem? (i := 556) (by decide +kernel)⟩
theorem lw_p21 : lw_okq (⟨"FoundryNine", "checkRoom", "()V"⟩, 7) := ⟨⟨by decide +kernel, by decide +kernel⟩, List.mem_of_getElem? (i := 18) (by decide +kernel), List.mem_of_getElem? (i := 583) (by decide +kernel), List.mem_of_getElem? (i := 584) (by decide +kernel)⟩
theorem lw_p22 : lw_okq (⟨"FoundryNine", "addLine", "(IIIIII)I"⟩, 7) := ⟨⟨by decide +kernel, by decide +kernel⟩, List.mem_of_getElem? (i := 18) (by decide +kernel), List.mem_of_getElem? (i := 588) (by decide +kernel), List.mem_of_getElem? (i := 589) (by decide +kernel)⟩
theorem lw_p23 : lw_okq (⟨"FoundryNine$Circuit", "noteUse", "(II)V"⟩, 12) := ⟨⟨by decide +kernel, by decide +kernel⟩, List.mem_of_getElem? (i := 26) (by decide +kernel), List.mem_of_getElem? (i := 596) (by decide +kernel), List.mem_of_getElem? (i := 597) (by decide +kernel)⟩
theorem lw_p24 : lw_okq (⟨"FoundryNine$Flaws", "note", "(II)V"⟩, 6) := ⟨⟨by decide +kernel, by decide +kernel⟩, List.mem_of_getElem? (i := 99) (by decide +kernel), List.mem_of_getElem? (i := 604) (by decide +kernel), List.mem_of_getElem? (i := 605) (by decide +kernel)⟩
theorem lw_p25 : lw_okq (⟨"FoundryNine$Flaws", "findReach", "(LFoundryNine$Circuit;)V"⟩, 6) := ⟨⟨by decide +kernel, by decide +kernel⟩, List.mem_of_getElem? (i := 99) (by decide +kernel), List.mem_of_getElem? (i := 608) (by decide +kernel), List.mem_of_getElem? (i := 609) (by decide +kernel)⟩
theorem lw_p26 : lw_okq (⟨"FoundryNine$Flaws", "reachOf", "(I)I"⟩, 6) := ⟨⟨by decide +kernel, by decide +kernel⟩, List.mem_of_getElem? (i := 99) (by decide +kernel), List.mem_of_getElem? (i := 614) (by decide +kernel), List.mem_of_getElem? (i := 615) (by decide +kernel)⟩
theorem lw_p27 : lw_okq (⟨"FoundryNine$Arrivals", "arrivalBy", "(LFoundryNine$Circuit;LFoundryNine$Flaws;II)I"⟩, 1) := ⟨⟨by decide +kernel, by decide +kernel⟩, List.mem_of_getElem? (i := 130) (by decide +kernel), List.mem_of_getElem? (i := 628) (by decide +kernel), List.mem_of_getElem? (i := 629) (by decide +kernel)⟩
theorem lw_p28 : lw_okq (⟨"FoundryNine", "checkHasDelay", "(I)V"⟩, 7) := ⟨⟨by decide +kernel, by decide +kernel⟩, List.mem_of_getElem? (i := 18) (by decide +kernel), List.mem_of_getElem? (i := 671) (by decide +kernel), List.mem_of_getElem? (i := 672) (by decide +kernel)⟩
theorem lw_p29 : lw_okq (⟨"FoundryNine", "checkSetting", "(II)V"⟩, 7) := ⟨⟨by decide +kernel, by decide +kernel⟩, List.mem_of_getElem? (i := 18) (by decide +kernel), List.mem_of_getElem? (i := 707) (by decide +kernel), List.mem_of_getElem? (i := 708) (by decide +kernel)⟩
theorem lw_p30 : lw_okq (⟨"FoundryNine$Run", "noteHazardsOfGates", "()V"⟩, 18) := ⟨⟨by decide +kernel, by decide +kernel⟩, List.mem_of_getElem? (i := 141) (by decide +kernel), List.mem_of_getElem? (i := 742) (by decide +kernel), List.mem_of_getElem? (i := 743) (by decide +kernel)⟩
theorem lw_p31 : lw_okq (⟨"FoundryNineModel", "clear", "()V"⟩, 16) := ⟨⟨by decide +kernel, by decide +kernel⟩, List.mem_of_getElem? (i := 789) (by decide +kernel), List.mem_of_getElem? (i := 795) (by decide +kernel), List.mem_of_getElem? (i := 796) (by decide +kernel)⟩
def lw_privs_2 : List (MethodName × Nat) := [(⟨"FoundryNine$Run", "makePending", "(II)V"⟩, 18), (⟨"FoundryNine$Run", "rise", "(I)V"⟩, 18), (⟨"FoundryNine$Run", "isRecent", "(II)Z"⟩, 18), (⟨"FoundryNine$Run", "noteHazard", "(II)V"⟩, 18), (⟨"FoundryNine$Run", "askGate", "(I)V"⟩, 18), (⟨"FoundryNine", "checkRoom", "()V"⟩, 7), (⟨"FoundryNine", "addLine", "(IIIIII)I"⟩, 7), (⟨"FoundryNine$Circuit", "noteUse", "(II)V"⟩, 12), (⟨"FoundryNine$Flaws", "note", "(II)V"⟩, 6), (⟨"FoundryNine$Flaws", "findReach", "(LFoundryNine$Circuit;)V"⟩, 6), (⟨"FoundryNine$Flaws", "reachOf", "(I)I"⟩, 6), (⟨"FoundryNine$Arrivals", "arrivalBy", "(LFoundryNine$Circuit;LFoundryNine$Flaws;II)I"⟩, 1), (⟨"FoundryNine", "checkHasDelay", "(I)V"⟩, 7), (⟨"FoundryNine", "checkSetting", "(II)V"⟩, 7), (⟨"FoundryNine$Run", "noteHazardsOfGates", "()V"⟩, 18), (⟨"FoundryNineModel", "clear", "()V"⟩, 16)]
theorem lw_r2 : ∀ q ∈ lw_privs_2, lw_okq q := List.forall_mem_cons.mpr ⟨lw_p16, List.forall_mem_cons.mpr ⟨lw_p17, List.forall_mem_cons.mpr ⟨lw_p18, List.forall_mem_cons.mpr ⟨lw_p19, List.forall_mem_cons.mpr ⟨lw_p20, List.forall_mem_cons.mpr ⟨lw_p21, List.forall_mem_cons.mpr ⟨lw_p22, List.forall_mem_cons.mpr ⟨lw_p23, List.forall_mem_cons.mpr ⟨lw_p24, List.forall_mem_cons.mpr ⟨lw_p25, List.forall_mem_cons.mpr ⟨lw_p26, List.forall_mem_cons.mpr ⟨lw_p27, List.forall_mem_cons.mpr ⟨lw_p28, List.forall_mem_cons.mpr ⟨lw_p29, List.forall_mem_cons.mpr ⟨lw_p30, List.forall_mem_cons.mpr ⟨lw_p31, fun _ h => absurd h List.not_mem_nil⟩⟩⟩⟩⟩⟩⟩⟩⟩⟩⟩⟩⟩⟩⟩⟩
theorem lw_p32 : lw_okq (⟨"FoundryNineModel", "no", "(I)I"⟩, 16) := ⟨⟨by decide +kernel, by decide +kernel⟩, List.mem_of_getElem? (i := 789) (by decide +kernel), List.mem_of_getElem? (i := 862) (by decide +kernel), List.mem_of_getElem? (i := 863) (by decide +kernel)⟩
theorem lw_p33 : lw_okq (⟨"FoundryNineModel", "add", "(IIIIII)I"⟩, 16) := ⟨⟨by decide +kernel, by decide +kernel⟩, List.mem_of_getElem? (i := 789) (by decide +kernel), List.mem_of_getElem? (i := 866) (by decide +kernel), List.mem_of_getElem? (i := 867) (by decide +kernel)⟩
theorem lw_p34 : lw_okq (⟨"FoundryNineModel", "isLine", "(I)Z"⟩, 16) := ⟨⟨by decide +kernel, by decide +kernel⟩, List.mem_of_getElem? (i := 789) (by decide +kernel), List.mem_of_getElem? (i := 885) (by decide +kernel), List.mem_of_getElem? (i := 886) (by decide +kernel)⟩
theorem lw_p35 : lw_okq (⟨"FoundryNineModel", "ok", "(I)I"⟩, 16) := ⟨⟨by decide +kernel, by decide +kernel⟩, List.mem_of_getElem? (i := 789) (by decide +kernel), List.mem_of_getElem? (i := 897) (by decide +kernel), List.mem_of_getElem? (i := 898) (by decide +kernel)⟩
theorem lw_p36 : lw_okq (⟨"FoundryNineModel", "noteFlaws", "()V"⟩, 16) := ⟨⟨by decide +kernel, by decide +kernel⟩, List.mem_of_getElem? (i := 789) (by decide +kernel), List.mem_of_getElem? (i := 905) (by decide +kernel), List.mem_of_getElem? (i := 906) (by decide +kernel)⟩
theorem lw_p37 : lw_okq (⟨"FoundryNineModel", "note", "(II)V"⟩, 16) := ⟨⟨by decide +kernel, by decide +kernel⟩, List.mem_of_getElem? (i := 789) (by decide +kernel), List.mem_of_getElem? (i := 909) (by decide +kernel), List.mem_of_getElem? (i := 910) (by decide +kernel)⟩
theorem lw_p38 : lw_okq (⟨"FoundryNineModel", "usersNow", "(I)I"⟩, 16) := ⟨⟨by decide +kernel, by decide +kernel⟩, List.mem_of_getElem? (i := 789) (by decide +kernel), List.mem_of_getElem? (i := 913) (by decide +kernel), List.mem_of_getElem? (i := 914) (by decide +kernel)⟩
theorem lw_p39 : lw_okq (⟨"FoundryNineModel", "uses", "(II)Z"⟩, 16) := ⟨⟨by decide +kernel, by decide +kernel⟩, List.mem_of_getElem? (i := 789) (by decide +kernel), List.mem_of_getElem? (i := 917) (by decide +kernel), List.mem_of_getElem? (i := 918) (by decide +kernel)⟩
theorem lw_p40 : lw_okq (⟨"FoundryNineModel", "isGate", "(I)Z"⟩, 16) := ⟨⟨by decide +kernel, by decide +kernel⟩, List.mem_of_getElem? (i := 789) (by decide +kernel), List.mem_of_getElem? (i := 921) (by decide +kernel), List.mem_of_getElem? (i := 922) (by decide +kernel)⟩
theorem lw_p41 : lw_okq (⟨"FoundryNineModel", "isInRing", "(I)Z"⟩, 16) := ⟨⟨by decide +kernel, by decide +kernel⟩, List.mem_of_getElem? (i := 789) (by decide +kernel), List.mem_of_getElem? (i := 925) (by decide +kernel), List.mem_of_getElem? (i := 926) (by decide +kernel)⟩
theorem lw_p42 : lw_okq (⟨"FoundryNineModel", "usesAny", "(I[Z)Z"⟩, 16) := ⟨⟨by decide +kernel, by decide +kernel⟩, List.mem_of_getElem? (i := 789) (by decide +kernel), List.mem_of_getElem? (i := 929) (by decide +kernel), List.mem_of_getElem? (i := 930) (by decide +kernel)⟩
theorem lw_p43 : lw_okq (⟨"FoundryNineModel", "tellArrivals", "()V"⟩, 16) := ⟨⟨by decide +kernel, by decide +kernel⟩, List.mem_of_getElem? (i := 789) (by decide +kernel), List.mem_of_getElem? (i := 941) (by decide +kernel), List.mem_of_getElem? (i := 942) (by decide +kernel)⟩
theorem lw_p44 : lw_okq (⟨"FoundryNineModel", "tellArrival", "(I)I"⟩, 16) := ⟨⟨by decide +kernel, by decide +kernel⟩, List.mem_of_getElem? (i := 789) (by decide +kernel), List.mem_of_getElem? (i := 945) (by decide +kernel), List.mem_of_getElem? (i := 946) (by decide +kernel)⟩
theorem lw_p45 : lw_okq (⟨"FoundryNineModel", "driver", "(I)I"⟩, 16) := ⟨⟨by decide +kernel, by decide +kernel⟩, List.mem_of_getElem? (i := 789) (by decide +kernel), List.mem_of_getElem? (i := 949) (by decide +kernel), List.mem_of_getElem? (i := 950) (by decide +kernel)⟩
theorem lw_p46 : lw_okq (⟨"FoundryNineModel", "behind", "(II)I"⟩, 16) := ⟨⟨by decide +kernel, by decide +kernel⟩, List.mem_of_getElem? (i := 789) (by decide +kernel), List.mem_of_getElem? (i := 956) (by decide +kernel), List.mem_of_getElem? (i := 957) (by decide +kernel)⟩
theorem lw_p47 : lw_okq (⟨"FoundryNineModel", "longestNow", "()I"⟩, 16) := ⟨⟨by decide +kernel, by decide +kernel⟩, List.mem_of_getElem? (i := 789) (by decide +kernel), List.mem_of_getElem? (i := 965) (by decide +kernel), List.mem_of_getElem? (i := 966) (by decide +kernel)⟩
def lw_privs_3 : List (MethodName × Nat) := [(⟨"FoundryNineModel", "no", "(I)I"⟩, 16), (⟨"FoundryNineModel", "add", "(IIIIII)I"⟩, 16), (⟨"FoundryNineModel", "isLine", "(I)Z"⟩, 16), (⟨"FoundryNineModel", "ok", "(I)I"⟩, 16), (⟨"FoundryNineModel", "noteFlaws", "()V"⟩, 16), (⟨"FoundryNineModel", "note", "(II)V"⟩, 16), (⟨"FoundryNineModel", "usersNow", "(I)I"⟩, 16), (⟨"FoundryNineModel", "uses", "(II)Z"⟩, 16), (⟨"FoundryNineModel", "isGate", "(I)Z"⟩, 16), (⟨"FoundryNineModel", "isInRing", "(I)Z"⟩, 16), (⟨"FoundryNineModel", "usesAny", "(I[Z)Z"⟩, 16), (⟨"FoundryNineModel", "tellArrivals", "()V"⟩, 16), (⟨"FoundryNineModel", "tellArrival", "(I)I"⟩, 16), (⟨"FoundryNineModel", "driver", "(I)I"⟩, 16), (⟨"FoundryNineModel", "behind", "(II)I"⟩, 16), (⟨"FoundryNineModel", "longestNow", "()I"⟩, 16)]
theorem lw_r3 : ∀ q ∈ lw_privs_3, lw_okq q := List.forall_mem_cons.mpr ⟨lw_p32, List.forall_mem_cons.mpr ⟨lw_p33, List.forall_mem_cons.mpr ⟨lw_p34, List.forall_mem_cons.mpr ⟨lw_p35, List.forall_mem_cons.mpr ⟨lw_p36, List.forall_mem_cons.mpr ⟨lw_p37, List.forall_mem_cons.mpr ⟨lw_p38, List.forall_mem_cons.mpr ⟨lw_p39, List.forall_mem_cons.mpr ⟨lw_p40, List.forall_mem_cons.mpr ⟨lw_p41, List.forall_mem_cons.mpr ⟨lw_p42, List.forall_mem_cons.mpr ⟨lw_p43, List.forall_mem_cons.mpr ⟨lw_p44, List.forall_mem_cons.mpr ⟨lw_p45, List.forall_mem_cons.mpr ⟨lw_p46, List.forall_mem_cons.mpr ⟨lw_p47, fun _ h => absurd h List.not_mem_nil⟩⟩⟩⟩⟩⟩⟩⟩⟩⟩⟩⟩⟩⟩⟩⟩
theorem lw_p48 : lw_okq (⟨"FoundryNineModel", "wayNow", "(I)I"⟩, 16) := ⟨⟨by decide +kernel, by decide +kernel⟩, List.mem_of_getElem? (i := 789) (by decide +kernel), List.mem_of_getElem? (i := 973) (by decide +kernel), List.mem_of_getElem? (i := 974) (by decide +kernel)⟩
theorem lw_p49 : lw_okq (⟨"FoundryNineModel", "change", "(II)V"⟩, 16) := ⟨⟨by decide +kernel, by decide +kernel⟩, List.mem_of_getElem? (i := 789) (by decide +kernel), List.mem_of_getElem? (i := 985) (by decide +kernel), List.mem_of_getElem? (i := 986) (by decide +kernel)⟩
theorem lw_p50 : lw_okq (⟨"FoundryNineModel", "valueOf", "(I)I"⟩, 16) := ⟨⟨by decide +kernel, by decide +kernel⟩, List.mem_of_getElem? (i := 789) (by decide +kernel), List.mem_of_getElem? (i := 989) (by decide +kernel), List.mem_of_getElem? (i := 990) (by decide +kernel)⟩
theorem lw_p51 : lw_okq (⟨"FoundryNineModel", "askGate", "(I)V"⟩, 16) := ⟨⟨by decide +kernel, by decide +kernel⟩, List.mem_of_getElem? (i := 789) (by decide +kernel), List.mem_of_getElem? (i := 993) (by decide +kernel), List.mem_of_getElem? (i := 994) (by decide +kernel)⟩
theorem lw_p52 : lw_okq (⟨"FoundryNineModel", "reckon", "(I)I"⟩, 16) := ⟨⟨by decide +kernel, by decide +kernel⟩, List.mem_of_getElem? (i := 789) (by decide +kernel), List.mem_of_getElem? (i := 997) (by decide +kernel), List.mem_of_getElem? (i := 998) (by decide +kernel)⟩
theorem lw_p53 : lw_okq (⟨"FoundryNineModel", "pend", "(II)V"⟩, 16) := ⟨⟨by decide +kernel, by decide +kernel⟩, List.mem_of_getElem? (i := 789) (by decide +kernel), List.mem_of_getElem? (i := 1007) (by decide +kernel), List.mem_of_getElem? (i := 1008) (by decide +kernel)⟩
theorem lw_p54 : lw_okq (⟨"FoundryNineModel", "askRegister", "(III)V"⟩, 16) := ⟨⟨by decide +kernel, by decide +kernel⟩, List.mem_of_getElem? (i := 789) (by decide +kernel), List.mem_of_getElem? (i := 1011) (by decide +kernel), List.mem_of_getElem? (i := 1012) (by decide +kernel)⟩
theorem lw_p55 : lw_okq (⟨"FoundryNineModel", "noteHazard", "(II)V"⟩, 16) := ⟨⟨by decide +kernel, by decide +kernel⟩, List.mem_of_getElem? (i := 789) (by decide +kernel), List.mem_of_getElem? (i := 1015) (by decide +kernel), List.mem_of_getElem? (i := 1016) (by decide +kernel)⟩
theorem lw_p56 : lw_okq (⟨"FoundryNineModel", "pendingLines", "()I"⟩, 16) := ⟨⟨by decide +kernel, by decide +kernel⟩, List.mem_of_getElem? (i := 789) (by decide +kernel), List.mem_of_getElem? (i := 1019) (by decide +kernel), List.mem_of_getElem? (i := 1020) (by decide +kernel)⟩
theorem lw_p57 : lw_okq (⟨"FoundryNineModel", "asked", "(III)I"⟩, 16) := ⟨⟨by decide +kernel, by decide +kernel⟩, List.mem_of_getElem? (i := 789) (by decide +kernel), List.mem_of_getElem? (i := 1027) (by decide +kernel), List.mem_of_getElem? (i := 1028) (by decide +kernel)⟩
theorem lw_p58 : lw_okq (⟨"FoundryNineModel", "isInput", "(I)Z"⟩, 16) := ⟨⟨by decide +kernel, by decide +kernel⟩, List.mem_of_getElem? (i := 789) (by decide +kernel), List.mem_of_getElem? (i := 1031) (by decide +kernel), List.mem_of_getElem? (i := 1032) (by decide +kernel)⟩
theorem lw_p59 : lw_okq (⟨"FoundryNineModel", "setNow", "(II)I"⟩, 16) := ⟨⟨by decide +kernel, by decide +kernel⟩, List.mem_of_getElem? (i := 789) (by decide +kernel), List.mem_of_getElem? (i := 1035) (by decide +kernel), List.mem_of_getElem? (i := 1036) (by decide +kernel)⟩
theorem lw_p60 : lw_okq (⟨"FoundryNineModel", "beginCounting", "()V"⟩, 16) := ⟨⟨by decide +kernel, by decide +kernel⟩, List.mem_of_getElem? (i := 789) (by decide +kernel), List.mem_of_getElem? (i := 1039) (by decide +kernel), List.mem_of_getElem? (i := 1040) (by decide +kernel)⟩
theorem lw_p61 : lw_okq (⟨"FoundryNineModel", "passTo", "(I)I"⟩, 16) := ⟨⟨by decide +kernel, by decide +kernel⟩, List.mem_of_getElem? (i := 789) (by decide +kernel), List.mem_of_getElem? (i := 1047) (by decide +kernel), List.mem_of_getElem? (i := 1048) (by decide +kernel)⟩
theorem lw_p62 : lw_okq (⟨"FoundryNineModel", "nextLine", "()I"⟩, 16) := ⟨⟨by decide +kernel, by decide +kernel⟩, List.mem_of_getElem? (i := 789) (by decide +kernel), List.mem_of_getElem? (i := 1051) (by decide +kernel), List.mem_of_getElem? (i := 1052) (by decide +kernel)⟩
theorem lw_p63 : lw_okq (⟨"FoundryNineModel", "settleNow", "()I"⟩, 16) := ⟨⟨by decide +kernel, by decide +kernel⟩, List.mem_of_getElem? (i := 789) (by decide +kernel), List.mem_of_getElem? (i := 1059) (by decide +kernel), List.mem_of_getElem? (i := 1060) (by decide +kernel)⟩
def lw_privs_4 : List (MethodName × Nat) := [(⟨"FoundryNineModel", "wayNow", "(I)I"⟩, 16), (⟨"FoundryNineModel", "change", "(II)V"⟩, 16), (⟨"FoundryNineModel", "valueOf", "(I)I"⟩, 16), (⟨"FoundryNineModel", "askGate", "(I)V"⟩, 16), (⟨"FoundryNineModel", "reckon", "(I)I"⟩, 16), (⟨"FoundryNineModel", "pend", "(II)V"⟩, 16), (⟨"FoundryNineModel", "askRegister", "(III)V"⟩, 16), (⟨"FoundryNineModel", "noteHazard", "(II)V"⟩, 16), (⟨"FoundryNineModel", "pendingLines", "()I"⟩, 16), (⟨"FoundryNineModel", "asked", "(III)I"⟩, 16), (⟨"FoundryNineModel", "isInput", "(I)Z"⟩, 16), (⟨"FoundryNineModel", "setNow", "(II)I"⟩, 16), (⟨"FoundryNineModel", "beginCounting", "()V"⟩, 16), (⟨"FoundryNineModel", "passTo", "(I)I"⟩, 16), (⟨"FoundryNineModel", "nextLine", "()I"⟩, 16), (⟨"FoundryNineModel", "settleNow", "()I"⟩, 16)]
theorem lw_r4 : ∀ q ∈ lw_privs_4, lw_okq q := List.forall_mem_cons.mpr ⟨lw_p48, List.forall_mem_cons.mpr ⟨lw_p49, List.forall_mem_cons.mpr ⟨lw_p50, List.forall_mem_cons.mpr ⟨lw_p51, List.forall_mem_cons.mpr ⟨lw_p52, List.forall_mem_cons.mpr ⟨lw_p53, List.forall_mem_cons.mpr ⟨lw_p54, List.forall_mem_cons.mpr ⟨lw_p55, List.forall_mem_cons.mpr ⟨lw_p56, List.forall_mem_cons.mpr ⟨lw_p57, List.forall_mem_cons.mpr ⟨lw_p58, List.forall_mem_cons.mpr ⟨lw_p59, List.forall_mem_cons.mpr ⟨lw_p60, List.forall_mem_cons.mpr ⟨lw_p61, List.forall_mem_cons.mpr ⟨lw_p62, List.forall_mem_cons.mpr ⟨lw_p63, fun _ h => absurd h List.not_mem_nil⟩⟩⟩⟩⟩⟩⟩⟩⟩⟩⟩⟩⟩⟩⟩⟩
theorem lw_p64 : lw_okq (⟨"FoundryNineModel", "toldNow", "(I)I"⟩, 16) := ⟨⟨by decide +kernel, by decide +kernel⟩, List.mem_of_getElem? (i := 789) (by decide +kernel), List.mem_of_getElem? (i := 1072) (by decide +kernel), List.mem_of_getElem? (i := 1073) (by decide +kernel)⟩
theorem lw_p65 : lw_okq (⟨"FoundryNineModel", "putBy", "()[I"⟩, 16) := ⟨⟨by decide +kernel, by decide +kernel⟩, List.mem_of_getElem? (i := 789) (by decide +kernel), List.mem_of_getElem? (i := 1096) (by decide +kernel), List.mem_of_getElem? (i := 1097) (by decide +kernel)⟩
theorem lw_p66 : lw_okq (⟨"FoundryNineModel", "settlesNow", "()I"⟩, 16) := ⟨⟨by decide +kernel, by decide +kernel⟩, List.mem_of_getElem? (i := 789) (by decide +kernel), List.mem_of_getElem? (i := 1109) (by decide +kernel), List.mem_of_getElem? (i := 1110) (by decide +kernel)⟩
def lw_privs_5 : List (MethodName × Nat) := [(⟨"FoundryNineModel", "toldNow", "(I)I"⟩, 16), (⟨"FoundryNineModel", "putBy", "()[I"⟩, 16), (⟨"FoundryNineModel", "settlesNow", "()I"⟩, 16)]
theorem lw_r5 : ∀ q ∈ lw_privs_5, lw_okq q := List.forall_mem_cons.mpr ⟨lw_p64, List.forall_mem_cons.mpr ⟨lw_p65, List.forall_mem_cons.mpr ⟨lw_p66, fun _ h => absurd h List.not_mem_nil⟩⟩⟩
def lw_privs : List (MethodName × Nat) := lw_privs_1 ++ (lw_privs_2 ++ (lw_privs_3 ++ (lw_privs_4 ++ (lw_privs_5))))
def lw_tbl : List Cond := k2_sels lw_privs ++ tables_1
theorem lw_privs_ok : ∀ q ∈ lw_privs, lw_okq q := by
  show ∀ q ∈ lw_privs_1 ++ (lw_privs_2 ++ (lw_privs_3 ++ (lw_privs_4 ++ (lw_privs_5)))), lw_okq q
  exact List.forall_mem_append.mpr ⟨lw_r1, List.forall_mem_append.mpr ⟨lw_r2, List.forall_mem_append.mpr ⟨lw_r3, List.forall_mem_append.mpr ⟨lw_r4, lw_r5⟩⟩⟩⟩
/-- the streams that the claim lets the run draw from -/
abbrev lw_cs : List Choice := [Jvm.Choice.named "NaN.bits"]
theorem lw_bits : nanBits ∈ lw_cs := by first | decide | exact List.mem_cons_self | simp [lw_cs, nanBits]
end
section
/-! ===== BEGIN words of one list among another's, by their places ===== -/
theorem goodIn_r {big : List Cond} (ws : List Cond) (ps : List Nat) (hp : ws = ps.filterMap (fun i => big[i]?)) (h : ws.all goodWord = true) : GoodIn big ws := by
  intro w hw
  have h1 := List.all_eq_true.mp h w hw
  rw [hp] at hw
  obtain ⟨i, -, hi⟩ := List.mem_filterMap.mp hw
  have hm : w ∈ big := by first | exact List.mem_of_getElem? hi | exact List.getElem?_mem hi
  exact ⟨hm, good_of_word h1⟩
theorem goodIn_app {big a b : List Cond} (ha : GoodIn big a) (hb : GoodIn big b) : GoodIn big (a ++ b) := fun w h => (List.mem_append.mp h).elim (ha w) (hb w)
theorem goodIn_ca {big a b : List Cond} {c : Cond} (ha : GoodIn big (c :: a)) (hb : GoodIn big b) : GoodIn big (c :: (a ++ b)) := fun w h => (List.mem_cons.mp h).elim (fun e => ha w (List.mem_cons.mpr (Or.inl e))) (fun h => (List.mem_append.mp h).elim (fun h => ha w (List.mem_cons.mpr (Or.inr h))) (hb w))
theorem goodIn_sub {big ws : List Cond} (hm : ∀ w ∈ ws, w ∈ big) (h : ws.all goodWord = true) : GoodIn big ws := fun w hw => ⟨hm w hw, good_of_word (List.all_eq_true.mp h w hw)⟩
/-! ===== END ===== -/

/-! ===== BEGIN exceptions that leave a method, and their catching by the caller (launches without stack traces) ===== -/
section VXA
/-! The laws vx_back, vx_callV, vx_callS, vx_callSW, vx_throw0, vx_throwS follow proofs of the library, with one case more: JvmDerived/Free/Laws.lean (Back.of_free), Shelf42/LK1.lean (callV, callS), Shelf/KitTraced.lean (throwNew0V, throwNewS). -/
/-- where a method has thrown q: the class by its name, the cell, what was written, the world -/
def vx_T (XC : String → State → State → Prop) (st : State) (q : Addr) (t : State) (mc ms : Nat) (free : Addr → Prop) : Prop :=
  ∃ (E : String) (ce : Cell) (L : List Loc), XC E st t ∧ t.heap[q]? = some ce ∧ ce.vm = .none ∧ st.vm.findClass E = some ce.cls ∧ st.WarmedH t.vm ∧ st.sameButNew ({ t with vm := st.vm } : State) L mc ms ∧ ∀ z ∈ L, free z.base
def vx_Q (Qc : Array Value → State → Outcome → State → Prop) (XC : String → State → State → Prop) (mc ms : Nat) (free : Addr → Prop) : Array Value → State → Outcome → State → Prop := fun a st o t =>
  (Qc a st o t ∧ ∃ L, FrameEnd st o t L mc ms ∧ ∀ q ∈ L, free q.base) ∨ ∃ q, o = .threw q ∧ vx_T XC st q t mc ms free
/-- a callee that returns or throws -/
def vx_Met (l : Launch) (y : MethodName) (ws : List Cond) (rm : Room) (Pc : Array Value → State → Prop) (Qc : Array Value → State → Outcome → State → Prop) (XC : String → State → State → Prop) (mc ms : Nat) (free : Addr → Prop) : Prop :=
  MetFree l y (headSpec ws rm) Pc (fun _ _ _ _ _ => True) (vx_Q Qc XC mc ms free)
def vx_Post (XC : String → State → State → Prop) (mc ms : Nat) (free : Addr → Prop) : Pt → Array Value → Addr → Pt → Prop := fun A a q B =>
  ∃ (g : JFrame) (mk : MethodId) (t : State) (L : List Loc) (E : String) (ce : Cell), B.U.heap = t.heap ∧ B.U.vm = t.vm ∧ XC E (A.U.calling g mk a) t ∧ t.heap[q]? = some ce ∧ ce.vm = .none ∧ A.U.vm.findClass E = some ce.cls ∧ B.locs = A.locs ++ L ∧ (∀ z ∈ L, free z.base) ∧ B.cells = A.cells + mc ∧ B.slots = A.slots + ms
def vx_Back (l : Launch) (R : Room) (p : Program) (e : Env) (below : List Frame) (s : State) (sargs : Array Value) (y : MethodName) (len W9 : Nat)
    (Pre : Pt → Array Value → Prop) (Post : Pt → Array Value → Option Value → Pt → Prop) (PostX : Pt → Array Value → Addr → Pt → Prop) : Prop :=
  ∀ (m : MethodId) (meth : Method) (c : Code) (A : Pt) (g : JFrame) (ig : Instr) (mk : MethodId) (a : Array Value),
    Stand p l e R s m sargs below meth c A.U A.locs A.cells A.slots → g.method = m → g.locals.size = c.maxLocals → decode c.code g.pc = .ok (ig, len) →
    2 * g.monitorRoom + (g.stack.map fun v => v.category).sum ≤ W9 → A.U.methodNamed? y = some mk → Pre A a →
    (∃ (v : Option Value) (B : Pt), Stand p l e R s m sargs below meth c B.U B.locs B.cells B.slots ∧ Post A a v B ∧
      Steps p.tables e below (doInvoke e (A.U.setTop g) [] mk a).1 (B.U.setTop { g with pc := g.pc + len, stack := v.toList ++ g.stack })) ∨
    (∃ (q : Addr) (B : Pt), Stand p l e R s m sargs below meth c B.U B.locs B.cells B.slots ∧ PostX A a q B ∧
      Steps p.tables e below (doInvoke e (A.U.setTop g) [] mk a).1 ((B.U.setTop g).pushFrame (.throwing q)))
section Payer
variable {l : Launch} {R : Room} {p : Program} {e : Env} {below : List Frame} {s : State} {sargs : Array Value} {y : MethodName} {len W9 : Nat}
theorem vx_back {ws : List Cond} {rm : Room} {Pc : Array Value → State → Prop} {Qc : Array Value → State → Outcome → State → Prop} {XC : String → State → State → Prop} {mc ms : Nat} {free : Addr → Prop} {bytes : ByteArray} {maxL : Nat} {ret : Option FieldType}
    (hM : vx_Met l y ws rm Pc Qc XC mc ms free) (hblind : FrameBlind Pc) (hrc : rm.cells = mc) (hrs : rm.slots = ms)
    (hframes : rm.frames + 1 ≤ R.frames) (hlocals : W9 + (maxL + 11) + rm.locals ≤ R.locals)
    (hws : ∀ w ∈ ws, ∀ a' U, s.WarmedH U.vm → w.before a' U = true) (hcode : Cond.code y bytes maxL ret ∈ ws) (hinit : ∀ a' U, s.WarmedH U.vm → (Cond.initialized y.cls).before a' U = true) :
    vx_Back l R p e below s sargs y len W9 (PreOf R mc ms Pc) (PostOf Qc mc ms free) (vx_Post XC mc ms free) := by
  intro m meth c A g ig mk a X hg hsize hdg hW hn hp
  have h1 : (headSpec ws rm).pre.before a A.U = true := atoms_intro fun w hw => hws w hw _ _ X.warmed
  have h2 : (Cond.code y bytes maxL ret).before a A.U = true := hws _ hcode _ _ X.warmed
  have h3 : (Cond.initialized y.cls).before a A.U = true := hinit _ _ X.warmed
  have h4 : A.cells + (headSpec ws rm).room.cells ≤ R.cells := by rw [show (headSpec ws rm).room.cells = mc from hrc]; exact hp.1
  have h5 : A.slots + (headSpec ws rm).room.slots ≤ R.slots := by rw [show (headSpec ws rm).room.slots = ms from hrs]; exact hp.2.1
  have hPc : Pc a (A.U.calling g mk a) := hblind _ _ _ _ hp.2.2
  obtain ⟨U, Ls, c0, s0⟩ := A
  dsimp only [Pt.U, Pt.locs, Pt.cells, Pt.slots] at h1 h2 h3 h4 h5 X hn hPc ⊢
  obtain ⟨methY, cY, hmY, hcY, -, hlY, -, -, -, -⟩ := Cond.code_spec hn h2
  obtain ⟨kY, hkY, -⟩ := className_of_methodNamed hn
  have hinitY : kY.init = .initialized := Cond.initialized_spec (findClass_of_methodNamed hn) hkY h3
  have h : At U g.method c below := by rw [hg]; exact X.here
  have hlocals9 : W9 + (maxL + 11) + (headSpec ws rm).room.locals ≤ R.locals := hlocals
  have happ : (headSpec ws rm).appliesLoose y e.platform (U.calling g mk a) = true :=
    Spec.appliesLoose_calling (g := g) h hdg hn hkY hinitY
      (X.room_calling (g := g) (R' := (headSpec ws rm).room) hsize hmY hcY hframes (by rw [hlY]; omega) h4 h5) h1
  obtain ⟨mid, hmid⟩ := h.above
  have hfr : (U.setTop g).frames = (.java g :: mid) ++ below := by rw [State.frames_setTop' g h.top, hmid]; rfl
  obtain ⟨o, s₂, hsteps, -, hend, hq⟩ := Steps.callFree hM p X.admits X.cas X.clock (acts := []) hfr happ hPc trivial
  have hq' : vx_Q Qc XC mc ms free a (U.calling g mk a) o s₂ := hq
  rw [State.frames_setTop' g h.top] at hend
  obtain ⟨g₀, hg0⟩ := Option.isSome_iff_exists.mp h.top
  obtain ⟨r, hr⟩ := State.topJava?_eq_some.mp hg0
  have hr' : (({ U with heap := s₂.heap, slotsUsed := s₂.slotsUsed } : State).setVm s₂.vm).frames = .java g₀ :: r := hr
  rcases hq' with ⟨hqc, L, hfe, hL⟩ | ⟨q, rfl, E, ce, L, hx, hce, hcv, hcl, hW₂, hsm, hL⟩
  · obtain ⟨⟨v, rfl⟩, hW₂, e2, q2, q3, q4, q5, q6⟩ := id hfe
    have e3 : s₂ = ({ (U.calling g mk a).setFrames s₂.frames with heap := s₂.heap, slotsUsed := s₂.slotsUsed } : State).setVm s₂.vm := by
      have : s₂ = ({ s₂ with vm := (U.calling g mk a).vm } : State).setVm s₂.vm := rfl
      rw [e2] at this
      exact this
    obtain ⟨c₂, i₂, len₂, hc₂, hd₂, hf₂⟩ := hend
    have hW' : U.WarmedH s₂.vm := hW₂
    have hcc : c₂ = c := by
      have h1 : s₂.code? g.method = U.code? g.method := by
        rw [State.code?_eq, State.code?_eq, hW'.alike.method?]
      exact Option.some.inj (hc₂.symm.trans (h1.trans h.code))
    subst hcc
    have hlen : len₂ = len := by rw [hdg] at hd₂; cases hd₂; rfl
    subst hlen
    have hs₂ : s₂ = (({ U with heap := s₂.heap, slotsUsed := s₂.slotsUsed } : State).setVm s₂.vm).setTop { g with pc := g.pc + len₂, stack := v.toList ++ g.stack } := by
      refine e3.trans ?_
      rw [hf₂, State.calling_eq h.top, State.setFrames_setFrames, State.setTop_of_frames _ hr', hr]
      rfl
    have hsame : U.sameButNew ({ U with heap := s₂.heap, slotsUsed := s₂.slotsUsed } : State) L mc ms := by
      refine ⟨?_, q2, q3, q4, q5, q6⟩
      obtain ⟨t, ht, -⟩ := State.frames_cons hr
      show ({ U with heap := s₂.heap, slotsUsed := s₂.slotsUsed } : State) = { U.setFrames U.frames with heap := s₂.heap, slotsUsed := s₂.slotsUsed }
      rw [State.setFrames_self ht]
    subst hg
    refine Or.inl ⟨v, ⟨(({ U with heap := s₂.heap, slotsUsed := s₂.slotsUsed } : State).setVm s₂.vm), Ls ++ L, c0 + mc, s0 + ms⟩,
      ⟨X.admits, X.cas, X.clock, X.frames, X.room, X.hears, X.method, X.code, (X.here.setHeapUsed s₂.heap s₂.slotsUsed).setVm hW'.alike, X.tail, State.WarmedH.trans X.warmed hW', X.limits, X.bytes, X.same.trans (hsame.setVm s.vm)⟩,
      ⟨g, mk, s₂, L, rfl, rfl, hqc, rfl, hL, rfl, rfl⟩, ?_⟩
    show Steps p.tables e below _ ((({ U with heap := s₂.heap, slotsUsed := s₂.slotsUsed } : State).setVm s₂.vm).setTop { g with pc := g.pc + len₂, stack := v.toList ++ g.stack })
    rw [← hs₂]
    exact hsteps
  · obtain ⟨e2, q2, q3, q4, q5, q6⟩ := id hsm
    have e3 : s₂ = ({ (U.calling g mk a).setFrames s₂.frames with heap := s₂.heap, slotsUsed := s₂.slotsUsed } : State).setVm s₂.vm := by
      have : s₂ = ({ s₂ with vm := (U.calling g mk a).vm } : State).setVm s₂.vm := rfl
      rw [e2] at this
      exact this
    have hf₂ : s₂.frames = .throwing q :: .java g :: U.frames.tail := hend
    have hW' : U.WarmedH s₂.vm := hW₂
    have hs₂ : s₂ = ((({ U with heap := s₂.heap, slotsUsed := s₂.slotsUsed } : State).setVm s₂.vm).setTop g).pushFrame (.throwing q) := by
      refine e3.trans ?_
      rw [hf₂, State.calling_eq h.top, State.setFrames_setFrames, State.pushFrame, State.frames_setTop _ hr', State.setTop_of_frames _ hr', State.setFrames_setFrames, hr]
      rfl
    have hsame : U.sameButNew ({ U with heap := s₂.heap, slotsUsed := s₂.slotsUsed } : State) L mc ms := by
      refine ⟨?_, q2, q3, q4, q5, q6⟩
      obtain ⟨t, ht, -⟩ := State.frames_cons hr
      show ({ U with heap := s₂.heap, slotsUsed := s₂.slotsUsed } : State) = { U.setFrames U.frames with heap := s₂.heap, slotsUsed := s₂.slotsUsed }
      rw [State.setFrames_self ht]
    subst hg
    refine Or.inr ⟨q, ⟨(({ U with heap := s₂.heap, slotsUsed := s₂.slotsUsed } : State).setVm s₂.vm), Ls ++ L, c0 + mc, s0 + ms⟩,
      ⟨X.admits, X.cas, X.clock, X.frames, X.room, X.hears, X.method, X.code, (X.here.setHeapUsed s₂.heap s₂.slotsUsed).setVm hW'.alike, X.tail, State.WarmedH.trans X.warmed hW', X.limits, X.bytes, X.same.trans (hsame.setVm s.vm)⟩,
      ⟨g, mk, s₂, L, E, ce, rfl, rfl, hx, hce, hcv, hcl, rfl, hL, rfl, rfl⟩, ?_⟩
    show Steps p.tables e below _ (((({ U with heap := s₂.heap, slotsUsed := s₂.slotsUsed } : State).setVm s₂.vm).setTop g).pushFrame (.throwing q))
    rw [← hs₂]
    exact hsteps
end Payer
section Calls
variable {p : Program} {l : Launch} {e : Env} {R : Room} {s : State} {m : MethodId} {args : Array Value} {below : List Frame} {meth : Method} {c : Code} {T : State} {locs : List Loc} {cells slots : Nat}
theorem vx_callV (X : Stand p l e R s m args below meth c T locs cells slots) (hexec : p.tables.exec = Jvm.exec) {own C : String} {index : Nat} {y : MethodName} {bytes : ByteArray} {maxL : Nat} {ret : Option FieldType}
    (hown : s.vm.findClass own = some m.cls) (hlink : (Cond.methodLink own index y).before args s = true) (hinst : (Cond.instanceMethod y).before args s = true) (hsel : (Cond.selects C y y).before args s = true)
    (hcode : (Cond.code y bytes maxL ret).before args s = true) (hy : y.cls ≠ "java/lang/invoke/MethodHandle" ∧ y.cls ≠ "java/lang/invoke/VarHandle")
    {W9 : Nat} {Pre : Pt → Array Value → Prop} {Post : Pt → Array Value → Option Value → Pt → Prop} {PostX : Pt → Array Value → Addr → Pt → Prop} (hK : vx_Back l R p e below s args y 3 W9 Pre Post PostX)
    {b : Addr} {cellB : Cell} (hcell : T.heap[b]? = some cellB) (hobj : cellB.vm.isStatics = false) (hcls : s.vm.findClass C = some cellB.cls)
    {g : JFrame} (hg : g.method = m) (hsize : g.locals.size = c.maxLocals) {argsL rest : List Value} (hlen : ∀ sig, parseMethodDescriptor y.desc = some sig → argsL.length = sig.parameters.length)
    (hstack : g.stack = argsL.reverse ++ .ref b :: rest) (hW : 2 * g.monitorRoom + (rest.map fun v => v.category).sum ≤ W9) (hdg : decode c.code g.pc = .ok (.invokevirtual index, 3))
    (hpre : ∀ vm₁, s.WarmedH vm₁ → Pre ⟨T.setVm vm₁, locs, cells, slots⟩ (Value.ref b :: argsL).toArray) :
    (∃ (v : Option Value) (vm₁ : Vm) (B : Pt), s.WarmedH vm₁ ∧ Stand p l e R s m args below meth c B.U B.locs B.cells B.slots ∧ Post ⟨T.setVm vm₁, locs, cells, slots⟩ (Value.ref b :: argsL).toArray v B ∧
      ∀ target, Steps p.tables e below (B.U.setTop { g with pc := g.pc + 3, stack := v.toList ++ rest }) target → Steps p.tables e below (T.setTop g) target) ∨
    (∃ (q : Addr) (vm₁ : Vm) (B : Pt), s.WarmedH vm₁ ∧ Stand p l e R s m args below meth c B.U B.locs B.cells B.slots ∧ PostX ⟨T.setVm vm₁, locs, cells, slots⟩ (Value.ref b :: argsL).toArray q B ∧
      Steps p.tables e below (T.setTop g) ((B.U.setTop { g with stack := rest }).pushFrame (.throwing q))) := by
  obtain ⟨mk, methM, hnamed, hmethM, hstM, habM⟩ := Cond.instanceMethod_spec hinst
  obtain ⟨methM', cM, hmethM', -, -, -, -, -, -, hsigM⟩ := Cond.code_spec hnamed hcode
  cases hmethM.symm.trans hmethM'
  obtain ⟨c2, r2, m2, q1, q2, q3, q4, kP, hkP, hkPi⟩ := Cond.selects_spec hsel
  cases hcls.symm.trans q1
  cases (State.methodFound?_of_named hnamed hy).symm.trans q2
  cases hnamed.symm.trans q3
  have hselP : selectMethod e.platform s.vm cellB.cls mk = .method mk := by rw [Launch.admits_selectMethod X.admits]; exact q4
  obtain ⟨vm₁, X₁, hstep₁⟩ := X.invokevirtual hexec hown hlink hnamed hmethM hstM hkP hkPi hy (a := b) (cell := cellB) hcell
    (fun z h => by rw [h] at hobj; cases hobj) hselP hmethM habM hkP hkPi (g := g) hg (argsL := argsL) (rest := rest) (hlen _ hsigM) hstack hdg
  rcases hK m meth c ⟨T.setVm vm₁, locs, cells, slots⟩ { g with stack := rest } (.invokevirtual index) mk (Value.ref b :: argsL).toArray X₁ hg hsize hdg hW (X₁.named hnamed) (hpre vm₁ X₁.warmed) with ⟨v, B, X', hpost, hsteps⟩ | ⟨q, B, X', hpost, hsteps⟩
  · exact Or.inl ⟨v, vm₁, B, X₁.warmed, X', hpost, fun target h => hstep₁ _ fun acts => by rw [doInvoke_state]; exact hsteps.trans h⟩
  · exact Or.inr ⟨q, vm₁, B, X₁.warmed, X', hpost, hstep₁ _ fun acts => by rw [doInvoke_state]; exact hsteps⟩
theorem vx_callS (X : Stand p l e R s m args below meth c T locs cells slots) (hexec : p.tables.exec = Jvm.exec) {own : String} {index : Nat} {y : MethodName} {bytes : ByteArray} {maxL : Nat} {ret : Option FieldType}
    (hown : s.vm.findClass own = some m.cls) (hlink : (Cond.methodLink own index y).before args s = true) (hstat : (Cond.static y).before args s = true) (hinit : (Cond.initialized y.cls).before args s = true)
    (hcode : (Cond.code y bytes maxL ret).before args s = true) (hy : y.cls ≠ "java/lang/invoke/MethodHandle" ∧ y.cls ≠ "java/lang/invoke/VarHandle")
    {W9 : Nat} {Pre : Pt → Array Value → Prop} {Post : Pt → Array Value → Option Value → Pt → Prop} {PostX : Pt → Array Value → Addr → Pt → Prop} (hK : vx_Back l R p e below s args y 3 W9 Pre Post PostX)
    {g : JFrame} (hg : g.method = m) (hsize : g.locals.size = c.maxLocals) {argsL rest : List Value} (hlen : ∀ sig, parseMethodDescriptor y.desc = some sig → argsL.length = sig.parameters.length)
    (hstack : g.stack = argsL.reverse ++ rest) (hW : 2 * g.monitorRoom + (rest.map fun v => v.category).sum ≤ W9) (hdg : decode c.code g.pc = .ok (.invokestatic index, 3))
    (hpre : ∀ vm₁, s.WarmedH vm₁ → Pre ⟨T.setVm vm₁, locs, cells, slots⟩ argsL.toArray) :
    (∃ (v : Option Value) (vm₁ : Vm) (B : Pt), s.WarmedH vm₁ ∧ Stand p l e R s m args below meth c B.U B.locs B.cells B.slots ∧ Post ⟨T.setVm vm₁, locs, cells, slots⟩ argsL.toArray v B ∧
      ∀ target, Steps p.tables e below (B.U.setTop { g with pc := g.pc + 3, stack := v.toList ++ rest }) target → Steps p.tables e below (T.setTop g) target) ∨
    (∃ (q : Addr) (vm₁ : Vm) (B : Pt), s.WarmedH vm₁ ∧ Stand p l e R s m args below meth c B.U B.locs B.cells B.slots ∧ PostX ⟨T.setVm vm₁, locs, cells, slots⟩ argsL.toArray q B ∧
      Steps p.tables e below (T.setTop g) ((B.U.setTop { g with stack := rest }).pushFrame (.throwing q))) := by
  obtain ⟨mk, hnamed⟩ := Cond.code_named hcode
  obtain ⟨methM, cM, hmethM, -, -, -, -, -, -, hsigM⟩ := Cond.code_spec hnamed hcode
  have hstatic : methM.isStatic = true := Cond.static_spec hnamed hmethM hstat
  obtain ⟨kP, hkP, -⟩ := className_of_methodNamed hnamed
  have hinitP : kP.init = .initialized := Cond.initialized_spec (findClass_of_methodNamed hnamed) hkP hinit
  obtain ⟨vm₁, X₁, hstep₁⟩ := X.invokestatic hexec hown hlink hnamed hmethM hstatic hkP hinitP hy (g := g) hg (argsL := argsL) (rest := rest) (hlen _ hsigM) hstack hdg
  rcases hK m meth c ⟨T.setVm vm₁, locs, cells, slots⟩ { g with stack := rest } (.invokestatic index) mk argsL.toArray X₁ hg hsize hdg hW (X₁.named hnamed) (hpre vm₁ X₁.warmed) with ⟨v, B, X', hpost, hsteps⟩ | ⟨q, B, X', hpost, hsteps⟩
  · exact Or.inl ⟨v, vm₁, B, X₁.warmed, X', hpost, fun target h => hstep₁ _ fun acts => by rw [doInvoke_state]; exact hsteps.trans h⟩
  · exact Or.inr ⟨q, vm₁, B, X₁.warmed, X', hpost, hstep₁ _ fun acts => by rw [doInvoke_state]; exact hsteps⟩
end Calls
theorem vx_cls {s : State} {T : State} {vm₁ : Vm} {E : String} {k : ClassId} (hW : s.WarmedH vm₁) (h : (T.setVm vm₁).vm.findClass E = some k) : s.vm.findClass E = some k := by
  have h1 : vm₁.findClass E = some k := h
  rw [hW.alike.findClass] at h1
  exact h1
/-- the method's frame g, with q thrown over it -/
def vx_W (p : Program) (l : Launch) (e : Env) (R : Room) (s : State) (m : MethodId) (args : Array Value) (below : List Frame) (meth : Method) (c : Code) (H : Heap) (locs : List Loc) (cells slots : Nat) (Q : State → Prop) (g : JFrame) (q : Addr) : Prop :=
  ∀ T : State, T.heap = H → Stand p l e R s m args below meth c T locs cells slots → ∃ t, Steps p.tables e below ((T.setTop g).pushFrame (.throwing q)) t ∧ Q t
def vx_Run (p : Program) (l : Launch) (e : Env) (R : Room) (s : State) (m : MethodId) (args : Array Value) (below : List Frame) (meth : Method) (c : Code) (H : Heap) (locs : List Loc) (cells slots mc ms : Nat) (g : JFrame) (rest : List Value) (Qa : State → Outcome → State → Prop) (XC : String → State → State → Prop) (free : Addr → Prop) : Prop :=
  ∀ T : State, T.heap = H → Stand p l e R s m args below meth c T locs cells slots →
    (∃ (v : Option Value) (st₀ t T' : State) (L : List Loc), st₀.heap = H ∧ Stand p l e R s m args below meth c T' (locs ++ L) (cells + mc) (slots + ms) ∧ (∀ q ∈ L, free q.base) ∧ T'.heap = t.heap ∧ T'.vm = t.vm ∧ Qa st₀ (.returned v) t ∧
      Goes p e below T g T' { g with pc := g.pc + 3, stack := v.toList ++ rest }) ∨
    (∃ (q : Addr) (st₀ t T' : State) (L : List Loc) (E : String) (ce : Cell), st₀.heap = H ∧ Stand p l e R s m args below meth c T' (locs ++ L) (cells + mc) (slots + ms) ∧ (∀ z ∈ L, free z.base) ∧ T'.heap = t.heap ∧ T'.vm = t.vm ∧ XC E st₀ t ∧ t.heap[q]? = some ce ∧ ce.vm = .none ∧ s.vm.findClass E = some ce.cls ∧
      Steps p.tables e below (T.setTop g) ((T'.setTop { g with stack := rest }).pushFrame (.throwing q)))
def vx_X {S : Type} (px : S → Prop) (B : String → S → State → Prop) (A : Nat → Prop) : String → State → State → Prop := fun E st t => ∃ u : S, px u ∧ B E u t ∧ va_F A st t
section Runs
variable {p : Program} {l : Launch} {e : Env} {R : Room} {s : State} {m : MethodId} {args : Array Value} {below : List Frame} {meth : Method} {c : Code} {H : Heap} {locs : List Loc} {cells slots : Nat}
variable {y : MethodName} {bytes cc : ByteArray} {maxL nL mc ms n index : Nat} {ret : Option FieldType} {ws : List Cond} {rm : Room} {Pc : Array Value → State → Prop} {Qc : Array Value → State → Outcome → State → Prop} {XC : String → State → State → Prop} {free : Addr → Prop} {Ts : List Cond} {own C : String} {b : Addr} {As rest : List Value} {g : JFrame}
theorem vx_callBack (cb : CallB R s args own index y bytes maxL ret ws rm mc ms n) (hM : vx_Met l y ws rm Pc Qc XC mc ms free) (hbl : FrameBlind Pc) : vx_Back l R p e below s args y 3 8 (PreOf R mc ms Pc) (PostOf Qc mc ms free) (vx_Post XC mc ms free) := by
  obtain ⟨hrc, hrs, hfr, hlo, hws, hcw, -, hini, -⟩ := cb
  exact vx_back (bytes := bytes) (maxL := maxL) (ret := ret) hM hbl hrc hrs hfr hlo hws hcw (fun a' U hW => word_at hW (Or.inl (by first | rfl | simp [Cond.onTables, Cond.keeps, Cond.steady])) hini)
theorem vx_runV (S : CallFix p m c cc nL s args Ts own) (hM : vx_Met l y ws rm Pc Qc XC mc ms free) (cw : CallW R s args own C index y bytes maxL ret ws rm mc ms n) (hp : PreV s H C b Pc As)
    (hg : g.method = m) (hn : As.length = n) (hsize : g.locals.size = nL) (hstack : g.stack = As.reverse ++ .ref b :: rest) (hW : 2 * g.monitorRoom + (rest.map fun v => v.category).sum ≤ 8) (hdg : decode cc g.pc = .ok (.invokevirtual index, 3)) (hf : cells + mc ≤ R.cells ∧ slots + ms ≤ R.slots) :
    vx_Run p l e R s m args below meth c H locs cells slots mc ms g rest (Qc (Value.ref b :: As).toArray) XC free := by
  have hK : vx_Back l R p e below s args y 3 8 (PreOf R mc ms Pc) (PostOf Qc mc ms free) (vx_Post XC mc ms free) := vx_callBack cw.1 hM hp.1
  obtain ⟨⟨-, -, -, -, -, -, hcode, -, hy, hlen, hl⟩, hin, hse⟩ := cw
  obtain ⟨hx, hb, hml, ho, -⟩ := S
  obtain ⟨-, ⟨cellB, hcB, hoB, hclB⟩, hPc⟩ := hp
  intro T hT X
  rcases vx_callV X hx (C := C) (bytes := bytes) (maxL := maxL) (ret := ret) ho hl hin hse hcode hy hK (by rw [hT]; exact hcB) hoB hclB hg (hsize.trans hml.symm) (argsL := As) (rest := rest) (fun sig h => hn.trans (hlen sig h)) hstack hW (by rw [hb]; exact hdg)
    (fun vm₁ hW₁ => ⟨hf.1, hf.2, hPc (T.setVm vm₁) hT hW₁⟩) with ⟨v, vm₁, ⟨U', l2, c2, s2⟩, hW₁, X', ⟨g', mk, t, L, e1, e2, hq, h1, hL, h2, h3⟩, st⟩ | ⟨q, vm₁, ⟨U', l2, c2, s2⟩, hW₁, X', ⟨g', mk, t, L, E, ce, e1, e2, hq, hce, hcv, hcl, h1, hL, h2, h3⟩, st⟩
  · dsimp only [Pt.U, Pt.locs, Pt.cells, Pt.slots] at X' e1 e2 h1 h2 h3 st
    subst h1; subst h2; subst h3
    exact Or.inl ⟨v, (T.setVm vm₁).calling g' mk (Value.ref b :: As).toArray, t, U', L, hT, X', hL, e1, e2, hq, st⟩
  · dsimp only [Pt.U, Pt.locs, Pt.cells, Pt.slots] at X' e1 e2 h1 h2 h3 st hcl
    subst h1; subst h2; subst h3
    exact Or.inr ⟨q, (T.setVm vm₁).calling g' mk (Value.ref b :: As).toArray, t, U', L, E, ce, hT, X', hL, e1, e2, hq, hce, hcv, vx_cls hW₁ hcl, st⟩
theorem vx_runS (S : CallFix p m c cc nL s args Ts own) (hM : vx_Met l y ws rm Pc Qc XC mc ms free) (cw : CallB R s args own index y bytes maxL ret ws rm mc ms n ∧ (Cond.static y).before args s = true) (hp : PreS s H Pc As)
    (hg : g.method = m) (hn : As.length = n) (hsize : g.locals.size = nL) (hstack : g.stack = As.reverse ++ rest) (hW : 2 * g.monitorRoom + (rest.map fun v => v.category).sum ≤ 8) (hdg : decode cc g.pc = .ok (.invokestatic index, 3)) (hf : cells + mc ≤ R.cells ∧ slots + ms ≤ R.slots) :
    vx_Run p l e R s m args below meth c H locs cells slots mc ms g rest (Qc As.toArray) XC free := by
  have hK : vx_Back l R p e below s args y 3 8 (PreOf R mc ms Pc) (PostOf Qc mc ms free) (vx_Post XC mc ms free) := vx_callBack cw.1 hM hp.1
  obtain ⟨⟨-, -, -, -, -, -, hcode, hini, hy, hlen, hl⟩, hstt⟩ := cw
  obtain ⟨hx, hb, hml, ho, -⟩ := S
  intro T hT X
  rcases vx_callS X hx (bytes := bytes) (maxL := maxL) (ret := ret) ho hl hstt hini hcode hy hK hg (hsize.trans hml.symm) (argsL := As) (rest := rest) (fun sig h => hn.trans (hlen sig h)) hstack hW (by rw [hb]; exact hdg)
    (fun vm₁ hW₁ => ⟨hf.1, hf.2, hp.2 (T.setVm vm₁) hT hW₁⟩) with ⟨v, vm₁, ⟨U', l2, c2, s2⟩, hW₁, X', ⟨g', mk, t, L, e1, e2, hq, h1, hL, h2, h3⟩, st⟩ | ⟨q, vm₁, ⟨U', l2, c2, s2⟩, hW₁, X', ⟨g', mk, t, L, E, ce, e1, e2, hq, hce, hcv, hcl, h1, hL, h2, h3⟩, st⟩
  · dsimp only [Pt.U, Pt.locs, Pt.cells, Pt.slots] at X' e1 e2 h1 h2 h3 st
    subst h1; subst h2; subst h3
    exact Or.inl ⟨v, (T.setVm vm₁).calling g' mk As.toArray, t, U', L, hT, X', hL, e1, e2, hq, st⟩
  · dsimp only [Pt.U, Pt.locs, Pt.cells, Pt.slots] at X' e1 e2 h1 h2 h3 st hcl
    subst h1; subst h2; subst h3
    exact Or.inr ⟨q, (T.setVm vm₁).calling g' mk As.toArray, t, U', L, E, ce, hT, X', hL, e1, e2, hq, hce, hcv, vx_cls hW₁ hcl, st⟩
end Runs
section Rows
variable {p : Program} {l : Launch} {e : Env} {R : Room} {s : State} {m : MethodId} {args : Array Value} {below : List Frame} {meth : Method} {c : Code} {H : Heap} {locs : List Loc} {cells slots : Nat} {Q : State → Prop}
variable {mc ms : Nat} {free : Addr → Prop} {A0 A1 : Nat → Prop} {H0 : Heap} {a : Array Value} {pc : Nat} {ls : Array Slot} {st0 rest : List Value}
theorem vx_keep {st₀ t T' : State} {L : List Loc} (h0 : st₀.heap = H) (e1 : T'.heap = t.heap) (hS : va_S A0 H0 H locs) (hA : ∀ q, q < H.size → A1 q → A0 q) (hf : ∀ q, free q → A0 q) (hL : ∀ q ∈ L, free q.base) (hF : va_F A1 st₀ t) :
    H.size ≤ T'.heap.size ∧ (∀ q : Nat, q < H.size → ¬ A1 q → T'.heap[q]? = H[q]?) ∧ va_S A0 H0 T'.heap (locs ++ L) := by
  obtain ⟨hz, hk⟩ := hF
  rw [h0] at hz hk
  exact ⟨by rw [e1]; exact hz, fun q h1 h2 => by rw [e1]; exact hk q h1 h2,
    ⟨Nat.le_trans hS.1 (by rw [e1]; exact hz), fun q h1 h2 => by rw [e1, hk q (Nat.lt_of_lt_of_le h1 hS.1) (fun z => h2 (hA q (Nat.lt_of_lt_of_le h1 hS.1) z))]; exact hS.2.1 q h1 h2, fun q hq => by
      rcases List.mem_append.mp hq with h | h
      · exact hS.2.2 q h
      · exact hf _ (hL q h)⟩⟩
theorem vx_calli {S SX : Type} {post : Int32 → S → Prop} {px : SX → Prop} {B : S → State → Prop} {BX : String → SX → State → Prop} {AX : Nat → Prop} (hr : vx_Run p l e R s m args below meth c H locs cells slots mc ms (F0 m pc ls st0) rest (va_Qi post B A1 a) (vx_X px BX AX) free) (hS : va_S A0 H0 H locs) (hA : ∀ q, q < H.size → A1 q → A0 q) (hf : ∀ q, free q → A0 q) (hAX : ∀ q, q < H.size → AX q → A0 q)
    (kx : ∀ (E : String) (ce : Cell) (q9 : Addr) (u : SX) (t : State) (H1 : Heap) (locs1 : List Loc), t.heap = H1 → s.vm.Alike t.vm → px u → BX E u t → H.size ≤ H1.size → (∀ q : Nat, q < H.size → ¬ AX q → H1[q]? = H[q]?) → va_S A0 H0 H1 locs1 → H1[q9]? = some ce → ce.vm = .none → s.vm.findClass E = some ce.cls → vx_W p l e R s m args below meth c H1 locs1 (cells + mc) (slots + ms) Q (F0 m pc ls rest) q9)
    (kk : ∀ (r : Int32) (u : S) (t : State) (H1 : Heap) (locs1 : List Loc), t.heap = H1 → s.vm.Alike t.vm → post r u → B u t → H.size ≤ H1.size → (∀ q : Nat, q < H.size → ¬ A1 q → H1[q]? = H[q]?) → va_S A0 H0 H1 locs1 → W p l e R s m args below meth c H1 locs1 (cells + mc) (slots + ms) Q (F0 m (pc + 3) ls (.int r :: rest))) : W p l e R s m args below meth c H locs cells slots Q (F0 m pc ls st0) := by
  intro T hT X
  rcases hr T hT X with ⟨v, st₀, t, T', L, h0, X', hL, e1, e2, ⟨⟨r, u, hv, hp, hb⟩, hF⟩, st⟩ | ⟨q, st₀, t, T', L, E, ce, h0, X', hL, e1, e2, ⟨u, hp, hb, hF⟩, hce, hcv, hcl, st⟩
  · cases hv
    obtain ⟨k1, k2, k3⟩ := vx_keep h0 e1 hS hA hf hL hF
    obtain ⟨t2, a1, b1⟩ := kk r u t T'.heap (locs ++ L) e1.symm (by rw [← e2]; exact X'.warmed.alike) hp hb k1 k2 k3 T' rfl X'
    exact ⟨t2, st t2 a1, b1⟩
  · obtain ⟨k1, k2, k3⟩ := vx_keep h0 e1 hS hAX hf hL hF
    obtain ⟨t2, a1, b1⟩ := kx E ce q u t T'.heap (locs ++ L) e1.symm (by rw [← e2]; exact X'.warmed.alike) hp hb k1 k2 k3 (by rw [e1]; exact hce) hcv hcl T' rfl X'
    exact ⟨t2, st.trans a1, b1⟩
theorem vx_calll {S SX : Type} {post : Int64 → S → Prop} {px : SX → Prop} {B : S → State → Prop} {BX : String → SX → State → Prop} {AX : Nat → Prop} (hr : vx_Run p l e R s m args below meth c H locs cells slots mc ms (F0 m pc ls st0) rest (va_Ql post B A1 a) (vx_X px BX AX) free) (hS : va_S A0 H0 H locs) (hA : ∀ q, q < H.size → A1 q → A0 q) (hf : ∀ q, free q → A0 q) (hAX : ∀ q, q < H.size → AX q → A0 q)
    (kx : ∀ (E : String) (ce : Cell) (q9 : Addr) (u : SX) (t : State) (H1 : Heap) (locs1 : List Loc), t.heap = H1 → s.vm.Alike t.vm → px u → BX E u t → H.size ≤ H1.size → (∀ q : Nat, q < H.size → ¬ AX q → H1[q]? = H[q]?) → va_S A0 H0 H1 locs1 → H1[q9]? = some ce → ce.vm = .none → s.vm.findClass E = some ce.cls → vx_W p l e R s m args below meth c H1 locs1 (cells + mc) (slots + ms) Q (F0 m pc ls rest) q9)
    (kk : ∀ (r : Int64) (u : S) (t : State) (H1 : Heap) (locs1 : List Loc), t.heap = H1 → s.vm.Alike t.vm → post r u → B u t → H.size ≤ H1.size → (∀ q : Nat, q < H.size → ¬ A1 q → H1[q]? = H[q]?) → va_S A0 H0 H1 locs1 → W p l e R s m args below meth c H1 locs1 (cells + mc) (slots + ms) Q (F0 m (pc + 3) ls (.long r :: rest))) : W p l e R s m args below meth c H locs cells slots Q (F0 m pc ls st0) := by
  intro T hT X
  rcases hr T hT X with ⟨v, st₀, t, T', L, h0, X', hL, e1, e2, ⟨⟨r, u, hv, hp, hb⟩, hF⟩, st⟩ | ⟨q, st₀, t, T', L, E, ce, h0, X', hL, e1, e2, ⟨u, hp, hb, hF⟩, hce, hcv, hcl, st⟩
  · cases hv
    obtain ⟨k1, k2, k3⟩ := vx_keep h0 e1 hS hA hf hL hF
    obtain ⟨t2, a1, b1⟩ := kk r u t T'.heap (locs ++ L) e1.symm (by rw [← e2]; exact X'.warmed.alike) hp hb k1 k2 k3 T' rfl X'
    exact ⟨t2, st t2 a1, b1⟩
  · obtain ⟨k1, k2, k3⟩ := vx_keep h0 e1 hS hAX hf hL hF
    obtain ⟨t2, a1, b1⟩ := kx E ce q u t T'.heap (locs ++ L) e1.symm (by rw [← e2]; exact X'.warmed.alike) hp hb k1 k2 k3 (by rw [e1]; exact hce) hcv hcl T' rfl X'
    exact ⟨t2, st.trans a1, b1⟩
theorem vx_callf {S SX : Type} {post : UInt32 → S → Prop} {px : SX → Prop} {B : S → State → Prop} {BX : String → SX → State → Prop} {AX : Nat → Prop} (hr : vx_Run p l e R s m args below meth c H locs cells slots mc ms (F0 m pc ls st0) rest (va_Qf post B A1 a) (vx_X px BX AX) free) (hS : va_S A0 H0 H locs) (hA : ∀ q, q < H.size → A1 q → A0 q) (hf : ∀ q, free q → A0 q) (hAX : ∀ q, q < H.size → AX q → A0 q)
    (kx : ∀ (E : String) (ce : Cell) (q9 : Addr) (u : SX) (t : State) (H1 : Heap) (locs1 : List Loc), t.heap = H1 → s.vm.Alike t.vm → px u → BX E u t → H.size ≤ H1.size → (∀ q : Nat, q < H.size → ¬ AX q → H1[q]? = H[q]?) → va_S A0 H0 H1 locs1 → H1[q9]? = some ce → ce.vm = .none → s.vm.findClass E = some ce.cls → vx_W p l e R s m args below meth c H1 locs1 (cells + mc) (slots + ms) Q (F0 m pc ls rest) q9)
    (kk : ∀ (r : UInt32) (u : S) (t : State) (H1 : Heap) (locs1 : List Loc), t.heap = H1 → s.vm.Alike t.vm → post r u → B u t → H.size ≤ H1.size → (∀ q : Nat, q < H.size → ¬ A1 q → H1[q]? = H[q]?) → va_S A0 H0 H1 locs1 → W p l e R s m args below meth c H1 locs1 (cells + mc) (slots + ms) Q (F0 m (pc + 3) ls (.float r :: rest))) : W p l e R s m args below meth c H locs cells slots Q (F0 m pc ls st0) := by
  intro T hT X
  rcases hr T hT X with ⟨v, st₀, t, T', L, h0, X', hL, e1, e2, ⟨⟨r, u, hv, hp, hb⟩, hF⟩, st⟩ | ⟨q, st₀, t, T', L, E, ce, h0, X', hL, e1, e2, ⟨u, hp, hb, hF⟩, hce, hcv, hcl, st⟩
  · cases hv
    obtain ⟨k1, k2, k3⟩ := vx_keep h0 e1 hS hA hf hL hF
    obtain ⟨t2, a1, b1⟩ := kk r u t T'.heap (locs ++ L) e1.symm (by rw [← e2]; exact X'.warmed.alike) hp hb k1 k2 k3 T' rfl X'
    exact ⟨t2, st t2 a1, b1⟩
  · obtain ⟨k1, k2, k3⟩ := vx_keep h0 e1 hS hAX hf hL hF
    obtain ⟨t2, a1, b1⟩ := kx E ce q u t T'.heap (locs ++ L) e1.symm (by rw [← e2]; exact X'.warmed.alike) hp hb k1 k2 k3 (by rw [e1]; exact hce) hcv hcl T' rfl X'
    exact ⟨t2, st.trans a1, b1⟩
theorem vx_calld {S SX : Type} {post : UInt64 → S → Prop} {px : SX → Prop} {B : S → State → Prop} {BX : String → SX → State → Prop} {AX : Nat → Prop} (hr : vx_Run p l e R s m args below meth c H locs cells slots mc ms (F0 m pc ls st0) rest (va_Qd post B A1 a) (vx_X px BX AX) free) (hS : va_S A0 H0 H locs) (hA : ∀ q, q < H.size → A1 q → A0 q) (hf : ∀ q, free q → A0 q) (hAX : ∀ q, q < H.size → AX q → A0 q)
    (kx : ∀ (E : String) (ce : Cell) (q9 : Addr) (u : SX) (t : State) (H1 : Heap) (locs1 : List Loc), t.heap = H1 → s.vm.Alike t.vm → px u → BX E u t → H.size ≤ H1.size → (∀ q : Nat, q < H.size → ¬ AX q → H1[q]? = H[q]?) → va_S A0 H0 H1 locs1 → H1[q9]? = some ce → ce.vm = .none → s.vm.findClass E = some ce.cls → vx_W p l e R s m args below meth c H1 locs1 (cells + mc) (slots + ms) Q (F0 m pc ls rest) q9)
    (kk : ∀ (r : UInt64) (u : S) (t : State) (H1 : Heap) (locs1 : List Loc), t.heap = H1 → s.vm.Alike t.vm → post r u → B u t → H.size ≤ H1.size → (∀ q : Nat, q < H.size → ¬ A1 q → H1[q]? = H[q]?) → va_S A0 H0 H1 locs1 → W p l e R s m args below meth c H1 locs1 (cells + mc) (slots + ms) Q (F0 m (pc + 3) ls (.double r :: rest))) : W p l e R s m args below meth c H locs cells slots Q (F0 m pc ls st0) := by
  intro T hT X
  rcases hr T hT X with ⟨v, st₀, t, T', L, h0, X', hL, e1, e2, ⟨⟨r, u, hv, hp, hb⟩, hF⟩, st⟩ | ⟨q, st₀, t, T', L, E, ce, h0, X', hL, e1, e2, ⟨u, hp, hb, hF⟩, hce, hcv, hcl, st⟩
  · cases hv
    obtain ⟨k1, k2, k3⟩ := vx_keep h0 e1 hS hA hf hL hF
    obtain ⟨t2, a1, b1⟩ := kk r u t T'.heap (locs ++ L) e1.symm (by rw [← e2]; exact X'.warmed.alike) hp hb k1 k2 k3 T' rfl X'
    exact ⟨t2, st t2 a1, b1⟩
  · obtain ⟨k1, k2, k3⟩ := vx_keep h0 e1 hS hAX hf hL hF
    obtain ⟨t2, a1, b1⟩ := kx E ce q u t T'.heap (locs ++ L) e1.symm (by rw [← e2]; exact X'.warmed.alike) hp hb k1 k2 k3 (by rw [e1]; exact hce) hcv hcl T' rfl X'
    exact ⟨t2, st.trans a1, b1⟩
theorem vx_callv {S SX : Type} {post : S → Prop} {px : SX → Prop} {B : S → State → Prop} {BX : String → SX → State → Prop} {AX : Nat → Prop} (hr : vx_Run p l e R s m args below meth c H locs cells slots mc ms (F0 m pc ls st0) rest (va_Qv post B A1 a) (vx_X px BX AX) free) (hS : va_S A0 H0 H locs) (hA : ∀ q, q < H.size → A1 q → A0 q) (hf : ∀ q, free q → A0 q) (hAX : ∀ q, q < H.size → AX q → A0 q)
    (kx : ∀ (E : String) (ce : Cell) (q9 : Addr) (u : SX) (t : State) (H1 : Heap) (locs1 : List Loc), t.heap = H1 → s.vm.Alike t.vm → px u → BX E u t → H.size ≤ H1.size → (∀ q : Nat, q < H.size → ¬ AX q → H1[q]? = H[q]?) → va_S A0 H0 H1 locs1 → H1[q9]? = some ce → ce.vm = .none → s.vm.findClass E = some ce.cls → vx_W p l e R s m args below meth c H1 locs1 (cells + mc) (slots + ms) Q (F0 m pc ls rest) q9)
    (kk : ∀ (u : S) (t : State) (H1 : Heap) (locs1 : List Loc), t.heap = H1 → s.vm.Alike t.vm → post u → B u t → H.size ≤ H1.size → (∀ q : Nat, q < H.size → ¬ A1 q → H1[q]? = H[q]?) → va_S A0 H0 H1 locs1 → W p l e R s m args below meth c H1 locs1 (cells + mc) (slots + ms) Q (F0 m (pc + 3) ls (rest))) : W p l e R s m args below meth c H locs cells slots Q (F0 m pc ls st0) := by
  intro T hT X
  rcases hr T hT X with ⟨v, st₀, t, T', L, h0, X', hL, e1, e2, ⟨⟨u, hv, hp, hb⟩, hF⟩, st⟩ | ⟨q, st₀, t, T', L, E, ce, h0, X', hL, e1, e2, ⟨u, hp, hb, hF⟩, hce, hcv, hcl, st⟩
  · cases hv
    obtain ⟨k1, k2, k3⟩ := vx_keep h0 e1 hS hA hf hL hF
    obtain ⟨t2, a1, b1⟩ := kk u t T'.heap (locs ++ L) e1.symm (by rw [← e2]; exact X'.warmed.alike) hp hb k1 k2 k3 T' rfl X'
    exact ⟨t2, st t2 a1, b1⟩
  · obtain ⟨k1, k2, k3⟩ := vx_keep h0 e1 hS hAX hf hL hF
    obtain ⟨t2, a1, b1⟩ := kx E ce q u t T'.heap (locs ++ L) e1.symm (by rw [← e2]; exact X'.warmed.alike) hp hb k1 k2 k3 (by rw [e1]; exact hce) hcv hcl T' rfl X'
    exact ⟨t2, st.trans a1, b1⟩
/-- caught by the row x of this method's table; the rows ahead don't take it -/
theorem vx_catch {own name : String} {E : String} {ce : Cell} {q : Addr} (hown : s.vm.findClass own = some m.cls) (pre : List ExceptionTableEntry) (x : ExceptionTableEntry) (suf : List ExceptionTableEntry) (hsplit : c.exceptionTable.toList = pre ++ x :: suf)
    (hpass : ∀ z ∈ pre, covers z pc = false ∨ (z.catchType ≠ 0 ∧ ∃ nm : String, (Cond.classLink own z.catchType nm).before args s = true ∧ va_Nc E nm s)) (hx : covers x pc = true) (h0 : x.catchType ≠ 0)
    (hlink : (Cond.classLink own x.catchType name).before args s = true) (hcast : (Cond.castable E name).before args s = true) (hcell : H[q]? = some ce) (hv : ce.vm = .none) (hcl : s.vm.findClass E = some ce.cls)
    (kk : W p l e R s m args below meth c H locs cells slots Q (F0 m x.handlerPc ls [.ref q])) : vx_W p l e R s m args below meth c H locs cells slots Q (F0 m pc ls rest) q := by
  intro T hT X
  have hpl : e.platform.magicAccessors = ({} : Platform).magicAccessors := by rw [X.admits.platform]
  obtain ⟨c3, c4, hc3, hc4, hasg⟩ := Cond.castable_spec hcast
  cases Option.some.inj (hc3.symm.trans hcl)
  obtain ⟨c5, hc5, hcl5⟩ := Cond.classLink_spec hown hlink e.platform hpl
  cases Option.some.inj (hc4.symm.trans hc5)
  obtain ⟨vm', X', st⟩ := X.thenCaughtThrough q (g := F0 m pc ls rest) rfl (Steps.refl _) (by rw [hT]; exact hcell) (by rw [hv]; rfl) (by obtain ⟨k9, h9, -⟩ := Vm.findClass_spec hcl; exact ⟨k9, h9⟩) pre x suf hsplit
    (fun z hz => by
      rcases hpass z hz with h | ⟨hz0, nm, hl1, hn1⟩
      · exact Or.inl h
      · obtain ⟨c6, hc6, hcl6⟩ := Cond.classLink_spec hown hl1 e.platform hpl
        obtain ⟨a8, b8, h1, h2, h3⟩ := hn1
        cases Option.some.inj (h1.symm.trans hcl)
        cases Option.some.inj (h2.symm.trans hc6)
        exact Or.inr ⟨hz0, _, hcl6, h3⟩) hx (Or.inr ⟨h0, c4, hcl5, hasg⟩)
  obtain ⟨t, a1, b1⟩ := kk (T.setVm vm') hT X'
  exact ⟨t, st.trans a1, b1⟩
end Rows
section Ends
variable {p : Program} {l : Launch} {e : Env} {R : Room} {s : State} {m : MethodId} {args : Array Value} {below : List Frame} {meth : Method} {c : Code} {H : Heap} {locs : List Loc} {cells slots : Nat} {Q : State → Prop}
variable {mc ms : Nat} {free : Addr → Prop} {A0 A1 : Nat → Prop} {H0 : Heap} {a : Array Value} {ls : Array Slot} {st0 rest : List Value}
variable {Qc : Array Value → State → Outcome → State → Prop} {XC : String → State → State → Prop}
/-- what a body that may throw owes at its end -/
def vx_MQ (below : List Frame) (Qc : Array Value → State → Outcome → State → Prop) (XC : String → State → State → Prop) (a : Array Value) (s : State) (mc ms : Nat) (free : Addr → Prop) : State → Prop := fun t =>
  ∃ o, t.status = .running ∧ Ended t below o ∧ vx_Q Qc XC mc ms free a s o t
theorem vx_ret {g : JFrame} {mc ms : Nat} (k : W p l e R s m args below meth c H locs cells slots (MQ below Qc args s mc ms free) g) : W p l e R s m args below meth c H locs cells slots (vx_MQ below Qc XC args s mc ms free) g := by
  intro T hT X
  obtain ⟨t, a1, o, b1, b2, b3, b4⟩ := k T hT X
  exact ⟨t, a1, o, b1, b2, Or.inl ⟨b3, b4⟩⟩
/-- not caught here: it goes on to the caller -/
theorem vx_widen {g : JFrame} {q : Addr} {k n : Nat} (h1 : cells ≤ k) (h2 : slots ≤ n) (kk : vx_W p l e R s m args below meth c H locs k n Q g q) : vx_W p l e R s m args below meth c H locs cells slots Q g q := fun T hT X => kk T hT (stand_widen X h1 h2)
theorem vx_out {pc : Nat} {E : String} {ce : Cell} {q : Addr} {mc ms : Nat} (hout : ∀ x ∈ c.exceptionTable.toList, covers x pc = false) (hlocks : meth.locks = false) (hcell : H[q]? = some ce) (hv : ce.vm = .none) (hcl : s.vm.findClass E = some ce.cls)
    (hx : ∀ t : State, t.heap = H → s.vm.Alike t.vm → XC E s t) (hf : ∀ z ∈ locs, free z.base) (hc : cells ≤ mc) (hs : slots ≤ ms) :
    vx_W p l e R s m args below meth c H locs cells slots (vx_MQ below Qc XC args s mc ms free) (F0 m pc ls rest) q := by
  intro T hT X
  obtain ⟨st1, hrun, hend, hW, hsm⟩ := X.leaveThrown q (g := F0 m pc ls rest) rfl rfl rfl hout hlocks
  have hcell9 : (T.setFrames (.throwing q :: below)).heap[q]? = some ce := by
    show T.heap[q]? = some ce
    rw [hT]; exact hcell
  exact ⟨_, st1, .threw q, hrun, hend, Or.inr ⟨q, rfl, E, ce, locs, hx _ hT hW.alike, hcell9, hv, hcl, hW, hsm.mono hc hs, hf⟩⟩
theorem vx_frame {U : State} {k n : Nat} (h : s.sameButNew ({ U with vm := s.vm } : State) locs k n) : s.heap.size ≤ U.heap.size ∧ ∀ q : Nat, q < s.heap.size → (∀ z ∈ locs, z.base ≠ q) → U.heap[q]? = s.heap[q]? := by
  obtain ⟨-, h2, -, -, -, h6⟩ := h
  refine ⟨h2, fun q hq hz => ?_⟩
  obtain ⟨c9, e1, e2, e3, e4⟩ := h6 q _ (Array.getElem?_eq_getElem hq)
  have hs : c9.slots = (s.heap[q]).slots := Array.ext_getElem? fun i => e4 i fun hm => hz _ hm rfl
  have h9 : c9 = s.heap[q] := by
    rw [hs] at e2
    exact e2
  have e5 : U.heap[q]? = some c9 := e1
  rw [e5, h9, Array.getElem?_eq_getElem hq]
/-- the words of a throw but the four that speak of the heap -/
def vx_no (w : Cond) : Bool := decide (w ≠ .isRef (.static Bundle.tN "UNASSIGNED_STACK" Bundle.steD)) && decide (w ≠ .isRef (.static Bundle.tN "SUPPRESSED_SENTINEL" Bundle.listD)) && decide (w ≠ .laysStatic Bundle.tN "UNASSIGNED_STACK" Bundle.steD) && decide (w ≠ .laysStatic Bundle.tN "SUPPRESSED_SENTINEL" Bundle.listD)
def vx_at0 (own : String) (ic : Nat) (X : String) (names : List String) : List Cond := (Bundle.ownAtoms0 own ic X names).filter vx_no
def vx_atS (own : String) (ic : Nat) (X : String) (names : List String) : List Cond := (Bundle.ownAtoms own ic X names).filter vx_no
/-- a word that the tables alone decide, or a good one -/
def vx_ot (w : Cond) : Bool := w.onTables || goodWord w
theorem vx_ot_at {args a' : Array Value} {s U : State} {w : Cond} (hW : s.WarmedH U.vm) (hvm : s.vm = U.vm) (hg : vx_ot w = true) (h : w.before args s = true) : w.before a' U = true := by
  simp only [vx_ot, Bool.or_eq_true] at hg
  rcases hg with hg | hg
  · exact va_tabs hg hvm h
  · exact word_at hW (good_of_word hg) h
/-- a list's words: the good ones out of the method's own list, the others by premises of their own -/
theorem vx_hat {args : Array Value} {s : State} {L B : List Cond} (h1 : ∀ w ∈ L.filter goodWord, w.before args s = true) (h2 : ∀ w ∈ L.filter (fun w => !goodWord w), w ∈ B) (h3 : ∀ w ∈ B, w.before args s = true) : ∀ w ∈ L, w.before args s = true := by
  intro w hw
  by_cases g : goodWord w = true
  · exact h1 w (List.mem_filter.mpr ⟨hw, g⟩)
  · refine h3 w (h2 w (List.mem_filter.mpr ⟨hw, ?_⟩))
    show (!goodWord w) = true
    cases hgw : goodWord w
    · rfl
    · exact absurd hgw g
theorem vx_c {args : Array Value} {s : State} {w : Cond} {B : List Cond} (h : w.before args s = true) (t : ∀ w ∈ B, w.before args s = true) : ∀ w' ∈ w :: B, w'.before args s = true := fun w' h' => (List.mem_cons.mp h').elim (fun e => by rw [e]; exact h) (t w')
theorem vx_n {args : Array Value} {s : State} : ∀ w ∈ ([] : List Cond), w.before args s = true := fun _ h => nomatch h
theorem vx_own {args : Array Value} {s : State} {L : List Cond} (h1 : ∀ w ∈ L.filter vx_no, w.before args s = true)
    (hU : (Cond.isRef (.static Bundle.tN "UNASSIGNED_STACK" Bundle.steD)).before args s = true) (hN : (Cond.isRef (.static Bundle.tN "SUPPRESSED_SENTINEL" Bundle.listD)).before args s = true)
    (lU : (Cond.laysStatic Bundle.tN "UNASSIGNED_STACK" Bundle.steD).before args s = true) (lN : (Cond.laysStatic Bundle.tN "SUPPRESSED_SENTINEL" Bundle.listD).before args s = true) : ∀ w ∈ L, w.before args s = true := by
  intro w hw
  by_cases e1 : w = .isRef (.static Bundle.tN "UNASSIGNED_STACK" Bundle.steD)
  · rw [e1]; exact hU
  · by_cases e2 : w = .isRef (.static Bundle.tN "SUPPRESSED_SENTINEL" Bundle.listD)
    · rw [e2]; exact hN
    · by_cases e3 : w = .laysStatic Bundle.tN "UNASSIGNED_STACK" Bundle.steD
      · rw [e3]; exact lU
      · by_cases e4 : w = .laysStatic Bundle.tN "SUPPRESSED_SENTINEL" Bundle.listD
        · rw [e4]; exact lN
        · exact h1 w (List.mem_filter.mpr ⟨hw, by unfold vx_no; rw [decide_eq_true e1, decide_eq_true e2, decide_eq_true e3, decide_eq_true e4]; rfl⟩)
/-- where a static field lies, its class's statics cell in H -/
def vx_L (C n d : String) (A : Nat → Prop) (U : State) (H : Heap) : Prop := ∃ (c : ClassId) (k : Class) (i : Nat) (f : Field) (a : Nat) (cell : Cell), U.vm.findClass C = some c ∧ U.fieldFound? C n d = some (c, k, i, f) ∧ f.isStatic = true ∧ k.statics = some a ∧ H[a]? = some cell ∧ cell.vm.isStatics = true ∧ cell.cls = c ∧ f.slot < cell.slots.size ∧ k.staticTypes[f.slot]? = some f.type ∧ ¬ A a
theorem vx_L.moved {C n d : String} {A : Nat → Prop} {u U : State} {H : Heap} (hvm : u.vm.Alike U.vm) (h : vx_L C n d A u H) : vx_L C n d A U H := by
  obtain ⟨c, k, i, f, a, cell, h1, h2, h3, h4, h5, h6, h7, h8, h9, h10⟩ := h
  obtain ⟨k', hi', he⟩ := State.fieldFound?_setVm hvm h2
  exact ⟨c, k', i, f, a, cell, by rw [hvm.findClass]; exact h1, hi', h3, by rw [he]; exact h4, h5, h6, h7, h8, by rw [he]; exact h9, h10⟩
theorem vx_L.kept {C n d : String} {A : Nat → Prop} {U : State} {H H1 : Heap} (h : vx_L C n d A U H) (hq : ∀ a : Nat, a < H.size → ¬ A a → H1[a]? = H[a]?) : vx_L C n d A U H1 := by
  obtain ⟨c, k, i, f, a, cell, h1, h2, h3, h4, h5, h6, h7, h8, h9, h10⟩ := h
  exact ⟨c, k, i, f, a, cell, h1, h2, h3, h4, by rw [hq a (Array.getElem?_eq_some_iff.mp h5).1 h10]; exact h5, h6, h7, h8, h9, h10⟩
theorem vx_L.narrow {C n d : String} {A B : Nat → Prop} {U : State} {H : Heap} (h : vx_L C n d A U H) (hAB : ∀ q, B q → A q) : vx_L C n d B U H := by
  obtain ⟨c, k, i, f, a, cell, h1, h2, h3, h4, h5, h6, h7, h8, h9, h10⟩ := h
  exact ⟨c, k, i, f, a, cell, h1, h2, h3, h4, h5, h6, h7, h8, h9, fun z => h10 (hAB _ z)⟩
theorem vx_L.word {C n d : String} {A : Nat → Prop} {s : State} {args : Array Value} (h : vx_L C n d A s s.heap) : (Cond.laysStatic C n d).before args s = true := by
  obtain ⟨c, k, i, f, a, cell, h1, h2, h3, h4, h5, h6, h7, h8, h9, -⟩ := h
  show (Cond.laysStatic C n d).holds args s none s [] = true
  exact Cond.laysStatic_of h1 h2 h3 h4 h5 h6 h7 h8 h9
/-- .. and what it holds: null or some reference -/
def vx_Zq (C n d : String) (A : Nat → Prop) (U : State) (H : Heap) : Prop := va_Zq C n d A U H ∧ vx_L C n d A U H
theorem vx_Zq.moved {C n d : String} {A : Nat → Prop} {u U : State} {H : Heap} (hvm : u.vm.Alike U.vm) (h : vx_Zq C n d A u H) : vx_Zq C n d A U H := ⟨va_Zq.moved hvm h.1, vx_L.moved hvm h.2⟩
theorem vx_Zq.kept {C n d : String} {A : Nat → Prop} {U : State} {H H1 : Heap} (h : vx_Zq C n d A U H) (hq : ∀ a : Nat, a < H.size → ¬ A a → H1[a]? = H[a]?) : vx_Zq C n d A U H1 := ⟨va_Zq.kept h.1 hq, vx_L.kept h.2 hq⟩
theorem vx_Zq.narrow {C n d : String} {A B : Nat → Prop} {U : State} {H : Heap} (h : vx_Zq C n d A U H) (hAB : ∀ q, B q → A q) : vx_Zq C n d B U H := ⟨va_Zq.narrow h.1 hAB, vx_L.narrow h.2 hAB⟩
theorem vx_Zqof {args : Array Value} {s : State} {C n d : String} {A : Nat → Prop} (hl : (Cond.laysStatic C n d).before args s = true) (hini : (Cond.initialized C).before args s = true) (h : (Cond.isRef (.static C n d)).before args s = true) (hA : ∀ a : Nat, a < s.heap.size → ¬ A a) : vx_Zq C n d A s s.heap := by
  refine ⟨va_Zqof hl hini h hA, ?_⟩
  obtain ⟨c, k, i, f, a, cell, h1, h2, h3, h4, h5, h6, h7, h8, h9⟩ := Cond.laysStatic_spec hl
  exact ⟨c, k, i, f, a, cell, h1, h2, h3, h4, h5, h6, h7, h8, h9, hA a (Array.getElem?_eq_some_iff.mp h5).1⟩
theorem vx_isRef {C n d : String} {v : Value} {A : Nat → Prop} {s : State} {args : Array Value} (h : va_Z C n d v A s s.heap) (hv : v.isRef = true) : (Cond.isRef (.static C n d)).before args s = true := by
  obtain ⟨cf, kf, fi, f, a, cell, h1, h2, h3, h4, h5, h6, h7, -⟩ := h
  have he : (Term.static C n d).eval args s none [] s = some v := by
    simp [Term.eval, State.fieldNamed?, h1, h2, h4, h5, h6, h7]
  simp only [Cond.before, Cond.holds, Cond.value, he]
  cases v <;> simp_all [Value.isRef]
theorem vx_isRefq {C n d : String} {A : Nat → Prop} {s : State} {args : Array Value} (h : va_Zq C n d A s s.heap) : (Cond.isRef (.static C n d)).before args s = true := by
  rcases h with h | ⟨t, h⟩
  · exact vx_isRef h rfl
  · exact vx_isRef h rfl
/-- the same frame, seen from here: as if the method were called anew in this heap -/
theorem vx_rebase {T : State} (X : Stand p l e R s m args below meth c T locs cells slots) {R' : Room} (hf : R'.frames ≤ R.frames) (hl : R'.locals ≤ R.locals) (hc : cells + R'.cells ≤ R.cells) (hs : slots + R'.slots ≤ R.slots) :
    Stand p l e R' ((T.setVm s.vm).setFrames (.invoking m args :: below)) m args below meth c T [] 0 0 := by
  have htop : (T.setVm s.vm).topJava?.isSome := X.here.top
  have hF : ((T.setVm s.vm).setFrames (.invoking m args :: below)).frames = .invoking m args :: below := State.frames_setFrames _ (State.cur_lt_of_top htop)
  obtain ⟨g₀, hg0⟩ := Option.isSome_iff_exists.mp htop
  obtain ⟨r, hr⟩ := State.topJava?_eq_some.mp hg0
  have hl9 : e.platform.stackLimits (T.setVm s.vm).me = e.platform.stackLimits s.me := X.limits
  have hb9 : (T.setVm s.vm).me.stackBytes = s.me.stackBytes := X.bytes
  refine ⟨X.admits, X.cas, X.clock, hF, ?_, X.hears, X.method, X.code, X.here, X.tail, X.warmed, ?_, ?_, ?_⟩
  · have h := X.room
    have hU : ((T.setVm s.vm).setFrames (.invoking m args :: below)).localsInUse = s.localsInUse := by
      rw [State.localsInUse_invoking hF (meth := meth) (c := c) X.method X.code, State.localsInUse_invoking X.frames X.method X.code]
    simp only [State.hasRoom, Bool.and_eq_true, decide_eq_true_eq] at h ⊢
    obtain ⟨⟨⟨⟨h1, h2, h3, h4, h5, h6⟩, h7⟩, h8⟩, h9⟩ := h
    rw [X.frames, List.length_cons] at h2 h3
    have q1 := X.heapSize
    have q2 := X.used
    simp only [hF, hU, List.length_cons, State.stackLimits_setFrames, State.stackBytes_setFrames, hl9, hb9]
    refine ⟨⟨⟨⟨by omega, by omega, by omega, by omega, by omega, h6⟩, ?_⟩, ?_⟩, X.book⟩
    · show T.heap.size + R'.cells ≤ e.platform.maxCells
      omega
    · show T.slotsUsed + R'.slots ≤ e.platform.maxSlots
      omega
  · rw [State.stackLimits_setFrames]; rfl
  · rw [State.stackBytes_setFrames]; rfl
  · refine ⟨?_, Nat.le_refl _, Nat.le_refl _, ?_, ?_, fun a c9 h9 => ⟨c9, h9, rfl, rfl, fun _ _ => rfl⟩⟩
    · obtain ⟨t, ht, -⟩ := State.frames_cons hr
      show T.setVm s.vm = { ((T.setVm s.vm).setFrames (.invoking m args :: below)).setFrames (T.setVm s.vm).frames with heap := T.heap, slotsUsed := T.slotsUsed }
      rw [State.setFrames_setFrames, State.setFrames_self ht]
      rfl
    · show T.slotsUsed = T.slotsUsed + ((T.heap.toList.drop T.heap.size).map (·.slots.size)).sum
      rw [List.drop_eq_nil_of_le (Nat.le_of_eq Array.length_toList)]
      rfl
    · show ((T.heap.toList.drop T.heap.size).map (·.slots.size)).sum ≤ 0
      rw [List.drop_eq_nil_of_le (Nat.le_of_eq Array.length_toList)]
      exact Nat.le_refl _
/-- 'throw new E()': new; dup; invokespecial; athrow -/
theorem vx_throw0 {cc : ByteArray} {pc : Nat} (hexec : p.tables.exec = Jvm.exec) (hb : c.code = cc) (hl : l.stackTraces = false) {own cls : String} {names : List String} {ik ic mc ms : Nat} {A : Nat → Prop}
    (hown : s.vm.findClass own = some m.cls) (hcls : Bundle.fit cls = true) (hnames : ∀ n ∈ names, Bundle.fit n = true)
    (hk : (Cond.classLink own ik cls).before args s = true) (hini : (Cond.initialized cls).before args s = true) (hat : ∀ w ∈ vx_at0 own ic cls names, w.before args s = true)
    (hgood : ∀ w ∈ Cond.classLink own ik cls :: Cond.initialized cls :: vx_at0 own ic cls names, vx_ot w = true)
    (hU : vx_Zq Bundle.tN "UNASSIGNED_STACK" Bundle.steD A s s.heap) (hN : vx_Zq Bundle.tN "SUPPRESSED_SENTINEL" Bundle.listD A s s.heap) (hS : va_S A s.heap H locs) (hsize : ls.size = c.maxLocals)
    (d0 : decode cc pc = .ok (.new ik, 3)) (d3 : decode cc (pc + 3) = .ok (.dup, 1)) (d4 : decode cc (pc + 4) = .ok (.invokespecial ic, 3)) (d7 : decode cc (pc + 7) = .ok (.athrow, 1))
    (hout : ∀ x ∈ c.exceptionTable.toList, covers x (pc + 7) = false)
    (hRframes : names.length + 3 < R.frames) (hRlocals : (rest.map fun v => v.category).sum + (13 * (names.length + 1) + 42) ≤ R.locals) (hRcells : cells + 1 ≤ R.cells) (hRslots : slots + 6 ≤ R.slots) (hlocks : meth.locks = false)
    (hx : ∀ t : State, s.vm.Alike t.vm → H.size ≤ t.heap.size → (∀ q : Nat, q < H.size → t.heap[q]? = H[q]?) → XC cls s t)
    (hf : ∀ z ∈ locs, free z.base) (hc : cells + 1 ≤ mc) (hs : slots + 6 ≤ ms) :
    W p l e R s m args below meth c H locs cells slots (vx_MQ below Qc XC args s mc ms free) (F0 m pc ls rest) := by
  intro T hT X
  have htr : e.platform.stackTraces = false := (show e.platform.stackTraces = l.stackTraces by rw [X.admits.platform]).trans hl
  have Y := vx_rebase X (R' := { frames := R.frames, locals := R.locals, cells := 1, slots := 6 }) (Nat.le_refl _) (Nat.le_refl _) hRcells hRslots
  obtain ⟨s', hA⟩ : ∃ z, z = (T.setVm s.vm).setFrames (.invoking m args :: below) := ⟨_, rfl⟩
  rw [← hA] at Y
  have hvm : s'.vm = s.vm := by rw [hA]; rfl
  have hhp : s'.heap = H := by rw [hA]; exact hT
  have hW0 : s.WarmedH s'.vm := by rw [hvm]; exact State.WarmedH.refl s
  have hat' : ∀ w ∈ vx_at0 own ic cls names, w.before args s' = true := fun w hw => vx_ot_at hW0 hvm.symm (hgood w (List.mem_cons_of_mem _ (List.mem_cons_of_mem _ hw))) (hat w hw)
  have hk' : (Cond.classLink own ik cls).before args s' = true := vx_ot_at hW0 hvm.symm (hgood _ List.mem_cons_self) hk
  have hini' : (Cond.initialized cls).before args s' = true := vx_ot_at hW0 hvm.symm (hgood _ (List.mem_cons_of_mem _ List.mem_cons_self)) hini
  have hU' : vx_Zq Bundle.tN "UNASSIGNED_STACK" Bundle.steD A s' s'.heap := by rw [hhp]; exact vx_Zq.moved hW0.alike (hU.kept hS.2.1)
  have hN' : vx_Zq Bundle.tN "SUPPRESSED_SENTINEL" Bundle.listD A s' s'.heap := by rw [hhp]; exact vx_Zq.moved hW0.alike (hN.kept hS.2.1)
  have h : ∀ w ∈ Bundle.ownAtoms0 own ic cls names, w.before args s' = true := vx_own hat' (vx_isRefq hU'.1) (vx_isRefq hN'.1) hU'.2.word hN'.2.word
  have hown' : s'.vm.findClass own = some m.cls := by rw [hvm]; exact hown
  have hins : (Cond.instantiable cls 6).before args s' = true := h _ (by simp [Bundle.ownAtoms0])
  obtain ⟨vm₁, cX, kX, hfX, hkX, -, -, X₁, st1⟩ := Y.newCold hexec (own := own) (C := cls) (index := ik) (n := 6) hown' hk' hins hini'
    (g := F0 m pc ls rest) rfl (by rw [hb]; exact d0) (Nat.le_refl _) (Nat.le_refl _)
  generalize hT1 : (T.setVm vm₁).pushCell { cls := cX, slots := kX.instanceTypes.map defaultValue, vm := .none } = T1 at X₁ st1
  have hcat : (Value.ref T.heap.size).category = 1 := rfl
  have hcellA : T1.heap[T.heap.size]? = some (freshCell cX kX) := by rw [← hT1]; exact State.heap_pushCell_size _ _
  have d3' : decode c.code (pc + 3) = .ok (.dup, 1) := by rw [hb]; exact d3
  obtain ⟨U, hsteps, hrun, hend, hW, hsame, ce, hce, hO⟩ := X₁.ctorThrow0 hexec htr (own := own) (cls := cls) (names := names) (ic := ic) hown' hcls hnames h (fun x hx => nomatch hx) hfX hkX hcellA (by rw [hhp, hT]; exact Nat.le_refl _)
    (g := { method := m, pc := pc + 4, locals := ls, stack := .ref T.heap.size :: .ref T.heap.size :: rest, locked := none }) rfl hsize rfl rfl (rest := rest) rfl
    (by rw [hb]; exact d4) (by rw [hb]; exact d7) hout hRframes (by simp only [List.map_cons, List.sum_cons, hcat]; omega) hlocks
  obtain ⟨f1, f2⟩ := vx_frame hsame
  rw [hhp] at f1 f2
  have hWs : s.WarmedH U.vm := State.WarmedH.trans hW0 hW
  have hcl : s.vm.findClass cls = some ce.cls := by
    have h9 := hO.cls
    rw [hvm] at h9
    exact h9
  have hall : s.sameButNew ({ U with vm := s.vm } : State) locs mc ms := by
    subst hA
    obtain ⟨e1, e2⟩ := hsame
    rw [State.setFrames_setFrames] at e1
    have h2 : (T.setVm s.vm).sameButNew ({ U with vm := s.vm } : State) [] (0 + 1) (0 + 6) := ⟨e1, e2⟩
    have h3 := X.same.trans h2
    rw [List.append_nil] at h3
    exact h3.mono hc hs
  refine ⟨U, ?_, .threw T.heap.size, hrun, hend, Or.inr ⟨T.heap.size, rfl, cls, ce, locs, hx U hWs.alike f1 (fun q hq => f2 q hq (fun z hz => nomatch hz)), hce, hO.vm, hcl, hWs, hall, hf⟩⟩
  refine st1 _ ?_
  show Steps p.tables e below (T1.setTop { method := m, pc := pc + 3, locals := ls, stack := .ref T.heap.size :: rest, locked := none }) _
  jvm_step X₁.here [X₁.here.top, hexec, d3', Value.category]
  exact hsteps
/-- 'throw new E("text")': new; dup; ldc; invokespecial; athrow -/
theorem vx_throwS {cc : ByteArray} {pc : Nat} (hexec : p.tables.exec = Jvm.exec) (hb : c.code = cc) (hl : l.stackTraces = false) {own cls text : String} {names : List String} {ik is ic mc ms sa : Nat} {A : Nat → Prop}
    (hown : s.vm.findClass own = some m.cls) (hcls : Bundle.fit cls = true) (hnames : ∀ n ∈ names, Bundle.fit n = true)
    (hk : (Cond.classLink own ik cls).before args s = true) (hini : (Cond.initialized cls).before args s = true) (hstr : vk_R own is text sa s) (hat : ∀ w ∈ vx_atS own ic cls names, w.before args s = true)
    (hgood : ∀ w ∈ Cond.classLink own ik cls :: Cond.initialized cls :: vx_atS own ic cls names, vx_ot w = true)
    (hU : vx_Zq Bundle.tN "UNASSIGNED_STACK" Bundle.steD A s s.heap) (hN : vx_Zq Bundle.tN "SUPPRESSED_SENTINEL" Bundle.listD A s s.heap) (hS : va_S A s.heap H locs) (hsize : ls.size = c.maxLocals)
    (d0 : decode cc pc = .ok (.new ik, 3)) (d3 : decode cc (pc + 3) = .ok (.dup, 1)) (d4 : decode cc (pc + 4) = .ok (.ldc is, 2)) (d6 : decode cc (pc + 6) = .ok (.invokespecial ic, 3)) (d9 : decode cc (pc + 9) = .ok (.athrow, 1))
    (hout : ∀ x ∈ c.exceptionTable.toList, covers x (pc + 9) = false)
    (hRframes : names.length + 3 < R.frames) (hRlocals : (rest.map fun v => v.category).sum + (13 * (names.length + 1) + 43) ≤ R.locals) (hRcells : cells + 1 ≤ R.cells) (hRslots : slots + 6 ≤ R.slots) (hlocks : meth.locks = false)
    (hx : ∀ t : State, s.vm.Alike t.vm → H.size ≤ t.heap.size → (∀ q : Nat, q < H.size → t.heap[q]? = H[q]?) → XC cls s t)
    (hf : ∀ z ∈ locs, free z.base) (hc : cells + 1 ≤ mc) (hs : slots + 6 ≤ ms) :
    W p l e R s m args below meth c H locs cells slots (vx_MQ below Qc XC args s mc ms free) (F0 m pc ls rest) := by
  intro T hT X
  have htr : e.platform.stackTraces = false := (show e.platform.stackTraces = l.stackTraces by rw [X.admits.platform]).trans hl
  have Y := vx_rebase X (R' := { frames := R.frames, locals := R.locals, cells := 1, slots := 6 }) (Nat.le_refl _) (Nat.le_refl _) hRcells hRslots
  obtain ⟨s', hA⟩ : ∃ z, z = (T.setVm s.vm).setFrames (.invoking m args :: below) := ⟨_, rfl⟩
  rw [← hA] at Y
  have hvm : s'.vm = s.vm := by rw [hA]; rfl
  have hhp : s'.heap = H := by rw [hA]; exact hT
  have hW0 : s.WarmedH s'.vm := by rw [hvm]; exact State.WarmedH.refl s
  have hat' : ∀ w ∈ vx_atS own ic cls names, w.before args s' = true := fun w hw => vx_ot_at hW0 hvm.symm (hgood w (List.mem_cons_of_mem _ (List.mem_cons_of_mem _ hw))) (hat w hw)
  have hk' : (Cond.classLink own ik cls).before args s' = true := vx_ot_at hW0 hvm.symm (hgood _ List.mem_cons_self) hk
  have hini' : (Cond.initialized cls).before args s' = true := vx_ot_at hW0 hvm.symm (hgood _ (List.mem_cons_of_mem _ List.mem_cons_self)) hini
  have hU' : vx_Zq Bundle.tN "UNASSIGNED_STACK" Bundle.steD A s' s'.heap := by rw [hhp]; exact vx_Zq.moved hW0.alike (hU.kept hS.2.1)
  have hN' : vx_Zq Bundle.tN "SUPPRESSED_SENTINEL" Bundle.listD A s' s'.heap := by rw [hhp]; exact vx_Zq.moved hW0.alike (hN.kept hS.2.1)
  have h : ∀ w ∈ Bundle.ownAtoms own ic cls names, w.before args s' = true := vx_own hat' (vx_isRefq hU'.1) (vx_isRefq hN'.1) hU'.2.word hN'.2.word
  have hown' : s'.vm.findClass own = some m.cls := by rw [hvm]; exact hown
  have hins : (Cond.instantiable cls 6).before args s' = true := h _ (by simp [Bundle.ownAtoms])
  obtain ⟨vm₁, cX, kX, hfX, hkX, -, -, X₁, st1⟩ := Y.newCold hexec (own := own) (C := cls) (index := ik) (n := 6) hown' hk' hins hini'
    (g := F0 m pc ls rest) rfl (by rw [hb]; exact d0) (Nat.le_refl _) (Nat.le_refl _)
  generalize hT1 : (T.setVm vm₁).pushCell { cls := cX, slots := kX.instanceTypes.map defaultValue, vm := .none } = T1 at X₁ st1
  have hcat : (Value.ref T.heap.size).category = 1 := rfl
  have hcellA : T1.heap[T.heap.size]? = some (freshCell cX kX) := by rw [← hT1]; exact State.heap_pushCell_size _ _
  have d3' : decode c.code (pc + 3) = .ok (.dup, 1) := by rw [hb]; exact d3
  have d4' : decode c.code (pc + 4) = .ok (.ldc is, 2) := by rw [hb]; exact d4
  have hstr' : vk_R own is text sa s' := vk_R.warm hW0 hstr
  obtain ⟨U, hsteps, hrun, hend, hW, hsame, ce, hce, hO⟩ := X₁.ctorThrowS hexec htr (own := own) (cls := cls) (names := names) (ic := ic) hown' hcls hnames h (fun x hx => nomatch hx) hfX hkX hcellA (by rw [hhp, hT]; exact Nat.le_refl _) (msg := .ref sa) rfl
    (g := { method := m, pc := pc + 6, locals := ls, stack := .ref sa :: .ref T.heap.size :: .ref T.heap.size :: rest, locked := none }) rfl hsize rfl rfl (rest := rest) rfl
    (by rw [hb]; exact d6) (by rw [hb]; exact d9) hout hRframes (by simp only [List.map_cons, List.sum_cons, hcat]; omega) hlocks
  obtain ⟨f1, f2⟩ := vx_frame hsame
  rw [hhp] at f1 f2
  have hWs : s.WarmedH U.vm := State.WarmedH.trans hW0 hW
  have hcl : s.vm.findClass cls = some ce.cls := by
    have h9 := hO.cls
    rw [hvm] at h9
    exact h9
  have hall : s.sameButNew ({ U with vm := s.vm } : State) locs mc ms := by
    subst hA
    obtain ⟨e1, e2⟩ := hsame
    rw [State.setFrames_setFrames] at e1
    have h2 : (T.setVm s.vm).sameButNew ({ U with vm := s.vm } : State) [] (0 + 1) (0 + 6) := ⟨e1, e2⟩
    have h3 := X.same.trans h2
    rw [List.append_nil] at h3
    exact h3.mono hc hs
  refine ⟨U, ?_, .threw T.heap.size, hrun, hend, Or.inr ⟨T.heap.size, rfl, cls, ce, locs, hx U hWs.alike f1 (fun q hq => f2 q hq (fun z hz => nomatch hz)), hce, hO.vm, hcl, hWs, hall, hf⟩⟩
  refine st1 _ ?_
  show Steps p.tables e below (T1.setTop { method := m, pc := pc + 3, locals := ls, stack := .ref T.heap.size :: rest, locked := none }) _
  jvm_step X₁.here [X₁.here.top, hexec, d3', Value.category]
  exact X₁.ldcString hexec (own := own) (text := text) (index := is) (a := sa) hown' hstr'.1 hstr'.2
    (g := { method := m, pc := pc + 4, locals := ls, stack := .ref T.heap.size :: .ref T.heap.size :: rest, locked := none }) rfl d4' _ hsteps
/-- 'throw new E("text")', the text by a wide index -/
theorem vx_throwSW {cc : ByteArray} {pc : Nat} (hexec : p.tables.exec = Jvm.exec) (hb : c.code = cc) (hl : l.stackTraces = false) {own cls text : String} {names : List String} {ik is ic mc ms sa : Nat} {A : Nat → Prop}
    (hown : s.vm.findClass own = some m.cls) (hcls : Bundle.fit cls = true) (hnames : ∀ n ∈ names, Bundle.fit n = true)
    (hk : (Cond.classLink own ik cls).before args s = true) (hini : (Cond.initialized cls).before args s = true) (hstr : vk_R own is text sa s) (hat : ∀ w ∈ vx_atS own ic cls names, w.before args s = true)
    (hgood : ∀ w ∈ Cond.classLink own ik cls :: Cond.initialized cls :: vx_atS own ic cls names, vx_ot w = true)
    (hU : vx_Zq Bundle.tN "UNASSIGNED_STACK" Bundle.steD A s s.heap) (hN : vx_Zq Bundle.tN "SUPPRESSED_SENTINEL" Bundle.listD A s s.heap) (hS : va_S A s.heap H locs) (hsize : ls.size = c.maxLocals)
    (d0 : decode cc pc = .ok (.new ik, 3)) (d3 : decode cc (pc + 3) = .ok (.dup, 1)) (d4 : decode cc (pc + 4) = .ok (.ldc_w is, 3)) (d7 : decode cc (pc + 7) = .ok (.invokespecial ic, 3)) (d10 : decode cc (pc + 10) = .ok (.athrow, 1))
    (hout : ∀ x ∈ c.exceptionTable.toList, covers x (pc + 10) = false)
    (hRframes : names.length + 3 < R.frames) (hRlocals : (rest.map fun v => v.category).sum + (13 * (names.length + 1) + 43) ≤ R.locals) (hRcells : cells + 1 ≤ R.cells) (hRslots : slots + 6 ≤ R.slots) (hlocks : meth.locks = false)
    (hx : ∀ t : State, s.vm.Alike t.vm → H.size ≤ t.heap.size → (∀ q : Nat, q < H.size → t.heap[q]? = H[q]?) → XC cls s t)
    (hf : ∀ z ∈ locs, free z.base) (hc : cells + 1 ≤ mc) (hs : slots + 6 ≤ ms) :
    W p l e R s m args below meth c H locs cells slots (vx_MQ below Qc XC args s mc ms free) (F0 m pc ls rest) := by
  intro T hT X
  have htr : e.platform.stackTraces = false := (show e.platform.stackTraces = l.stackTraces by rw [X.admits.platform]).trans hl
  have Y := vx_rebase X (R' := { frames := R.frames, locals := R.locals, cells := 1, slots := 6 }) (Nat.le_refl _) (Nat.le_refl _) hRcells hRslots
  obtain ⟨s', hA⟩ : ∃ z, z = (T.setVm s.vm).setFrames (.invoking m args :: below) := ⟨_, rfl⟩
  rw [← hA] at Y
  have hvm : s'.vm = s.vm := by rw [hA]; rfl
  have hhp : s'.heap = H := by rw [hA]; exact hT
  have hW0 : s.WarmedH s'.vm := by rw [hvm]; exact State.WarmedH.refl s
  have hat' : ∀ w ∈ vx_atS own ic cls names, w.before args s' = true := fun w hw => vx_ot_at hW0 hvm.symm (hgood w (List.mem_cons_of_mem _ (List.mem_cons_of_mem _ hw))) (hat w hw)
  have hk' : (Cond.classLink own ik cls).before args s' = true := vx_ot_at hW0 hvm.symm (hgood _ List.mem_cons_self) hk
  have hini' : (Cond.initialized cls).before args s' = true := vx_ot_at hW0 hvm.symm (hgood _ (List.mem_cons_of_mem _ List.mem_cons_self)) hini
  have hU' : vx_Zq Bundle.tN "UNASSIGNED_STACK" Bundle.steD A s' s'.heap := by rw [hhp]; exact vx_Zq.moved hW0.alike (hU.kept hS.2.1)
  have hN' : vx_Zq Bundle.tN "SUPPRESSED_SENTINEL" Bundle.listD A s' s'.heap := by rw [hhp]; exact vx_Zq.moved hW0.alike (hN.kept hS.2.1)
  have h : ∀ w ∈ Bundle.ownAtoms own ic cls names, w.before args s' = true := vx_own hat' (vx_isRefq hU'.1) (vx_isRefq hN'.1) hU'.2.word hN'.2.word
  have hown' : s'.vm.findClass own = some m.cls := by rw [hvm]; exact hown
  have hins : (Cond.instantiable cls 6).before args s' = true := h _ (by simp [Bundle.ownAtoms])
  obtain ⟨vm₁, cX, kX, hfX, hkX, -, -, X₁, st1⟩ := Y.newCold hexec (own := own) (C := cls) (index := ik) (n := 6) hown' hk' hins hini'
    (g := F0 m pc ls rest) rfl (by rw [hb]; exact d0) (Nat.le_refl _) (Nat.le_refl _)
  generalize hT1 : (T.setVm vm₁).pushCell { cls := cX, slots := kX.instanceTypes.map defaultValue, vm := .none } = T1 at X₁ st1
  have hcat : (Value.ref T.heap.size).category = 1 := rfl
  have hcellA : T1.heap[T.heap.size]? = some (freshCell cX kX) := by rw [← hT1]; exact State.heap_pushCell_size _ _
  have d3' : decode c.code (pc + 3) = .ok (.dup, 1) := by rw [hb]; exact d3
  have d4' : decode c.code (pc + 4) = .ok (.ldc_w is, 3) := by rw [hb]; exact d4
  have hstr' : vk_R own is text sa s' := vk_R.warm hW0 hstr
  obtain ⟨U, hsteps, hrun, hend, hW, hsame, ce, hce, hO⟩ := X₁.ctorThrowS hexec htr (own := own) (cls := cls) (names := names) (ic := ic) hown' hcls hnames h (fun x hx => nomatch hx) hfX hkX hcellA (by rw [hhp, hT]; exact Nat.le_refl _) (msg := .ref sa) rfl
    (g := { method := m, pc := pc + 7, locals := ls, stack := .ref sa :: .ref T.heap.size :: .ref T.heap.size :: rest, locked := none }) rfl hsize rfl rfl (rest := rest) rfl
    (by rw [hb]; exact d7) (by rw [hb]; exact d10) hout hRframes (by simp only [List.map_cons, List.sum_cons, hcat]; omega) hlocks
  obtain ⟨f1, f2⟩ := vx_frame hsame
  rw [hhp] at f1 f2
  have hWs : s.WarmedH U.vm := State.WarmedH.trans hW0 hW
  have hcl : s.vm.findClass cls = some ce.cls := by
    have h9 := hO.cls
    rw [hvm] at h9
    exact h9
  have hall : s.sameButNew ({ U with vm := s.vm } : State) locs mc ms := by
    subst hA
    obtain ⟨e1, e2⟩ := hsame
    rw [State.setFrames_setFrames] at e1
    have h2 : (T.setVm s.vm).sameButNew ({ U with vm := s.vm } : State) [] (0 + 1) (0 + 6) := ⟨e1, e2⟩
    have h3 := X.same.trans h2
    rw [List.append_nil] at h3
    exact h3.mono hc hs
  refine ⟨U, ?_, .threw T.heap.size, hrun, hend, Or.inr ⟨T.heap.size, rfl, cls, ce, locs, hx U hWs.alike f1 (fun q hq => f2 q hq (fun z hz => nomatch hz)), hce, hO.vm, hcl, hWs, hall, hf⟩⟩
  refine st1 _ ?_
  show Steps p.tables e below (T1.setTop { method := m, pc := pc + 3, locals := ls, stack := .ref T.heap.size :: rest, locked := none }) _
  jvm_step X₁.here [X₁.here.top, hexec, d3', Value.category]
  exact X₁.ldcStringW hexec (own := own) (text := text) (index := is) (a := sa) hown' hstr'.1 hstr'.2
    (g := { method := m, pc := pc + 4, locals := ls, stack := .ref T.heap.size :: .ref T.heap.size :: rest, locked := none }) rfl d4' _ hsteps
end Ends
section Bodies
variable {l : Launch}
theorem vx_ofW {y : MethodName} {ws ws' : List Cond} {rm : Room} {Pc : Array Value → State → Prop} {Qc : Array Value → State → Outcome → State → Prop} {XC : String → State → State → Prop} {mc ms : Nat} {free : Addr → Prop} {cc : ByteArray} {maxL : Nat} {ret : Option FieldType}
    (hy : plainName y.cls = true) (hw : ws = Cond.code y cc maxL ret :: ws')
    (body : ∀ p e s m args below meth c s₁, BodyLoose p l y (headSpec ws rm) cc maxL ret e s m args below meth c s₁ → c.maxLocals = maxL → (∀ x ∈ c.exceptionTable.toList, False) → Pc args s →
      W p l e (headSpec ws rm).room s m args below meth c s.heap [] 0 0 (vx_MQ below Qc XC args s mc ms free) (entryFrame m args maxL)) : vx_Met l y ws rm Pc Qc XC mc ms free := by
  refine MetFree.of_bodyS (code := cc) (maxLocals := maxL) (ret := ret) hy ?_ ?_
  · intro args s m h hn
    obtain ⟨meth, c, h1, h2, h3, h4, h5, h6, -, -⟩ := Cond.code_spec hn (atoms_spec (ws := ws) h _ (by rw [hw]; exact List.mem_cons_self))
    exact ⟨meth, c, h1, h2, h3, h4, h5, h6⟩
  · intro p e s m args below meth c s₁ B hml hP _
    have hh0 : s₁.heap = s.heap := by rw [B.state]; rfl
    have ht : ∀ x ∈ c.exceptionTable.toList, False := by
      obtain ⟨meth9, c9, h1, h2, -, -, -, -, h7, -⟩ := Cond.code_spec B.named (atoms_spec (ws := ws) B.pre _ (by rw [hw]; exact List.mem_cons_self))
      cases Option.some.inj (h1.symm.trans B.method)
      cases Option.some.inj (h2.symm.trans (Stand.of_body B).code)
      intro x hx
      rw [Array.isEmpty_iff.mp h7] at hx
      cases hx
    obtain ⟨t, a1, o, b1, b2, b3⟩ := body p e s m args below meth c s₁ B hml ht hP s₁ hh0 (Stand.of_body B)
    exact ⟨t, o, a1, b1, b2, b3⟩
/-- the table of a body with handlers -/
theorem vx_table {p : Program} {x y : MethodName} {S : Spec} {cc bytes : ByteArray} {maxL maxL' : Nat} {ret ret' : Option FieldType} {e : Env} {s s₁ : State} {m : MethodId} {args : Array Value} {below : List Frame} {meth : Method} {c : Code} {hh : List (Nat × Nat × Nat × Nat)}
    (B : BodyLoose p l y S cc maxL ret e s m args below meth c s₁) (h : (Cond.codeWith y bytes maxL' ret' hh).before args s = true) : c.exceptionTable.toList = tableOf hh := by
  obtain ⟨m9, meth9, c9, hn9, h1, h2, -, -, h6, -⟩ := Cond.codeWith_spec h
  cases Option.some.inj (hn9.symm.trans B.named)
  cases Option.some.inj (h1.symm.trans B.method)
  cases Option.some.inj (h2.symm.trans (Stand.of_body B).code)
  rw [← h6, table_eq]
end Bodies
end VXA
/-! ===== END ===== -/
/-! ===== BEGIN a static call of a method with an exception table ===== -/
section VXS
variable {p : Program} {l : Launch} {e : Env} {R : Room} {s : State} {m : MethodId} {args : Array Value} {below : List Frame} {meth : Method} {c : Code} {T : State} {H : Heap} {locs : List Loc} {cells slots : Nat}
abbrev vx_CSW (R : Room) (s : State) (args : Array Value) (own : String) (index : Nat) (y : MethodName) (bytes : ByteArray) (maxL : Nat) (ret : Option FieldType) (hh : List (Nat × Nat × Nat × Nat)) (ws : List Cond) (rm : Room) (mc ms n : Nat) : Prop :=
  (rm.cells = mc ∧ rm.slots = ms ∧ rm.frames + 1 ≤ R.frames ∧ 8 + (maxL + 11) + rm.locals ≤ R.locals ∧ (∀ w ∈ ws, ∀ (a' : Array Value) (U : State), s.WarmedH U.vm → w.before a' U = true) ∧ Cond.codeWith y bytes maxL ret hh ∈ ws) ∧
  (Cond.codeWith y bytes maxL ret hh).before args s = true ∧ (Cond.initialized y.cls).before args s = true ∧ (y.cls ≠ "java/lang/invoke/MethodHandle" ∧ y.cls ≠ "java/lang/invoke/VarHandle") ∧
  (∀ sig, parseMethodDescriptor y.desc = some sig → n = sig.parameters.length) ∧ (Cond.methodLink own index y).before args s = true ∧ (Cond.static y).before args s = true
theorem vx_cwSW {own : String} {index maxL mc ms : Nat} {y : MethodName} {bytes : ByteArray} {ret : Option FieldType} {hh : List (Nat × Nat × Nat × Nat)} {Ts ws ws' : List Cond} {rm : Room} (n : Nat) (ht : ∀ w ∈ Ts, w.before args s = true) (hT : GoodIn Ts (va_wsS own index y ws)) (hw : ws = Cond.codeWith y bytes maxL ret hh :: ws') (hrc : rm.cells = mc) (hrs : rm.slots = ms)
    (hd : y.cls ≠ "java/lang/invoke/MethodHandle" ∧ y.cls ≠ "java/lang/invoke/VarHandle" ∧ (parseMethodDescriptor y.desc).map (fun d => d.parameters.length) = some n) (hR : rm.frames + 1 ≤ R.frames ∧ 8 + (maxL + 11) + rm.locals ≤ R.locals) :
    vx_CSW R s args own index y bytes maxL ret hh ws rm mc ms n := by
  have ok : ∀ w ∈ va_wsS own index y ws, w.before args s = true := fun w h => ht w (hT w h).1
  have hG : GoodIn Ts ws := fun w h => hT w (by unfold va_wsS; exact List.mem_append_right _ h)
  have hc : Cond.codeWith y bytes maxL ret hh ∈ ws := by rw [hw]; exact List.mem_cons_self
  refine ⟨⟨hrc, hrs, hR.1, hR.2, pay_in ht hG, hc⟩, ht _ (hG _ hc).1, ok _ (by simp [va_wsS]), ⟨hd.1, hd.2.1⟩, fun sig h => ?_, ok _ (by simp [va_wsS]), ok _ (by simp [va_wsS])⟩
  have h2 := hd.2.2
  rw [h] at h2
  exact (Option.some.inj h2).symm
theorem vx_callSW (X : Stand p l e R s m args below meth c T locs cells slots) (hexec : p.tables.exec = Jvm.exec) {own : String} {index : Nat} {y : MethodName} {bytes : ByteArray} {maxL : Nat} {ret : Option FieldType} {hh : List (Nat × Nat × Nat × Nat)}
    (hown : s.vm.findClass own = some m.cls) (hlink : (Cond.methodLink own index y).before args s = true) (hstat : (Cond.static y).before args s = true) (hinit : (Cond.initialized y.cls).before args s = true)
    (hcode : (Cond.codeWith y bytes maxL ret hh).before args s = true) (hy : y.cls ≠ "java/lang/invoke/MethodHandle" ∧ y.cls ≠ "java/lang/invoke/VarHandle")
    {W9 : Nat} {Pre : Pt → Array Value → Prop} {Post : Pt → Array Value → Option Value → Pt → Prop} (hK : Back l R p e below s args y 3 W9 Pre Post)
    {g : JFrame} (hg : g.method = m) (hsize : g.locals.size = c.maxLocals) {argsL rest : List Value} (hlen : ∀ sig, parseMethodDescriptor y.desc = some sig → argsL.length = sig.parameters.length)
    (hstack : g.stack = argsL.reverse ++ rest) (hW : 2 * g.monitorRoom + (rest.map fun v => v.category).sum ≤ W9) (hdg : decode c.code g.pc = .ok (.invokestatic index, 3))
    (hpre : ∀ vm₁, s.WarmedH vm₁ → Pre ⟨T.setVm vm₁, locs, cells, slots⟩ argsL.toArray) :
    ∃ (v : Option Value) (vm₁ : Vm) (B : Pt), s.WarmedH vm₁ ∧ Stand p l e R s m args below meth c B.U B.locs B.cells B.slots ∧ Post ⟨T.setVm vm₁, locs, cells, slots⟩ argsL.toArray v B ∧
      ∀ target, Steps p.tables e below (B.U.setTop { g with pc := g.pc + 3, stack := v.toList ++ rest }) target → Steps p.tables e below (T.setTop g) target := by
  obtain ⟨mk, methM, cM, hnamed, hmethM, -, -, -, -, -, -, hsigM⟩ := Cond.codeWith_spec hcode
  have hstatic : methM.isStatic = true := Cond.static_spec hnamed hmethM hstat
  obtain ⟨kP, hkP, -⟩ := className_of_methodNamed hnamed
  have hinitP : kP.init = .initialized := Cond.initialized_spec (findClass_of_methodNamed hnamed) hkP hinit
  obtain ⟨vm₁, X₁, hstep₁⟩ := X.invokestatic hexec hown hlink hnamed hmethM hstatic hkP hinitP hy (g := g) hg (argsL := argsL) (rest := rest) (hlen _ hsigM) hstack hdg
  obtain ⟨v, B, X', hpost, hsteps⟩ := hK m meth c ⟨T.setVm vm₁, locs, cells, slots⟩ { g with stack := rest } (.invokestatic index) mk argsL.toArray X₁ hg hsize hdg hW (X₁.named hnamed) (hpre vm₁ X₁.warmed)
  exact ⟨v, vm₁, B, X₁.warmed, X', hpost, fun target h => hstep₁ _ fun acts => by rw [doInvoke_state]; exact hsteps.trans h⟩
theorem vx_runSW {y : MethodName} {bytes cc : ByteArray} {maxL nL mc ms n index : Nat} {ret : Option FieldType} {hh : List (Nat × Nat × Nat × Nat)} {ws : List Cond} {rm : Room} {Pc : Array Value → State → Prop} {Qc : Array Value → State → Outcome → State → Prop} {free : Addr → Prop} {Ts : List Cond} {own : String} {As rest : List Value} {g : JFrame}
    (S : CallFix p m c cc nL s args Ts own) (hM : Met l y ws rm Pc Qc mc ms free) (cw : vx_CSW R s args own index y bytes maxL ret hh ws rm mc ms n) (hp : PreS s H Pc As)
    (hg : g.method = m) (hn : As.length = n) (hsize : g.locals.size = nL) (hstack : g.stack = As.reverse ++ rest) (hW : 2 * g.monitorRoom + (rest.map fun v => v.category).sum ≤ 8) (hdg : decode cc g.pc = .ok (.invokestatic index, 3)) (hf : cells + mc ≤ R.cells ∧ slots + ms ≤ R.slots) :
    va_Run p l e R s m args below meth c H locs cells slots mc ms g rest (Qc As.toArray) (free) := by
  obtain ⟨⟨hrc, hrs, hfr, hlo, hws, hcw⟩, hcode, hini, hy, hlen, hl, hstt⟩ := cw
  have hK : Back l R p e below s args y 3 8 (PreOf R mc ms Pc) (PostOf Qc mc ms free) := va_backW (hh := hh) (bytes := bytes) (maxL := maxL) (ret := ret) hM hp.1 hrc hrs hfr hlo hws hcw (fun a' U hW => word_at hW (Or.inl (by first | rfl | simp [Cond.onTables, Cond.keeps, Cond.steady])) hini)
  obtain ⟨hx, hb, hml, ho, -⟩ := S
  intro T hT X
  obtain ⟨v, vm₁, ⟨U', l2, c2, s2⟩, hW₁, X', ⟨g', mk, t, L, e1, e2, hq, h1, hL, h2, h3⟩, st⟩ := vx_callSW X hx (hh := hh) (bytes := bytes) (maxL := maxL) (ret := ret) ho hl hstt hini hcode hy hK hg (hsize.trans hml.symm) (argsL := As) (rest := rest) (fun sig h => hn.trans (hlen sig h)) hstack hW (by rw [hb]; exact hdg)
    (fun vm₁ hW₁ => ⟨hf.1, hf.2, hp.2 (T.setVm vm₁) hT hW₁⟩)
  dsimp only [Pt.U, Pt.locs, Pt.cells, Pt.slots] at X' e1 e2 h1 h2 h3 st
  subst h1; subst h2; subst h3
  exact ⟨v, (T.setVm vm₁).calling g' mk As.toArray, t, U', L, hT, X', hL, e1, e2, hq, st⟩
/-- not caught here, past rows that name other classes: it goes on to the caller -/
theorem vx_outP {p : Program} {l : Launch} {e : Env} {R : Room} {s : State} {m : MethodId} {args : Array Value} {below : List Frame} {meth : Method} {c : Code} {H : Heap} {locs : List Loc} {cells slots : Nat} {free : Addr → Prop} {ls : Array Slot} {rest : List Value} {Qc : Array Value → State → Outcome → State → Prop} {XC : String → State → State → Prop}
    {pc : Nat} {own E : String} {ce : Cell} {q : Addr} {mc ms : Nat} (hown : s.vm.findClass own = some m.cls) (hlocks : meth.locks = false)
    (hpass : ∀ z ∈ c.exceptionTable.toList, covers z pc = false ∨ (z.catchType ≠ 0 ∧ ∃ nm : String, (Cond.classLink own z.catchType nm).before args s = true ∧ va_Nc E nm s)) (hcell : H[q]? = some ce) (hv : ce.vm = .none) (hcl : s.vm.findClass E = some ce.cls)
    (hx : ∀ t : State, t.heap = H → s.vm.Alike t.vm → XC E s t) (hf : ∀ z ∈ locs, free z.base) (hc : cells ≤ mc) (hs : slots ≤ ms) :
    vx_W p l e R s m args below meth c H locs cells slots (vx_MQ below Qc XC args s mc ms free) (F0 m pc ls rest) q := by
  intro T hT X
  have hpl : e.platform.magicAccessors = ({} : Platform).magicAccessors := by rw [X.admits.platform]
  obtain ⟨vm', hW', X', st⟩ := X.outThrough hlocks q (g := F0 m pc ls rest) rfl rfl rfl (cell := ce) (by rw [hT]; exact hcell) (by rw [hv]; rfl)
    (by obtain ⟨k9, h9, -⟩ := Vm.findClass_spec hcl; exact ⟨k9, h9⟩) (fun z hz => by
      rcases hpass z hz with h | ⟨hz0, nm, hl1, hn1⟩
      · exact Or.inl h
      · obtain ⟨c6, hc6, hcl6⟩ := Cond.classLink_spec hown hl1 e.platform hpl
        obtain ⟨a8, b8, h1, h2, h3⟩ := hn1
        cases Option.some.inj (h1.symm.trans hcl)
        cases Option.some.inj (h2.symm.trans hc6)
        exact Or.inr ⟨hz0, _, hcl6, h3⟩)
  obtain ⟨g₀, hfr⟩ := X'.frames_eq
  have hcell9 : ((T.setVm vm').setFrames (.throwing q :: below)).heap[q]? = some ce := by
    show T.heap[q]? = some ce
    rw [hT]; exact hcell
  have hend : Ended ((T.setVm vm').setFrames (.throwing q :: below)) below (.threw q) := State.frames_setFrames _ (State.cur_lt_of_frames hfr)
  refine ⟨(T.setVm vm').setFrames (.throwing q :: below), ?_, .threw q, X'.here.running, hend, Or.inr ⟨q, rfl, E, ce, locs, hx _ hT (X'.ends _).1.alike, hcell9, hv, hcl, (X'.ends _).1, (X'.ends _).2.mono hc hs, hf⟩⟩
  rw [X.pushThrowing_eq]
  exact st
/-- a thing of a world lies in the heap -/
theorem vx_lt {D : va_G} {cl : List vw_C} {ws : va_W} {H1 : Heap} (h : va_P D cl ws H1) {k : Nat} {q : Nat × va_E} (hk : ws[k]? = some q) : q.1 < H1.size := (h k q hk).lt
end VXS
/-! ===== END ===== -/
/-! ===== BEGIN methods with a table of their own: called by a name, returning or throwing ===== -/
section VXH
/-! vx_backW, vx_callVX, vx_callSX, vx_callVW, vx_runVW, vx_runVX, vx_runSX, vx_ofWH follow the same proofs as their sisters above (Free/Laws.lean, Shelf42/LK1.lean); vx_outP calls Shelf42/NT130.lean (outThrough). -/
section
variable {l : Launch} {R : Room} {p : Program} {e : Env} {below : List Frame} {s : State} {sargs : Array Value} {y : MethodName} {len W9 : Nat}
theorem vx_backW {ws : List Cond} {rm : Room} {Pc : Array Value → State → Prop} {Qc : Array Value → State → Outcome → State → Prop} {XC : String → State → State → Prop} {mc ms : Nat} {free : Addr → Prop} {bytes : ByteArray} {maxL : Nat} {ret : Option FieldType} {hh : List (Nat × Nat × Nat × Nat)}
    (hM : vx_Met l y ws rm Pc Qc XC mc ms free) (hblind : FrameBlind Pc) (hrc : rm.cells = mc) (hrs : rm.slots = ms)
    (hframes : rm.frames + 1 ≤ R.frames) (hlocals : W9 + (maxL + 11) + rm.locals ≤ R.locals)
    (hws : ∀ w ∈ ws, ∀ a' U, s.WarmedH U.vm → w.before a' U = true) (hcode : Cond.codeWith y bytes maxL ret hh ∈ ws) (hinit : ∀ a' U, s.WarmedH U.vm → (Cond.initialized y.cls).before a' U = true) :
    vx_Back l R p e below s sargs y len W9 (PreOf R mc ms Pc) (PostOf Qc mc ms free) (vx_Post XC mc ms free) := by
  intro m meth c A g ig mk a X hg hsize hdg hW hn hp
  have h1 : (headSpec ws rm).pre.before a A.U = true := atoms_intro fun w hw => hws w hw _ _ X.warmed
  have h2 : (Cond.codeWith y bytes maxL ret hh).before a A.U = true := hws _ hcode _ _ X.warmed
  have h3 : (Cond.initialized y.cls).before a A.U = true := hinit _ _ X.warmed
  have h4 : A.cells + (headSpec ws rm).room.cells ≤ R.cells := by rw [show (headSpec ws rm).room.cells = mc from hrc]; exact hp.1
  have h5 : A.slots + (headSpec ws rm).room.slots ≤ R.slots := by rw [show (headSpec ws rm).room.slots = ms from hrs]; exact hp.2.1
  have hPc : Pc a (A.U.calling g mk a) := hblind _ _ _ _ hp.2.2
  obtain ⟨U, Ls, c0, s0⟩ := A
  dsimp only [Pt.U, Pt.locs, Pt.cells, Pt.slots] at h1 h2 h3 h4 h5 X hn hPc ⊢
  obtain ⟨m9, methY, cY, hn9, hmY, hcY, -, hlY, -⟩ := Cond.codeWith_spec h2
  cases Option.some.inj (hn9.symm.trans hn)
  obtain ⟨kY, hkY, -⟩ := className_of_methodNamed hn
  have hinitY : kY.init = .initialized := Cond.initialized_spec (findClass_of_methodNamed hn) hkY h3
  have h : At U g.method c below := by rw [hg]; exact X.here
  have hlocals9 : W9 + (maxL + 11) + (headSpec ws rm).room.locals ≤ R.locals := hlocals
  have happ : (headSpec ws rm).appliesLoose y e.platform (U.calling g mk a) = true :=
    Spec.appliesLoose_calling (g := g) h hdg hn hkY hinitY
      (X.room_calling (g := g) (R' := (headSpec ws rm).room) hsize hmY hcY hframes (by rw [hlY]; omega) h4 h5) h1
  obtain ⟨mid, hmid⟩ := h.above
  have hfr : (U.setTop g).frames = (.java g :: mid) ++ below := by rw [State.frames_setTop' g h.top, hmid]; rfl
  obtain ⟨o, s₂, hsteps, -, hend, hq⟩ := Steps.callFree hM p X.admits X.cas X.clock (acts := []) hfr happ hPc trivial
  have hq' : vx_Q Qc XC mc ms free a (U.calling g mk a) o s₂ := hq
  rw [State.frames_setTop' g h.top] at hend
  obtain ⟨g₀, hg0⟩ := Option.isSome_iff_exists.mp h.top
  obtain ⟨r, hr⟩ := State.topJava?_eq_some.mp hg0
  have hr' : (({ U with heap := s₂.heap, slotsUsed := s₂.slotsUsed } : State).setVm s₂.vm).frames = .java g₀ :: r := hr
  rcases hq' with ⟨hqc, L, hfe, hL⟩ | ⟨q, rfl, E, ce, L, hx, hce, hcv, hcl, hW₂, hsm, hL⟩
  · obtain ⟨⟨v, rfl⟩, hW₂, e2, q2, q3, q4, q5, q6⟩ := id hfe
    have e3 : s₂ = ({ (U.calling g mk a).setFrames s₂.frames with heap := s₂.heap, slotsUsed := s₂.slotsUsed } : State).setVm s₂.vm := by
      have : s₂ = ({ s₂ with vm := (U.calling g mk a).vm } : State).setVm s₂.vm := rfl
      rw [e2] at this
      exact this
    obtain ⟨c₂, i₂, len₂, hc₂, hd₂, hf₂⟩ := hend
    have hW' : U.WarmedH s₂.vm := hW₂
    have hcc : c₂ = c := by
      have h1 : s₂.code? g.method = U.code? g.method := by
        rw [State.code?_eq, State.code?_eq, hW'.alike.method?]
      exact Option.some.inj (hc₂.symm.trans (h1.trans h.code))
    subst hcc
    have hlen : len₂ = len := by rw [hdg] at hd₂; cases hd₂; rfl
    subst hlen
    have hs₂ : s₂ = (({ U with heap := s₂.heap, slotsUsed := s₂.slotsUsed } : State).setVm s₂.vm).setTop { g with pc := g.pc + len₂, stack := v.toList ++ g.stack } := by
      refine e3.trans ?_
      rw [hf₂, State.calling_eq h.top, State.setFrames_setFrames, State.setTop_of_frames _ hr', hr]
      rfl
    have hsame : U.sameButNew ({ U with heap := s₂.heap, slotsUsed := s₂.slotsUsed } : State) L mc ms := by
      refine ⟨?_, q2, q3, q4, q5, q6⟩
      obtain ⟨t, ht, -⟩ := State.frames_cons hr
      show ({ U with heap := s₂.heap, slotsUsed := s₂.slotsUsed } : State) = { U.setFrames U.frames with heap := s₂.heap, slotsUsed := s₂.slotsUsed }
      rw [State.setFrames_self ht]
    subst hg
    refine Or.inl ⟨v, ⟨(({ U with heap := s₂.heap, slotsUsed := s₂.slotsUsed } : State).setVm s₂.vm), Ls ++ L, c0 + mc, s0 + ms⟩,
      ⟨X.admits, X.cas, X.clock, X.frames, X.room, X.hears, X.method, X.code, (X.here.setHeapUsed s₂.heap s₂.slotsUsed).setVm hW'.alike, X.tail, State.WarmedH.trans X.warmed hW', X.limits, X.bytes, X.same.trans (hsame.setVm s.vm)⟩,
      ⟨g, mk, s₂, L, rfl, rfl, hqc, rfl, hL, rfl, rfl⟩, ?_⟩
    show Steps p.tables e below _ ((({ U with heap := s₂.heap, slotsUsed := s₂.slotsUsed } : State).setVm s₂.vm).setTop { g with pc := g.pc + len₂, stack := v.toList ++ g.stack })
    rw [← hs₂]
    exact hsteps
  · obtain ⟨e2, q2, q3, q4, q5, q6⟩ := id hsm
    have e3 : s₂ = ({ (U.calling g mk a).setFrames s₂.frames with heap := s₂.heap, slotsUsed := s₂.slotsUsed } : State).setVm s₂.vm := by
      have : s₂ = ({ s₂ with vm := (U.calling g mk a).vm } : State).setVm s₂.vm := rfl
      rw [e2] at this
      exact this
    have hf₂ : s₂.frames = .throwing q :: .java g :: U.frames.tail := hend
    have hW' : U.WarmedH s₂.vm := hW₂
    have hs₂ : s₂ = ((({ U with heap := s₂.heap, slotsUsed := s₂.slotsUsed } : State).setVm s₂.vm).setTop g).pushFrame (.throwing q) := by
      refine e3.trans ?_
      rw [hf₂, State.calling_eq h.top, State.setFrames_setFrames, State.pushFrame, State.frames_setTop _ hr', State.setTop_of_frames _ hr', State.setFrames_setFrames, hr]
      rfl
    have hsame : U.sameButNew ({ U with heap := s₂.heap, slotsUsed := s₂.slotsUsed } : State) L mc ms := by
      refine ⟨?_, q2, q3, q4, q5, q6⟩
      obtain ⟨t, ht, -⟩ := State.frames_cons hr
      show ({ U with heap := s₂.heap, slotsUsed := s₂.slotsUsed } : State) = { U.setFrames U.frames with heap := s₂.heap, slotsUsed := s₂.slotsUsed }
      rw [State.setFrames_self ht]
    subst hg
    refine Or.inr ⟨q, ⟨(({ U with heap := s₂.heap, slotsUsed := s₂.slotsUsed } : State).setVm s₂.vm), Ls ++ L, c0 + mc, s0 + ms⟩,
      ⟨X.admits, X.cas, X.clock, X.frames, X.room, X.hears, X.method, X.code, (X.here.setHeapUsed s₂.heap s₂.slotsUsed).setVm hW'.alike, X.tail, State.WarmedH.trans X.warmed hW', X.limits, X.bytes, X.same.trans (hsame.setVm s.vm)⟩,
      ⟨g, mk, s₂, L, E, ce, rfl, rfl, hx, hce, hcv, hcl, rfl, hL, rfl, rfl⟩, ?_⟩
    show Steps p.tables e below _ (((({ U with heap := s₂.heap, slotsUsed := s₂.slotsUsed } : State).setVm s₂.vm).setTop g).pushFrame (.throwing q))
    rw [← hs₂]
    exact hsteps
end
variable {p : Program} {l : Launch} {e : Env} {R : Room} {s : State} {m : MethodId} {args : Array Value} {below : List Frame} {meth : Method} {c : Code} {T : State} {H : Heap} {locs : List Loc} {cells slots : Nat}
theorem vx_callVX (X : Stand p l e R s m args below meth c T locs cells slots) (hexec : p.tables.exec = Jvm.exec) {own C : String} {index : Nat} {y : MethodName} {bytes : ByteArray} {maxL : Nat} {ret : Option FieldType} {hh : List (Nat × Nat × Nat × Nat)}
    (hown : s.vm.findClass own = some m.cls) (hlink : (Cond.methodLink own index y).before args s = true) (hinst : (Cond.instanceMethod y).before args s = true) (hsel : (Cond.selects C y y).before args s = true)
    (hcode : (Cond.codeWith y bytes maxL ret hh).before args s = true) (hy : y.cls ≠ "java/lang/invoke/MethodHandle" ∧ y.cls ≠ "java/lang/invoke/VarHandle")
    {W9 : Nat} {Pre : Pt → Array Value → Prop} {Post : Pt → Array Value → Option Value → Pt → Prop} {PostX : Pt → Array Value → Addr → Pt → Prop} (hK : vx_Back l R p e below s args y 3 W9 Pre Post PostX)
    {b : Addr} {cellB : Cell} (hcell : T.heap[b]? = some cellB) (hobj : cellB.vm.isStatics = false) (hcls : s.vm.findClass C = some cellB.cls)
    {g : JFrame} (hg : g.method = m) (hsize : g.locals.size = c.maxLocals) {argsL rest : List Value} (hlen : ∀ sig, parseMethodDescriptor y.desc = some sig → argsL.length = sig.parameters.length)
    (hstack : g.stack = argsL.reverse ++ .ref b :: rest) (hW : 2 * g.monitorRoom + (rest.map fun v => v.category).sum ≤ W9) (hdg : decode c.code g.pc = .ok (.invokevirtual index, 3))
    (hpre : ∀ vm₁, s.WarmedH vm₁ → Pre ⟨T.setVm vm₁, locs, cells, slots⟩ (Value.ref b :: argsL).toArray) :
    (∃ (v : Option Value) (vm₁ : Vm) (B : Pt), s.WarmedH vm₁ ∧ Stand p l e R s m args below meth c B.U B.locs B.cells B.slots ∧ Post ⟨T.setVm vm₁, locs, cells, slots⟩ (Value.ref b :: argsL).toArray v B ∧
      ∀ target, Steps p.tables e below (B.U.setTop { g with pc := g.pc + 3, stack := v.toList ++ rest }) target → Steps p.tables e below (T.setTop g) target) ∨
    (∃ (q : Addr) (vm₁ : Vm) (B : Pt), s.WarmedH vm₁ ∧ Stand p l e R s m args below meth c B.U B.locs B.cells B.slots ∧ PostX ⟨T.setVm vm₁, locs, cells, slots⟩ (Value.ref b :: argsL).toArray q B ∧
      Steps p.tables e below (T.setTop g) ((B.U.setTop { g with stack := rest }).pushFrame (.throwing q))) := by
  obtain ⟨mk, methM, hnamed, hmethM, hstM, habM⟩ := Cond.instanceMethod_spec hinst
  obtain ⟨m8, methM', cM, hn8, hmethM', -, -, -, -, -, -, hsigM⟩ := Cond.codeWith_spec hcode
  cases Option.some.inj (hn8.symm.trans hnamed)
  cases hmethM.symm.trans hmethM'
  obtain ⟨c2, r2, m2, q1, q2, q3, q4, kP, hkP, hkPi⟩ := Cond.selects_spec hsel
  cases hcls.symm.trans q1
  cases (State.methodFound?_of_named hnamed hy).symm.trans q2
  cases hnamed.symm.trans q3
  have hselP : selectMethod e.platform s.vm cellB.cls mk = .method mk := by rw [Launch.admits_selectMethod X.admits]; exact q4
  obtain ⟨vm₁, X₁, hstep₁⟩ := X.invokevirtual hexec hown hlink hnamed hmethM hstM hkP hkPi hy (a := b) (cell := cellB) hcell
    (fun z h => by rw [h] at hobj; cases hobj) hselP hmethM habM hkP hkPi (g := g) hg (argsL := argsL) (rest := rest) (hlen _ hsigM) hstack hdg
  rcases hK m meth c ⟨T.setVm vm₁, locs, cells, slots⟩ { g with stack := rest } (.invokevirtual index) mk (Value.ref b :: argsL).toArray X₁ hg hsize hdg hW (X₁.named hnamed) (hpre vm₁ X₁.warmed) with ⟨v, B, X', hpost, hsteps⟩ | ⟨q, B, X', hpost, hsteps⟩
  · exact Or.inl ⟨v, vm₁, B, X₁.warmed, X', hpost, fun target h => hstep₁ _ fun acts => by rw [doInvoke_state]; exact hsteps.trans h⟩
  · exact Or.inr ⟨q, vm₁, B, X₁.warmed, X', hpost, hstep₁ _ fun acts => by rw [doInvoke_state]; exact hsteps⟩
theorem vx_callSX (X : Stand p l e R s m args below meth c T locs cells slots) (hexec : p.tables.exec = Jvm.exec) {own : String} {index : Nat} {y : MethodName} {bytes : ByteArray} {maxL : Nat} {ret : Option FieldType} {hh : List (Nat × Nat × Nat × Nat)}
    (hown : s.vm.findClass own = some m.cls) (hlink : (Cond.methodLink own index y).before args s = true) (hstat : (Cond.static y).before args s = true) (hinit : (Cond.initialized y.cls).before args s = true)
    (hcode : (Cond.codeWith y bytes maxL ret hh).before args s = true) (hy : y.cls ≠ "java/lang/invoke/MethodHandle" ∧ y.cls ≠ "java/lang/invoke/VarHandle")
    {W9 : Nat} {Pre : Pt → Array Value → Prop} {Post : Pt → Array Value → Option Value → Pt → Prop} {PostX : Pt → Array Value → Addr → Pt → Prop} (hK : vx_Back l R p e below s args y 3 W9 Pre Post PostX)
    {g : JFrame} (hg : g.method = m) (hsize : g.locals.size = c.maxLocals) {argsL rest : List Value} (hlen : ∀ sig, parseMethodDescriptor y.desc = some sig → argsL.length = sig.parameters.length)
    (hstack : g.stack = argsL.reverse ++ rest) (hW : 2 * g.monitorRoom + (rest.map fun v => v.category).sum ≤ W9) (hdg : decode c.code g.pc = .ok (.invokestatic index, 3))
    (hpre : ∀ vm₁, s.WarmedH vm₁ → Pre ⟨T.setVm vm₁, locs, cells, slots⟩ argsL.toArray) :
    (∃ (v : Option Value) (vm₁ : Vm) (B : Pt), s.WarmedH vm₁ ∧ Stand p l e R s m args below meth c B.U B.locs B.cells B.slots ∧ Post ⟨T.setVm vm₁, locs, cells, slots⟩ argsL.toArray v B ∧
      ∀ target, Steps p.tables e below (B.U.setTop { g with pc := g.pc + 3, stack := v.toList ++ rest }) target → Steps p.tables e below (T.setTop g) target) ∨
    (∃ (q : Addr) (vm₁ : Vm) (B : Pt), s.WarmedH vm₁ ∧ Stand p l e R s m args below meth c B.U B.locs B.cells B.slots ∧ PostX ⟨T.setVm vm₁, locs, cells, slots⟩ argsL.toArray q B ∧
      Steps p.tables e below (T.setTop g) ((B.U.setTop { g with stack := rest }).pushFrame (.throwing q))) := by
  obtain ⟨mk, methM, cM, hnamed, hmethM, -, -, -, -, -, -, hsigM⟩ := Cond.codeWith_spec hcode
  have hstatic : methM.isStatic = true := Cond.static_spec hnamed hmethM hstat
  obtain ⟨kP, hkP, -⟩ := className_of_methodNamed hnamed
  have hinitP : kP.init = .initialized := Cond.initialized_spec (findClass_of_methodNamed hnamed) hkP hinit
  obtain ⟨vm₁, X₁, hstep₁⟩ := X.invokestatic hexec hown hlink hnamed hmethM hstatic hkP hinitP hy (g := g) hg (argsL := argsL) (rest := rest) (hlen _ hsigM) hstack hdg
  rcases hK m meth c ⟨T.setVm vm₁, locs, cells, slots⟩ { g with stack := rest } (.invokestatic index) mk argsL.toArray X₁ hg hsize hdg hW (X₁.named hnamed) (hpre vm₁ X₁.warmed) with ⟨v, B, X', hpost, hsteps⟩ | ⟨q, B, X', hpost, hsteps⟩
  · exact Or.inl ⟨v, vm₁, B, X₁.warmed, X', hpost, fun target h => hstep₁ _ fun acts => by rw [doInvoke_state]; exact hsteps.trans h⟩
  · exact Or.inr ⟨q, vm₁, B, X₁.warmed, X', hpost, hstep₁ _ fun acts => by rw [doInvoke_state]; exact hsteps⟩
theorem vx_callVW (X : Stand p l e R s m args below meth c T locs cells slots) (hexec : p.tables.exec = Jvm.exec) {own C : String} {index : Nat} {y : MethodName} {bytes : ByteArray} {maxL : Nat} {ret : Option FieldType} {hh : List (Nat × Nat × Nat × Nat)}
    (hown : s.vm.findClass own = some m.cls) (hlink : (Cond.methodLink own index y).before args s = true) (hinst : (Cond.instanceMethod y).before args s = true) (hsel : (Cond.selects C y y).before args s = true)
    (hcode : (Cond.codeWith y bytes maxL ret hh).before args s = true) (hy : y.cls ≠ "java/lang/invoke/MethodHandle" ∧ y.cls ≠ "java/lang/invoke/VarHandle")
    {W9 : Nat} {Pre : Pt → Array Value → Prop} {Post : Pt → Array Value → Option Value → Pt → Prop} (hK : Back l R p e below s args y 3 W9 Pre Post)
    {b : Addr} {cellB : Cell} (hcell : T.heap[b]? = some cellB) (hobj : cellB.vm.isStatics = false) (hcls : s.vm.findClass C = some cellB.cls)
    {g : JFrame} (hg : g.method = m) (hsize : g.locals.size = c.maxLocals) {argsL rest : List Value} (hlen : ∀ sig, parseMethodDescriptor y.desc = some sig → argsL.length = sig.parameters.length)
    (hstack : g.stack = argsL.reverse ++ .ref b :: rest) (hW : 2 * g.monitorRoom + (rest.map fun v => v.category).sum ≤ W9) (hdg : decode c.code g.pc = .ok (.invokevirtual index, 3))
    (hpre : ∀ vm₁, s.WarmedH vm₁ → Pre ⟨T.setVm vm₁, locs, cells, slots⟩ (Value.ref b :: argsL).toArray) :
    ∃ (v : Option Value) (vm₁ : Vm) (B : Pt), s.WarmedH vm₁ ∧ Stand p l e R s m args below meth c B.U B.locs B.cells B.slots ∧ Post ⟨T.setVm vm₁, locs, cells, slots⟩ (Value.ref b :: argsL).toArray v B ∧
      ∀ target, Steps p.tables e below (B.U.setTop { g with pc := g.pc + 3, stack := v.toList ++ rest }) target → Steps p.tables e below (T.setTop g) target := by
  obtain ⟨mk, methM, hnamed, hmethM, hstM, habM⟩ := Cond.instanceMethod_spec hinst
  obtain ⟨m8, methM', cM, hn8, hmethM', -, -, -, -, -, -, hsigM⟩ := Cond.codeWith_spec hcode
  cases Option.some.inj (hn8.symm.trans hnamed)
  cases hmethM.symm.trans hmethM'
  obtain ⟨c2, r2, m2, q1, q2, q3, q4, kP, hkP, hkPi⟩ := Cond.selects_spec hsel
  cases hcls.symm.trans q1
  cases (State.methodFound?_of_named hnamed hy).symm.trans q2
  cases hnamed.symm.trans q3
  have hselP : selectMethod e.platform s.vm cellB.cls mk = .method mk := by rw [Launch.admits_selectMethod X.admits]; exact q4
  obtain ⟨vm₁, X₁, hstep₁⟩ := X.invokevirtual hexec hown hlink hnamed hmethM hstM hkP hkPi hy (a := b) (cell := cellB) hcell
    (fun z h => by rw [h] at hobj; cases hobj) hselP hmethM habM hkP hkPi (g := g) hg (argsL := argsL) (rest := rest) (hlen _ hsigM) hstack hdg
  obtain ⟨v, B, X', hpost, hsteps⟩ := hK m meth c ⟨T.setVm vm₁, locs, cells, slots⟩ { g with stack := rest } (.invokevirtual index) mk (Value.ref b :: argsL).toArray X₁ hg hsize hdg hW (X₁.named hnamed) (hpre vm₁ X₁.warmed)
  exact ⟨v, vm₁, B, X₁.warmed, X', hpost, fun target h => hstep₁ _ fun acts => by rw [doInvoke_state]; exact hsteps.trans h⟩
abbrev vx_CVW (R : Room) (s : State) (args : Array Value) (own C : String) (index : Nat) (y : MethodName) (bytes : ByteArray) (maxL : Nat) (ret : Option FieldType) (hh : List (Nat × Nat × Nat × Nat)) (ws : List Cond) (rm : Room) (mc ms n : Nat) : Prop :=
  (rm.cells = mc ∧ rm.slots = ms ∧ rm.frames + 1 ≤ R.frames ∧ 8 + (maxL + 11) + rm.locals ≤ R.locals ∧ (∀ w ∈ ws, ∀ (a' : Array Value) (U : State), s.WarmedH U.vm → w.before a' U = true) ∧ Cond.codeWith y bytes maxL ret hh ∈ ws) ∧
  (Cond.codeWith y bytes maxL ret hh).before args s = true ∧ (Cond.initialized y.cls).before args s = true ∧ (y.cls ≠ "java/lang/invoke/MethodHandle" ∧ y.cls ≠ "java/lang/invoke/VarHandle") ∧
  (∀ sig, parseMethodDescriptor y.desc = some sig → n = sig.parameters.length) ∧ (Cond.methodLink own index y).before args s = true ∧ (Cond.instanceMethod y).before args s = true ∧ (Cond.selects C y y).before args s = true
theorem vx_cwVW {own C : String} {index maxL mc ms : Nat} {y : MethodName} {bytes : ByteArray} {ret : Option FieldType} {hh : List (Nat × Nat × Nat × Nat)} {Ts ws ws' : List Cond} {rm : Room} (n : Nat) (ht : ∀ w ∈ Ts, w.before args s = true) (hT : GoodIn Ts (wsV own index C y ws)) (hw : ws = Cond.codeWith y bytes maxL ret hh :: ws') (hrc : rm.cells = mc) (hrs : rm.slots = ms)
    (hd : y.cls = C ∧ y.cls ≠ "java/lang/invoke/MethodHandle" ∧ y.cls ≠ "java/lang/invoke/VarHandle" ∧ (parseMethodDescriptor y.desc).map (fun d => d.parameters.length) = some n) (hR : rm.frames + 1 ≤ R.frames ∧ 8 + (maxL + 11) + rm.locals ≤ R.locals) :
    vx_CVW R s args own C index y bytes maxL ret hh ws rm mc ms n := by
  obtain ⟨hC, hd⟩ := hd
  subst hC
  have ok : ∀ w ∈ wsV own index y.cls y ws, w.before args s = true := fun w h => ht w (hT w h).1
  have hG : GoodIn Ts ws := fun w h => hT w (by unfold wsV; exact List.mem_append_right _ h)
  have hc : Cond.codeWith y bytes maxL ret hh ∈ ws := by rw [hw]; exact List.mem_cons_self
  refine ⟨⟨hrc, hrs, hR.1, hR.2, pay_in ht hG, hc⟩, ht _ (hG _ hc).1, ok _ (by simp [wsV]), ⟨hd.1, hd.2.1⟩, fun sig h => ?_, ok _ (by simp [wsV]), ok _ (by simp [wsV]), ok _ (by simp [wsV])⟩
  have h2 := hd.2.2
  rw [h] at h2
  exact (Option.some.inj h2).symm
theorem vx_runVW {y : MethodName} {bytes cc : ByteArray} {maxL nL mc ms n index : Nat} {ret : Option FieldType} {hh : List (Nat × Nat × Nat × Nat)} {ws : List Cond} {rm : Room} {Pc : Array Value → State → Prop} {Qc : Array Value → State → Outcome → State → Prop} {free : Addr → Prop} {Ts : List Cond} {own C : String} {b : Addr} {As rest : List Value} {g : JFrame}
    (S : CallFix p m c cc nL s args Ts own) (hM : Met l y ws rm Pc Qc mc ms free) (cw : vx_CVW R s args own C index y bytes maxL ret hh ws rm mc ms n) (hp : PreV s H C b Pc As)
    (hg : g.method = m) (hn : As.length = n) (hsize : g.locals.size = nL) (hstack : g.stack = As.reverse ++ .ref b :: rest) (hW : 2 * g.monitorRoom + (rest.map fun v => v.category).sum ≤ 8) (hdg : decode cc g.pc = .ok (.invokevirtual index, 3)) (hf : cells + mc ≤ R.cells ∧ slots + ms ≤ R.slots) :
    va_Run p l e R s m args below meth c H locs cells slots mc ms g rest (Qc (Value.ref b :: As).toArray) free := by
  obtain ⟨⟨hrc, hrs, hfr, hlo, hws, hcw⟩, hcode, hini, hy, hlen, hl, hin, hse⟩ := cw
  have hK : Back l R p e below s args y 3 8 (PreOf R mc ms Pc) (PostOf Qc mc ms free) := va_backW (hh := hh) (bytes := bytes) (maxL := maxL) (ret := ret) hM hp.1 hrc hrs hfr hlo hws hcw (fun a' U hW => word_at hW (Or.inl (by first | rfl | simp [Cond.onTables, Cond.keeps, Cond.steady])) hini)
  obtain ⟨hx, hb, hml, ho, -⟩ := S
  obtain ⟨-, ⟨cellB, hcB, hoB, hclB⟩, hPc⟩ := hp
  intro T hT X
  obtain ⟨v, vm₁, ⟨U', l2, c2, s2⟩, hW₁, X', ⟨g', mk, t, L, e1, e2, hq, h1, hL, h2, h3⟩, st⟩ := vx_callVW X hx (C := C) (hh := hh) (bytes := bytes) (maxL := maxL) (ret := ret) ho hl hin hse hcode hy hK (by rw [hT]; exact hcB) hoB hclB hg (hsize.trans hml.symm) (argsL := As) (rest := rest) (fun sig h => hn.trans (hlen sig h)) hstack hW (by rw [hb]; exact hdg)
    (fun vm₁ hW₁ => ⟨hf.1, hf.2, hPc (T.setVm vm₁) hT hW₁⟩)
  dsimp only [Pt.U, Pt.locs, Pt.cells, Pt.slots] at X' e1 e2 h1 h2 h3 st
  subst h1; subst h2; subst h3
  exact ⟨v, (T.setVm vm₁).calling g' mk (Value.ref b :: As).toArray, t, U', L, hT, X', hL, e1, e2, hq, st⟩
section
variable {y : MethodName} {bytes cc : ByteArray} {maxL nL mc ms n index : Nat} {ret : Option FieldType} {ws : List Cond} {rm : Room} {Pc : Array Value → State → Prop} {Qc : Array Value → State → Outcome → State → Prop} {XC : String → State → State → Prop} {free : Addr → Prop} {Ts : List Cond} {own C : String} {b : Addr} {As rest : List Value} {g : JFrame}
theorem vx_runVX {hh : List (Nat × Nat × Nat × Nat)} (S : CallFix p m c cc nL s args Ts own) (hM : vx_Met l y ws rm Pc Qc XC mc ms free) (cw : vx_CVW R s args own C index y bytes maxL ret hh ws rm mc ms n) (hp : PreV s H C b Pc As)
    (hg : g.method = m) (hn : As.length = n) (hsize : g.locals.size = nL) (hstack : g.stack = As.reverse ++ .ref b :: rest) (hW : 2 * g.monitorRoom + (rest.map fun v => v.category).sum ≤ 8) (hdg : decode cc g.pc = .ok (.invokevirtual index, 3)) (hf : cells + mc ≤ R.cells ∧ slots + ms ≤ R.slots) :
    vx_Run p l e R s m args below meth c H locs cells slots mc ms g rest (Qc (Value.ref b :: As).toArray) XC free := by
  obtain ⟨⟨hrc, hrs, hfr, hlo, hws, hcw⟩, hcode, hini, hy, hlen, hl, hin, hse⟩ := cw
  have hK : vx_Back l R p e below s args y 3 8 (PreOf R mc ms Pc) (PostOf Qc mc ms free) (vx_Post XC mc ms free) := vx_backW (hh := hh) (bytes := bytes) (maxL := maxL) (ret := ret) hM hp.1 hrc hrs hfr hlo hws hcw (fun a' U hW => word_at hW (Or.inl (by first | rfl | simp [Cond.onTables, Cond.keeps, Cond.steady])) hini)
  obtain ⟨hx, hb, hml, ho, -⟩ := S
  obtain ⟨-, ⟨cellB, hcB, hoB, hclB⟩, hPc⟩ := hp
  intro T hT X
  rcases vx_callVX X hx (C := C) (hh := hh) (bytes := bytes) (maxL := maxL) (ret := ret) ho hl hin hse hcode hy hK (by rw [hT]; exact hcB) hoB hclB hg (hsize.trans hml.symm) (argsL := As) (rest := rest) (fun sig h => hn.trans (hlen sig h)) hstack hW (by rw [hb]; exact hdg)
    (fun vm₁ hW₁ => ⟨hf.1, hf.2, hPc (T.setVm vm₁) hT hW₁⟩) with ⟨v, vm₁, ⟨U', l2, c2, s2⟩, hW₁, X', ⟨g', mk, t, L, e1, e2, hq, h1, hL, h2, h3⟩, st⟩ | ⟨q, vm₁, ⟨U', l2, c2, s2⟩, hW₁, X', ⟨g', mk, t, L, E, ce, e1, e2, hq, hce, hcv, hcl, h1, hL, h2, h3⟩, st⟩
  · dsimp only [Pt.U, Pt.locs, Pt.cells, Pt.slots] at X' e1 e2 h1 h2 h3 st
    subst h1; subst h2; subst h3
    exact Or.inl ⟨v, (T.setVm vm₁).calling g' mk (Value.ref b :: As).toArray, t, U', L, hT, X', hL, e1, e2, hq, st⟩
  · dsimp only [Pt.U, Pt.locs, Pt.cells, Pt.slots] at X' e1 e2 h1 h2 h3 st hcl
    subst h1; subst h2; subst h3
    exact Or.inr ⟨q, (T.setVm vm₁).calling g' mk (Value.ref b :: As).toArray, t, U', L, E, ce, hT, X', hL, e1, e2, hq, hce, hcv, vx_cls hW₁ hcl, st⟩
theorem vx_runSX {hh : List (Nat × Nat × Nat × Nat)} (S : CallFix p m c cc nL s args Ts own) (hM : vx_Met l y ws rm Pc Qc XC mc ms free) (cw : vx_CSW R s args own index y bytes maxL ret hh ws rm mc ms n) (hp : PreS s H Pc As)
    (hg : g.method = m) (hn : As.length = n) (hsize : g.locals.size = nL) (hstack : g.stack = As.reverse ++ rest) (hW : 2 * g.monitorRoom + (rest.map fun v => v.category).sum ≤ 8) (hdg : decode cc g.pc = .ok (.invokestatic index, 3)) (hf : cells + mc ≤ R.cells ∧ slots + ms ≤ R.slots) :
    vx_Run p l e R s m args below meth c H locs cells slots mc ms g rest (Qc As.toArray) XC free := by
  obtain ⟨⟨hrc, hrs, hfr, hlo, hws, hcw⟩, hcode, hini, hy, hlen, hl, hstt⟩ := cw
  have hK : vx_Back l R p e below s args y 3 8 (PreOf R mc ms Pc) (PostOf Qc mc ms free) (vx_Post XC mc ms free) := vx_backW (hh := hh) (bytes := bytes) (maxL := maxL) (ret := ret) hM hp.1 hrc hrs hfr hlo hws hcw (fun a' U hW => word_at hW (Or.inl (by first | rfl | simp [Cond.onTables, Cond.keeps, Cond.steady])) hini)
  obtain ⟨hx, hb, hml, ho, -⟩ := S
  intro T hT X
  rcases vx_callSX X hx (hh := hh) (bytes := bytes) (maxL := maxL) (ret := ret) ho hl hstt hini hcode hy hK hg (hsize.trans hml.symm) (argsL := As) (rest := rest) (fun sig h => hn.trans (hlen sig h)) hstack hW (by rw [hb]; exact hdg)
    (fun vm₁ hW₁ => ⟨hf.1, hf.2, hp.2 (T.setVm vm₁) hT hW₁⟩) with ⟨v, vm₁, ⟨U', l2, c2, s2⟩, hW₁, X', ⟨g', mk, t, L, e1, e2, hq, h1, hL, h2, h3⟩, st⟩ | ⟨q, vm₁, ⟨U', l2, c2, s2⟩, hW₁, X', ⟨g', mk, t, L, E, ce, e1, e2, hq, hce, hcv, hcl, h1, hL, h2, h3⟩, st⟩
  · dsimp only [Pt.U, Pt.locs, Pt.cells, Pt.slots] at X' e1 e2 h1 h2 h3 st
    subst h1; subst h2; subst h3
    exact Or.inl ⟨v, (T.setVm vm₁).calling g' mk As.toArray, t, U', L, hT, X', hL, e1, e2, hq, st⟩
  · dsimp only [Pt.U, Pt.locs, Pt.cells, Pt.slots] at X' e1 e2 h1 h2 h3 st hcl
    subst h1; subst h2; subst h3
    exact Or.inr ⟨q, (T.setVm vm₁).calling g' mk As.toArray, t, U', L, E, ce, hT, X', hL, e1, e2, hq, hce, hcv, vx_cls hW₁ hcl, st⟩
end
end VXH
theorem vx_ofWH {l : Launch} {y : MethodName} {ws ws' : List Cond} {rm : Room} {Pc : Array Value → State → Prop} {Qc : Array Value → State → Outcome → State → Prop} {XC : String → State → State → Prop} {mc ms : Nat} {free : Addr → Prop} {cc : ByteArray} {maxL : Nat} {ret : Option FieldType} {hh : List (Nat × Nat × Nat × Nat)}
    (hy : plainName y.cls = true) (hw : ws = Cond.codeWith y cc maxL ret hh :: ws')
    (body : ∀ p e s m args below meth c s₁, BodyLoose p l y (headSpec ws rm) cc maxL ret e s m args below meth c s₁ → c.maxLocals = maxL → Pc args s →
      W p l e (headSpec ws rm).room s m args below meth c s.heap [] 0 0 (vx_MQ below Qc XC args s mc ms free) (entryFrame m args maxL)) : vx_Met l y ws rm Pc Qc XC mc ms free := by
  refine MetFree.of_bodyS (code := cc) (maxLocals := maxL) (ret := ret) hy ?_ ?_
  · intro args s m h hn
    obtain ⟨m9, meth, c, hn9, h1, h2, h3, h4, -, h5, h6, -⟩ := Cond.codeWith_spec (atoms_spec (ws := ws) h _ (by rw [hw]; exact List.mem_cons_self))
    cases hn.symm.trans hn9
    exact ⟨meth, c, h1, h2, h3, h4, h5, h6⟩
  · intro p e s m args below meth c s₁ B hml hP _
    have hh0 : s₁.heap = s.heap := by rw [B.state]; rfl
    obtain ⟨t, a1, o, b1, b2, b3⟩ := body p e s m args below meth c s₁ B hml hP s₁ hh0 (Stand.of_body B)
    exact ⟨t, o, a1, b1, b2, b3⟩
/-! ===== END ===== -/
end
section
def RX0 : String := "FoundryNine$Arrivals"
def TX0 : u_T := fun k => match k with
  | _ => ("FoundryNine$Arrivals", "arrival", "[I", true)
def tyX0 : Nat → FieldType := fun k => match k with
  | _ => .array .int
abbrev wsX00 : List Cond := u_ws RX0 TX0 1
theorem nmX0 : ∀ a, a < 1 → ∀ b, b < 1 → a ≠ b → (TX0 a).2.1 ≠ (TX0 b).2.1 := by decide +kernel
theorem tyX0_ok : ∀ k, k < 1 → parseFieldDescriptor (TX0 k).2.2.1 = some (tyX0 k) := by decide +kernel
abbrev cX0_init : ByteArray := prog_2_method_1_code
def yX0_init : MethodName := ⟨RX0, "<init>", "()V"⟩
abbrev cX0_reckon : ByteArray := prog_2_method_2_code
def yX0_reckon : MethodName := ⟨RX0, "reckon", "(LFoundryNine$Circuit;LFoundryNine$Flaws;II)V"⟩
abbrev cX0_arrivalBy : ByteArray := prog_2_method_3_code
def yX0_arrivalBy : MethodName := ⟨RX0, "arrivalBy", "(LFoundryNine$Circuit;LFoundryNine$Flaws;II)I"⟩
abbrev cX0_arrivalOf : ByteArray := prog_2_method_4_code
def yX0_arrivalOf : MethodName := ⟨RX0, "arrivalOf", "(I)I"⟩
abbrev cX0_greatest : ByteArray := prog_2_method_5_code
def yX0_greatest : MethodName := ⟨RX0, "greatest", "()I"⟩
abbrev cX0_latestDriven : ByteArray := prog_2_method_6_code
def yX0_latestDriven : MethodName := ⟨RX0, "latestDriven", "(LFoundryNine$Circuit;)I"⟩
abbrev cX0_wireBehind : ByteArray := prog_2_method_7_code
def yX0_wireBehind : MethodName := ⟨RX0, "wireBehind", "(LFoundryNine$Circuit;I)I"⟩
def RX1 : String := "FoundryNine$Circuit"
def TX1 : u_T := fun k => match k with
  | 0 => ("FoundryNine$Circuit", "kind", "[I", true)
  | 1 => ("FoundryNine$Circuit", "wire", "[I", true)
  | 2 => ("FoundryNine$Circuit", "a", "[I", true)
  | 3 => ("FoundryNine$Circuit", "b", "[I", true)
  | 4 => ("FoundryNine$Circuit", "c", "[I", true)
  | 5 => ("FoundryNine$Circuit", "delay", "[I", true)
  | 6 => ("FoundryNine$Circuit", "setup", "[I", true)
  | 7 => ("FoundryNine$Circuit", "hold", "[I", true)
  | 8 => ("FoundryNine$Circuit", "users", "[I", true)
  | 9 => ("FoundryNine$Circuit", "drivers", "[I", true)
  | 10 => ("FoundryNine$Circuit", "firstDriver", "[I", true)
  | _ => ("FoundryNine$Circuit", "count", "I", false)
def tyX1 : Nat → FieldType := fun k => match k with
  | 0 => .array .int
  | 1 => .array .int
  | 2 => .array .int
  | 3 => .array .int
  | 4 => .array .int
  | 5 => .array .int
  | 6 => .array .int
  | 7 => .array .int
  | 8 => .array .int
  | 9 => .array .int
  | 10 => .array .int
  | _ => .int
abbrev wsX10 : List Cond := u_ws RX1 TX1 12
theorem nmX1 : ∀ a, a < 12 → ∀ b, b < 12 → a ≠ b → (TX1 a).2.1 ≠ (TX1 b).2.1 := by decide +kernel
theorem tyX1_ok : ∀ k, k < 12 → parseFieldDescriptor (TX1 k).2.2.1 = some (tyX1 k) := by decide +kernel
abbrev cX1_init : ByteArray := prog_3_method_1_code
def yX1_init : MethodName := ⟨RX1, "<init>", "()V"⟩
abbrev cX1_add : ByteArray := prog_3_method_2_code
def yX1_add : MethodName := ⟨RX1, "add", "(IIIIII)I"⟩
abbrev cX1_noteUse : ByteArray := prog_3_method_3_code
def yX1_noteUse : MethodName := ⟨RX1, "noteUse", "(II)V"⟩
abbrev cX1_isGate : ByteArray := prog_3_method_4_code
def yX1_isGate : MethodName := ⟨RX1, "isGate", "(I)Z"⟩
abbrev cX1_isFirstDrivenBy : ByteArray := prog_3_method_5_code
def yX1_isFirstDrivenBy : MethodName := ⟨RX1, "isFirstDrivenBy", "(II)Z"⟩
abbrev cX1_isUsedBy : ByteArray := prog_3_method_6_code
def yX1_isUsedBy : MethodName := ⟨RX1, "isUsedBy", "(II)Z"⟩
abbrev cX1_firstLineOf : ByteArray := prog_3_method_7_code
def yX1_firstLineOf : MethodName := ⟨RX1, "firstLineOf", "(I)I"⟩
abbrev cX1_pinsOf : ByteArray := prog_3_method_8_code
def yX1_pinsOf : MethodName := ⟨RX1, "pinsOf", "(I)I"⟩
def RX2 : String := "FoundryNine$Flaws"
def TX2 : u_T := fun k => match k with
  | 0 => ("FoundryNine$Flaws", "code", "[I", true)
  | 1 => ("FoundryNine$Flaws", "place", "[I", true)
  | 2 => ("FoundryNine$Flaws", "inRing", "[Z", true)
  | 3 => ("FoundryNine$Flaws", "reach", "[I", true)
  | 4 => ("FoundryNine$Flaws", "count", "I", false)
  | _ => ("FoundryNine$Flaws", "forbidRunning", "Z", false)
def tyX2 : Nat → FieldType := fun k => match k with
  | 0 => .array .int
  | 1 => .array .int
  | 2 => .array .boolean
  | 3 => .array .int
  | 4 => .int
  | _ => .boolean
abbrev wsX20 : List Cond := u_ws RX2 TX2 6
theorem nmX2 : ∀ a, a < 6 → ∀ b, b < 6 → a ≠ b → (TX2 a).2.1 ≠ (TX2 b).2.1 := by decide +kernel
theorem tyX2_ok : ∀ k, k < 6 → parseFieldDescriptor (TX2 k).2.2.1 = some (tyX2 k) := by decide +kernel
abbrev cX2_init : ByteArray := prog_4_method_1_code
def yX2_init : MethodName := ⟨RX2, "<init>", "()V"⟩
abbrev cX2_find : ByteArray := prog_4_method_2_code
def yX2_find : MethodName := ⟨RX2, "find", "(LFoundryNine$Circuit;)V"⟩
abbrev cX2_note : ByteArray := prog_4_method_3_code
def yX2_note : MethodName := ⟨RX2, "note", "(II)V"⟩
abbrev cX2_findReach : ByteArray := prog_4_method_4_code
def yX2_findReach : MethodName := ⟨RX2, "findReach", "(LFoundryNine$Circuit;)V"⟩
abbrev cX2_reachOf : ByteArray := prog_4_method_5_code
def yX2_reachOf : MethodName := ⟨RX2, "reachOf", "(I)I"⟩
def RX3 : String := "FoundryNine$Run"
def TX3 : u_T := fun k => match k with
  | 0 => ("FoundryNine$Run", "circuit", "LFoundryNine$Circuit;", true)
  | 1 => ("FoundryNine$Run", "value", "[I", true)
  | 2 => ("FoundryNine$Run", "changedAt", "[I", true)
  | 3 => ("FoundryNine$Run", "timesChanged", "[I", true)
  | 4 => ("FoundryNine$Run", "countedFrom", "[I", true)
  | 5 => ("FoundryNine$Run", "pendingValue", "[I", true)
  | 6 => ("FoundryNine$Run", "pendingTime", "[I", true)
  | 7 => ("FoundryNine$Run", "pendingTurn", "[I", true)
  | 8 => ("FoundryNine$Run", "riseAt", "[I", true)
  | 9 => ("FoundryNine$Run", "hazardCode", "[I", true)
  | 10 => ("FoundryNine$Run", "hazardWire", "[I", true)
  | 11 => ("FoundryNine$Run", "hazardTime", "[I", true)
  | 12 => ("FoundryNine$Run", "hazardCount", "I", false)
  | 13 => ("FoundryNine$Run", "now", "I", false)
  | 14 => ("FoundryNine$Run", "turns", "I", false)
  | 15 => ("FoundryNine$Run", "swallowed", "I", false)
  | 16 => ("FoundryNine$Run", "restless", "I", false)
  | _ => ("FoundryNine$Run", "changes", "I", false)
def tyX3 : Nat → FieldType := fun k => match k with
  | 0 => .object "FoundryNine$Circuit"
  | 1 => .array .int
  | 2 => .array .int
  | 3 => .array .int
  | 4 => .array .int
  | 5 => .array .int
  | 6 => .array .int
  | 7 => .array .int
  | 8 => .array .int
  | 9 => .array .int
  | 10 => .array .int
  | 11 => .array .int
  | 12 => .int
  | 13 => .int
  | 14 => .int
  | 15 => .int
  | 16 => .int
  | _ => .int
abbrev wsX30 : List Cond := u_ws RX3 TX3 18
theorem nmX3 : ∀ a, a < 18 → ∀ b, b < 18 → a ≠ b → (TX3 a).2.1 ≠ (TX3 b).2.1 := by decide +kernel
theorem tyX3_ok : ∀ k, k < 18 → parseFieldDescriptor (TX3 k).2.2.1 = some (tyX3 k) := by decide +kernel
abbrev cX3_init : ByteArray := prog_5_method_1_code
def yX3_init : MethodName := ⟨RX3, "<init>", "(LFoundryNine$Circuit;)V"⟩
abbrev cX3_clear : ByteArray := prog_5_method_2_code
def yX3_clear : MethodName := ⟨RX3, "clear", "()V"⟩
abbrev cX3_copyFrom : ByteArray := prog_5_method_3_code
def yX3_copyFrom : MethodName := ⟨RX3, "copyFrom", "(LFoundryNine$Run;)V"⟩
abbrev cX3_begin : ByteArray := prog_5_method_4_code
def yX3_begin : MethodName := ⟨RX3, "begin", "()V"⟩
abbrev cX3_put : ByteArray := prog_5_method_5_code
def yX3_put : MethodName := ⟨RX3, "put", "(II)V"⟩
abbrev cX3_comeToRest : ByteArray := prog_5_method_6_code
def yX3_comeToRest : MethodName := ⟨RX3, "comeToRest", "()I"⟩
abbrev cX3_letCome : ByteArray := prog_5_method_7_code
def yX3_letCome : MethodName := ⟨RX3, "letCome", "(I)I"⟩
abbrev cX3_nextLine : ByteArray := prog_5_method_8_code
def yX3_nextLine : MethodName := ⟨RX3, "nextLine", "(I)I"⟩
abbrev cX3_comesAheadOf : ByteArray := prog_5_method_9_code
def yX3_comesAheadOf : MethodName := ⟨RX3, "comesAheadOf", "(II)Z"⟩
abbrev cX3_nextTime : ByteArray := prog_5_method_10_code
def yX3_nextTime : MethodName := ⟨RX3, "nextTime", "()I"⟩
abbrev cX3_linesPending : ByteArray := prog_5_method_11_code
def yX3_linesPending : MethodName := ⟨RX3, "linesPending", "()I"⟩
abbrev cX3_giveUpAll : ByteArray := prog_5_method_12_code
def yX3_giveUpAll : MethodName := ⟨RX3, "giveUpAll", "()V"⟩
abbrev cX3_beginCounting : ByteArray := prog_5_method_13_code
def yX3_beginCounting : MethodName := ⟨RX3, "beginCounting", "()V"⟩
abbrev cX3_change : ByteArray := prog_5_method_14_code
def yX3_change : MethodName := ⟨RX3, "change", "(II)V"⟩
abbrev cX3_askGate : ByteArray := prog_5_method_15_code
def yX3_askGate : MethodName := ⟨RX3, "askGate", "(I)V"⟩
abbrev cX3_askRegister : ByteArray := prog_5_method_16_code
def yX3_askRegister : MethodName := ⟨RX3, "askRegister", "(III)V"⟩
abbrev cX3_rise : ByteArray := prog_5_method_17_code
def yX3_rise : MethodName := ⟨RX3, "rise", "(I)V"⟩
abbrev cX3_isRecent : ByteArray := prog_5_method_18_code
def yX3_isRecent : MethodName := ⟨RX3, "isRecent", "(II)Z"⟩
abbrev cX3_makePending : ByteArray := prog_5_method_19_code
def yX3_makePending : MethodName := ⟨RX3, "makePending", "(II)V"⟩
abbrev cX3_valueOf : ByteArray := prog_5_method_20_code
def yX3_valueOf : MethodName := ⟨RX3, "valueOf", "(I)I"⟩
abbrev cX3_noteHazardsOfGates : ByteArray := prog_5_method_21_code
def yX3_noteHazardsOfGates : MethodName := ⟨RX3, "noteHazardsOfGates", "()V"⟩
abbrev cX3_noteHazard : ByteArray := prog_5_method_22_code
def yX3_noteHazard : MethodName := ⟨RX3, "noteHazard", "(II)V"⟩
abbrev cX3_worked : ByteArray := prog_5_method_23_code
def yX3_worked : MethodName := ⟨RX3, "worked", "(IIII)I"⟩
abbrev cX3_turned : ByteArray := prog_5_method_24_code
def yX3_turned : MethodName := ⟨RX3, "turned", "(I)I"⟩
abbrev cX3_both : ByteArray := prog_5_method_25_code
def yX3_both : MethodName := ⟨RX3, "both", "(II)I"⟩
abbrev cX3_either : ByteArray := prog_5_method_26_code
def yX3_either : MethodName := ⟨RX3, "either", "(II)I"⟩
abbrev cX3_chosen : ByteArray := prog_5_method_27_code
def yX3_chosen : MethodName := ⟨RX3, "chosen", "(III)I"⟩
def RX4 : String := "FoundryNine"
def TX4 : u_T := fun k => match k with
  | 0 => ("FoundryNine", "circuit", "LFoundryNine$Circuit;", true)
  | 1 => ("FoundryNine", "noted", "LFoundryNine$Flaws;", true)
  | 2 => ("FoundryNine", "arrivals", "LFoundryNine$Arrivals;", true)
  | 3 => ("FoundryNine", "arrivalsWith", "LFoundryNine$Arrivals;", true)
  | 4 => ("FoundryNine", "run", "LFoundryNine$Run;", true)
  | 5 => ("FoundryNine", "trial", "LFoundryNine$Run;", true)
  | _ => ("FoundryNine", "running", "Z", false)
def tyX4 : Nat → FieldType := fun k => match k with
  | 0 => .object "FoundryNine$Circuit"
  | 1 => .object "FoundryNine$Flaws"
  | 2 => .object "FoundryNine$Arrivals"
  | 3 => .object "FoundryNine$Arrivals"
  | 4 => .object "FoundryNine$Run"
  | 5 => .object "FoundryNine$Run"
  | _ => .boolean
abbrev wsX40 : List Cond := u_ws RX4 TX4 7
theorem nmX4 : ∀ a, a < 7 → ∀ b, b < 7 → a ≠ b → (TX4 a).2.1 ≠ (TX4 b).2.1 := by decide +kernel
theorem tyX4_ok : ∀ k, k < 7 → parseFieldDescriptor (TX4 k).2.2.1 = some (tyX4 k) := by decide +kernel
abbrev cX4_init : ByteArray := prog_1_method_1_code
def yX4_init : MethodName := ⟨RX4, "<init>", "()V"⟩
abbrev cX4_input : ByteArray := prog_1_method_2_code
def yX4_input : MethodName := ⟨RX4, "input", "(I)I"⟩
abbrev cX4_gate : ByteArray := prog_1_method_3_code
def yX4_gate : MethodName := ⟨RX4, "gate", "(IIIIII)I"⟩
abbrev cX4_register : ByteArray := prog_1_method_4_code
def yX4_register : MethodName := ⟨RX4, "register", "(IIIII)I"⟩
abbrev cX4_setWindow : ByteArray := prog_1_method_5_code
def yX4_setWindow : MethodName := ⟨RX4, "setWindow", "(III)I"⟩
abbrev cX4_setDelay : ByteArray := prog_1_method_6_code
def yX4_setDelay : MethodName := ⟨RX4, "setDelay", "(II)I"⟩
abbrev cX4_lines : ByteArray := prog_1_method_7_code
def yX4_lines : MethodName := ⟨RX4, "lines", "()I"⟩
abbrev cX4_flaws : ByteArray := prog_1_method_8_code
def yX4_flaws : MethodName := ⟨RX4, "flaws", "()I"⟩
abbrev cX4_ofFlaw : ByteArray := prog_1_method_9_code
def yX4_ofFlaw : MethodName := ⟨RX4, "ofFlaw", "(II)I"⟩
abbrev cX4_arrival : ByteArray := prog_1_method_10_code
def yX4_arrival : MethodName := ⟨RX4, "arrival", "(I)I"⟩
abbrev cX4_longest : ByteArray := prog_1_method_11_code
def yX4_longest : MethodName := ⟨RX4, "longest", "()I"⟩
abbrev cX4_way : ByteArray := prog_1_method_12_code
def yX4_way : MethodName := ⟨RX4, "way", "(I)I"⟩
abbrev cX4_users : ByteArray := prog_1_method_13_code
def yX4_users : MethodName := ⟨RX4, "users", "(I)I"⟩
abbrev cX4_start : ByteArray := prog_1_method_14_code
def yX4_start : MethodName := ⟨RX4, "start", "()I"⟩
abbrev cX4_set : ByteArray := prog_1_method_15_code
def yX4_set : MethodName := ⟨RX4, "set", "(II)I"⟩
abbrev cX4_pass : ByteArray := prog_1_method_16_code
def yX4_pass : MethodName := ⟨RX4, "pass", "(I)I"⟩
abbrev cX4_settle : ByteArray := prog_1_method_17_code
def yX4_settle : MethodName := ⟨RX4, "settle", "()I"⟩
abbrev cX4_isRunning : ByteArray := prog_1_method_18_code
def yX4_isRunning : MethodName := ⟨RX4, "isRunning", "()Z"⟩
abbrev cX4_told : ByteArray := prog_1_method_19_code
def yX4_told : MethodName := ⟨RX4, "told", "(I)I"⟩
abbrev cX4_ofWire : ByteArray := prog_1_method_20_code
def yX4_ofWire : MethodName := ⟨RX4, "ofWire", "(II)I"⟩
abbrev cX4_pending : ByteArray := prog_1_method_21_code
def yX4_pending : MethodName := ⟨RX4, "pending", "(I)I"⟩
abbrev cX4_hazards : ByteArray := prog_1_method_22_code
def yX4_hazards : MethodName := ⟨RX4, "hazards", "()I"⟩
abbrev cX4_ofHazard : ByteArray := prog_1_method_23_code
def yX4_ofHazard : MethodName := ⟨RX4, "ofHazard", "(II)I"⟩
abbrev cX4_wouldBe : ByteArray := prog_1_method_24_code
def yX4_wouldBe : MethodName := ⟨RX4, "wouldBe", "(III)I"⟩
abbrev cX4_hazardsWith : ByteArray := prog_1_method_25_code
def yX4_hazardsWith : MethodName := ⟨RX4, "hazardsWith", "(II)I"⟩
abbrev cX4_settlesIn : ByteArray := prog_1_method_26_code
def yX4_settlesIn : MethodName := ⟨RX4, "settlesIn", "()I"⟩
abbrev cX4_longestWith : ByteArray := prog_1_method_27_code
def yX4_longestWith : MethodName := ⟨RX4, "longestWith", "(II)I"⟩
abbrev cX4_meanArrival : ByteArray := prog_1_method_28_code
def yX4_meanArrival : MethodName := ⟨RX4, "meanArrival", "()D"⟩
abbrev cX4_digest : ByteArray := prog_1_method_29_code
def yX4_digest : MethodName := ⟨RX4, "digest", "()J"⟩
abbrev cX4_digestOfTimes : ByteArray := prog_1_method_30_code
def yX4_digestOfTimes : MethodName := ⟨RX4, "digestOfTimes", "(J)J"⟩
abbrev cX4_digestOfCircuit : ByteArray := prog_1_method_31_code
def yX4_digestOfCircuit : MethodName := ⟨RX4, "digestOfCircuit", "(J)J"⟩
abbrev cX4_digestOfWires : ByteArray := prog_1_method_32_code
def yX4_digestOfWires : MethodName := ⟨RX4, "digestOfWires", "(J)J"⟩
abbrev cX4_digestOfRun : ByteArray := prog_1_method_33_code
def yX4_digestOfRun : MethodName := ⟨RX4, "digestOfRun", "(J)J"⟩
abbrev cX4_addLine : ByteArray := prog_1_method_34_code
def yX4_addLine : MethodName := ⟨RX4, "addLine", "(IIIIII)I"⟩
abbrev cX4_isWire : ByteArray := prog_1_method_35_code
def yX4_isWire : MethodName := ⟨RX4, "isWire", "(I)Z"⟩
abbrev cX4_isWithin : ByteArray := prog_1_method_36_code
def yX4_isWithin : MethodName := ⟨RX4, "isWithin", "(II)Z"⟩
abbrev cX4_checkWire : ByteArray := prog_1_method_37_code
def yX4_checkWire : MethodName := ⟨RX4, "checkWire", "(I)V"⟩
abbrev cX4_checkDelay : ByteArray := prog_1_method_38_code
def yX4_checkDelay : MethodName := ⟨RX4, "checkDelay", "(I)V"⟩
abbrev cX4_checkRoom : ByteArray := prog_1_method_39_code
def yX4_checkRoom : MethodName := ⟨RX4, "checkRoom", "()V"⟩
abbrev cX4_checkLine : ByteArray := prog_1_method_40_code
def yX4_checkLine : MethodName := ⟨RX4, "checkLine", "(I)V"⟩
abbrev cX4_checkHasDelay : ByteArray := prog_1_method_41_code
def yX4_checkHasDelay : MethodName := ⟨RX4, "checkHasDelay", "(I)V"⟩
abbrev cX4_checkRunning : ByteArray := prog_1_method_42_code
def yX4_checkRunning : MethodName := ⟨RX4, "checkRunning", "()V"⟩
abbrev cX4_checkSetting : ByteArray := prog_1_method_43_code
def yX4_checkSetting : MethodName := ⟨RX4, "checkSetting", "(II)V"⟩
def RX5 : String := "FoundryNineModel"
def TX5 : u_T := fun k => match k with
  | 0 => ("FoundryNineModel", "thrown", "I", false)
  | 1 => ("FoundryNineModel", "lines", "I", false)
  | 2 => ("FoundryNineModel", "kind", "[I", true)
  | 3 => ("FoundryNineModel", "drives", "[I", true)
  | 4 => ("FoundryNineModel", "a", "[I", true)
  | 5 => ("FoundryNineModel", "b", "[I", true)
  | 6 => ("FoundryNineModel", "c", "[I", true)
  | 7 => ("FoundryNineModel", "delay", "[I", true)
  | 8 => ("FoundryNineModel", "setup", "[I", true)
  | 9 => ("FoundryNineModel", "hold", "[I", true)
  | 10 => ("FoundryNineModel", "its", "[I", false)
  | 11 => ("FoundryNineModel", "isRunning", "Z", false)
  | 12 => ("FoundryNineModel", "flaws", "I", false)
  | 13 => ("FoundryNineModel", "flaw", "[I", true)
  | 14 => ("FoundryNineModel", "arrival", "[I", true)
  | _ => ("FoundryNineModel", "isTold", "[Z", true)
def tyX5 : Nat → FieldType := fun k => match k with
  | 0 => .int
  | 1 => .int
  | 2 => .array .int
  | 3 => .array .int
  | 4 => .array .int
  | 5 => .array .int
  | 6 => .array .int
  | 7 => .array .int
  | 8 => .array .int
  | 9 => .array .int
  | 10 => .array .int
  | 11 => .boolean
  | 12 => .int
  | 13 => .array .int
  | 14 => .array .int
  | _ => .array .boolean
abbrev wsX50 : List Cond := u_ws RX5 TX5 16
theorem nmX5 : ∀ a, a < 16 → ∀ b, b < 16 → a ≠ b → (TX5 a).2.1 ≠ (TX5 b).2.1 := by decide +kernel
theorem tyX5_ok : ∀ k, k < 16 → parseFieldDescriptor (TX5 k).2.2.1 = some (tyX5 k) := by decide +kernel
abbrev cX5_init : ByteArray := prog_7_method_1_code
def yX5_init : MethodName := ⟨RX5, "<init>", "()V"⟩
abbrev cX5_thrown : ByteArray := prog_7_method_2_code
def yX5_thrown : MethodName := ⟨RX5, "thrown", "()I"⟩
abbrev cX5_no : ByteArray := prog_7_method_3_code
def yX5_no : MethodName := ⟨RX5, "no", "(I)I"⟩
abbrev cX5_ok : ByteArray := prog_7_method_4_code
def yX5_ok : MethodName := ⟨RX5, "ok", "(I)I"⟩
abbrev cX5_isIn : ByteArray := prog_7_method_5_code
def yX5_isIn : MethodName := ⟨RX5, "isIn", "(III)Z"⟩
abbrev cX5_isWire : ByteArray := prog_7_method_6_code
def yX5_isWire : MethodName := ⟨RX5, "isWire", "(I)Z"⟩
abbrev cX5_isLine : ByteArray := prog_7_method_7_code
def yX5_isLine : MethodName := ⟨RX5, "isLine", "(I)Z"⟩
abbrev cX5_clear : ByteArray := prog_7_method_8_code
def yX5_clear : MethodName := ⟨RX5, "clear", "()V"⟩
abbrev cX5_many : ByteArray := prog_7_method_9_code
def yX5_many : MethodName := ⟨RX5, "many", "(I)I"⟩
abbrev cX5_add : ByteArray := prog_7_method_10_code
def yX5_add : MethodName := ⟨RX5, "add", "(IIIIII)I"⟩
abbrev cX5_input : ByteArray := prog_7_method_11_code
def yX5_input : MethodName := ⟨RX5, "input", "(I)I"⟩
abbrev cX5_gate : ByteArray := prog_7_method_12_code
def yX5_gate : MethodName := ⟨RX5, "gate", "(IIIIII)I"⟩
abbrev cX5_register : ByteArray := prog_7_method_13_code
def yX5_register : MethodName := ⟨RX5, "register", "(IIIII)I"⟩
abbrev cX5_setWindow : ByteArray := prog_7_method_14_code
def yX5_setWindow : MethodName := ⟨RX5, "setWindow", "(III)I"⟩
abbrev cX5_setDelay : ByteArray := prog_7_method_15_code
def yX5_setDelay : MethodName := ⟨RX5, "setDelay", "(II)I"⟩
abbrev cX5_lines : ByteArray := prog_7_method_16_code
def yX5_lines : MethodName := ⟨RX5, "lines", "()I"⟩
abbrev cX5_uses : ByteArray := prog_7_method_17_code
def yX5_uses : MethodName := ⟨RX5, "uses", "(II)Z"⟩
abbrev cX5_driver : ByteArray := prog_7_method_18_code
def yX5_driver : MethodName := ⟨RX5, "driver", "(I)I"⟩
abbrev cX5_isGate : ByteArray := prog_7_method_19_code
def yX5_isGate : MethodName := ⟨RX5, "isGate", "(I)Z"⟩
abbrev cX5_isInRing : ByteArray := prog_7_method_20_code
def yX5_isInRing : MethodName := ⟨RX5, "isInRing", "(I)Z"⟩
abbrev cX5_usesAny : ByteArray := prog_7_method_21_code
def yX5_usesAny : MethodName := ⟨RX5, "usesAny", "(I[Z)Z"⟩
abbrev cX5_usersNow : ByteArray := prog_7_method_22_code
def yX5_usersNow : MethodName := ⟨RX5, "usersNow", "(I)I"⟩
abbrev cX5_note : ByteArray := prog_7_method_23_code
def yX5_note : MethodName := ⟨RX5, "note", "(II)V"⟩
abbrev cX5_noteFlaws : ByteArray := prog_7_method_24_code
def yX5_noteFlaws : MethodName := ⟨RX5, "noteFlaws", "()V"⟩
abbrev cX5_flaws : ByteArray := prog_7_method_25_code
def yX5_flaws : MethodName := ⟨RX5, "flaws", "()I"⟩
abbrev cX5_ofFlaw : ByteArray := prog_7_method_26_code
def yX5_ofFlaw : MethodName := ⟨RX5, "ofFlaw", "(II)I"⟩
abbrev cX5_tellArrivals : ByteArray := prog_7_method_27_code
def yX5_tellArrivals : MethodName := ⟨RX5, "tellArrivals", "()V"⟩
abbrev cX5_tellArrival : ByteArray := prog_7_method_28_code
def yX5_tellArrival : MethodName := ⟨RX5, "tellArrival", "(I)I"⟩
abbrev cX5_behind : ByteArray := prog_7_method_29_code
def yX5_behind : MethodName := ⟨RX5, "behind", "(II)I"⟩
abbrev cX5_arrival : ByteArray := prog_7_method_30_code
def yX5_arrival : MethodName := ⟨RX5, "arrival", "(I)I"⟩
abbrev cX5_longestNow : ByteArray := prog_7_method_31_code
def yX5_longestNow : MethodName := ⟨RX5, "longestNow", "()I"⟩
abbrev cX5_longest : ByteArray := prog_7_method_32_code
def yX5_longest : MethodName := ⟨RX5, "longest", "()I"⟩
abbrev cX5_wayNow : ByteArray := prog_7_method_33_code
def yX5_wayNow : MethodName := ⟨RX5, "wayNow", "(I)I"⟩
abbrev cX5_way : ByteArray := prog_7_method_34_code
def yX5_way : MethodName := ⟨RX5, "way", "(I)I"⟩
abbrev cX5_users : ByteArray := prog_7_method_35_code
def yX5_users : MethodName := ⟨RX5, "users", "(I)I"⟩
abbrev cX5_not : ByteArray := prog_7_method_36_code
def yX5_not : MethodName := ⟨RX5, "not", "(I)I"⟩
abbrev cX5_and : ByteArray := prog_7_method_37_code
def yX5_and : MethodName := ⟨RX5, "and", "(II)I"⟩
abbrev cX5_valueOf : ByteArray := prog_7_method_38_code
def yX5_valueOf : MethodName := ⟨RX5, "valueOf", "(I)I"⟩
abbrev cX5_reckon : ByteArray := prog_7_method_39_code
def yX5_reckon : MethodName := ⟨RX5, "reckon", "(I)I"⟩
abbrev cX5_change : ByteArray := prog_7_method_40_code
def yX5_change : MethodName := ⟨RX5, "change", "(II)V"⟩
abbrev cX5_pend : ByteArray := prog_7_method_41_code
def yX5_pend : MethodName := ⟨RX5, "pend", "(II)V"⟩
abbrev cX5_askGate : ByteArray := prog_7_method_42_code
def yX5_askGate : MethodName := ⟨RX5, "askGate", "(I)V"⟩
abbrev cX5_askRegister : ByteArray := prog_7_method_43_code
def yX5_askRegister : MethodName := ⟨RX5, "askRegister", "(III)V"⟩
abbrev cX5_noteHazard : ByteArray := prog_7_method_44_code
def yX5_noteHazard : MethodName := ⟨RX5, "noteHazard", "(II)V"⟩
abbrev cX5_nextLine : ByteArray := prog_7_method_45_code
def yX5_nextLine : MethodName := ⟨RX5, "nextLine", "()I"⟩
abbrev cX5_passTo : ByteArray := prog_7_method_46_code
def yX5_passTo : MethodName := ⟨RX5, "passTo", "(I)I"⟩
abbrev cX5_beginCounting : ByteArray := prog_7_method_47_code
def yX5_beginCounting : MethodName := ⟨RX5, "beginCounting", "()V"⟩
abbrev cX5_settleNow : ByteArray := prog_7_method_48_code
def yX5_settleNow : MethodName := ⟨RX5, "settleNow", "()I"⟩
abbrev cX5_pendingLines : ByteArray := prog_7_method_49_code
def yX5_pendingLines : MethodName := ⟨RX5, "pendingLines", "()I"⟩
abbrev cX5_start : ByteArray := prog_7_method_50_code
def yX5_start : MethodName := ⟨RX5, "start", "()I"⟩
abbrev cX5_isInput : ByteArray := prog_7_method_51_code
def yX5_isInput : MethodName := ⟨RX5, "isInput", "(I)Z"⟩
abbrev cX5_setNow : ByteArray := prog_7_method_52_code
def yX5_setNow : MethodName := ⟨RX5, "setNow", "(II)I"⟩
abbrev cX5_asked : ByteArray := prog_7_method_53_code
def yX5_asked : MethodName := ⟨RX5, "asked", "(III)I"⟩
abbrev cX5_set : ByteArray := prog_7_method_54_code
def yX5_set : MethodName := ⟨RX5, "set", "(II)I"⟩
abbrev cX5_pass : ByteArray := prog_7_method_55_code
def yX5_pass : MethodName := ⟨RX5, "pass", "(I)I"⟩
abbrev cX5_settle : ByteArray := prog_7_method_56_code
def yX5_settle : MethodName := ⟨RX5, "settle", "()I"⟩
abbrev cX5_isRunning : ByteArray := prog_7_method_57_code
def yX5_isRunning : MethodName := ⟨RX5, "isRunning", "()Z"⟩
abbrev cX5_toldNow : ByteArray := prog_7_method_58_code
def yX5_toldNow : MethodName := ⟨RX5, "toldNow", "(I)I"⟩
abbrev cX5_told : ByteArray := prog_7_method_59_code
def yX5_told : MethodName := ⟨RX5, "told", "(I)I"⟩
abbrev cX5_ofWire : ByteArray := prog_7_method_60_code
def yX5_ofWire : MethodName := ⟨RX5, "ofWire", "(II)I"⟩
abbrev cX5_pending : ByteArray := prog_7_method_61_code
def yX5_pending : MethodName := ⟨RX5, "pending", "(I)I"⟩
abbrev cX5_hazards : ByteArray := prog_7_method_62_code
def yX5_hazards : MethodName := ⟨RX5, "hazards", "()I"⟩
abbrev cX5_ofHazard : ByteArray := prog_7_method_63_code
def yX5_ofHazard : MethodName := ⟨RX5, "ofHazard", "(II)I"⟩
abbrev cX5_putBy : ByteArray := prog_7_method_64_code
def yX5_putBy : MethodName := ⟨RX5, "putBy", "()[I"⟩
abbrev cX5_wouldBe : ByteArray := prog_7_method_65_code
def yX5_wouldBe : MethodName := ⟨RX5, "wouldBe", "(III)I"⟩
abbrev cX5_hazardsWith : ByteArray := prog_7_method_66_code
def yX5_hazardsWith : MethodName := ⟨RX5, "hazardsWith", "(II)I"⟩
abbrev cX5_settlesNow : ByteArray := prog_7_method_67_code
def yX5_settlesNow : MethodName := ⟨RX5, "settlesNow", "()I"⟩
abbrev cX5_settlesIn : ByteArray := prog_7_method_68_code
def yX5_settlesIn : MethodName := ⟨RX5, "settlesIn", "()I"⟩
abbrev cX5_longestWith : ByteArray := prog_7_method_69_code
def yX5_longestWith : MethodName := ⟨RX5, "longestWith", "(II)I"⟩
abbrev cX5_meanArrival : ByteArray := prog_7_method_70_code
def yX5_meanArrival : MethodName := ⟨RX5, "meanArrival", "()D"⟩
abbrev cX5_digest : ByteArray := prog_7_method_71_code
def yX5_digest : MethodName := ⟨RX5, "digest", "()J"⟩
def RJx145de : String := "java/io/Serializable"
def TJx145de : u_T := fun k => match k with
  | _ => ("", "", "", false)
def tyJx145de : Nat → FieldType := fun k => match k with
  | _ => .int
def RJ6 : String := "java/lang/Integer"
def TJ6 : u_T := fun k => match k with
  | _ => ("", "", "", false)
def tyJ6 : Nat → FieldType := fun k => match k with
  | _ => .int
abbrev cJ6_bitCount_0f7a4 : ByteArray := prog_12_method_49_code
def yJ6_bitCount_0f7a4 : MethodName := ⟨RJ6, "bitCount", "(I)I"⟩
def RJ9 : String := "java/lang/Math"
def TJ9 : u_T := fun k => match k with
  | _ => ("", "", "", false)
def tyJ9 : Nat → FieldType := fun k => match k with
  | _ => .int
abbrev cJ9_max_7cf53 : ByteArray := prog_13_method_65_code
def yJ9_max_7cf53 : MethodName := ⟨RJ9, "max", "(II)I"⟩
abbrev cJ9_min_7cf53 : ByteArray := prog_13_method_69_code
def yJ9_min_7cf53 : MethodName := ⟨RJ9, "min", "(II)I"⟩
def RJ0 : String := "java/lang/String"
def TJ0 : u_T := fun k => match k with
  | _ => ("", "", "", false)
def tyJ0 : Nat → FieldType := fun k => match k with
  | _ => .int
def RJ10 : String := "java/lang/System"
def TJ10 : u_T := fun k => match k with
  | _ => ("", "", "", false)
def tyJ10 : Nat → FieldType := fun k => match k with
  | _ => .int
def RJ7 : String := "java/util/Arrays"
def TJ7 : u_T := fun k => match k with
  | _ => ("", "", "", false)
def tyJ7 : Nat → FieldType := fun k => match k with
  | _ => .int
abbrev cJ7_fill_53178 : ByteArray := prog_18_method_103_code
def yJ7_fill_53178 : MethodName := ⟨RJ7, "fill", "([II)V"⟩
def RL : String := "FoundryNineLaw"
abbrev cL_input : ByteArray := method_3_code
def yL_input : MethodName := ⟨RL, "input", "(LFoundryNine;I[J)I"⟩
abbrev cL_gate : ByteArray := method_4_code
def yL_gate : MethodName := ⟨RL, "gate", "(LFoundryNine;IIIIII[J)I"⟩
abbrev cL_register : ByteArray := method_5_code
def yL_register : MethodName := ⟨RL, "register", "(LFoundryNine;IIIII[J)I"⟩
abbrev cL_setWindow : ByteArray := method_6_code
def yL_setWindow : MethodName := ⟨RL, "setWindow", "(LFoundryNine;III[J)I"⟩
abbrev cL_setDelay : ByteArray := method_7_code
def yL_setDelay : MethodName := ⟨RL, "setDelay", "(LFoundryNine;II[J)I"⟩
abbrev cL_ofFlaw : ByteArray := method_8_code
def yL_ofFlaw : MethodName := ⟨RL, "ofFlaw", "(LFoundryNine;II[J)I"⟩
abbrev cL_arrival : ByteArray := method_9_code
def yL_arrival : MethodName := ⟨RL, "arrival", "(LFoundryNine;I[J)I"⟩
abbrev cL_users : ByteArray := method_10_code
def yL_users : MethodName := ⟨RL, "users", "(LFoundryNine;I[J)I"⟩
abbrev cL_start : ByteArray := method_11_code
def yL_start : MethodName := ⟨RL, "start", "(LFoundryNine;[J)I"⟩
abbrev cL_set : ByteArray := method_12_code
def yL_set : MethodName := ⟨RL, "set", "(LFoundryNine;II[J)I"⟩
abbrev cL_pass : ByteArray := method_13_code
def yL_pass : MethodName := ⟨RL, "pass", "(LFoundryNine;I[J)I"⟩
abbrev cL_settle : ByteArray := method_14_code
def yL_settle : MethodName := ⟨RL, "settle", "(LFoundryNine;[J)I"⟩
abbrev cL_told : ByteArray := method_15_code
def yL_told : MethodName := ⟨RL, "told", "(LFoundryNine;I[J)I"⟩
abbrev cL_ofWire : ByteArray := method_16_code
def yL_ofWire : MethodName := ⟨RL, "ofWire", "(LFoundryNine;II[J)I"⟩
abbrev cL_pending : ByteArray := method_17_code
def yL_pending : MethodName := ⟨RL, "pending", "(LFoundryNine;I[J)I"⟩
abbrev cL_ofHazard : ByteArray := method_18_code
def yL_ofHazard : MethodName := ⟨RL, "ofHazard", "(LFoundryNine;II[J)I"⟩
abbrev cL_wouldBe : ByteArray := method_19_code
def yL_wouldBe : MethodName := ⟨RL, "wouldBe", "(LFoundryNine;III[J)I"⟩
abbrev cL_hazardsWith : ByteArray := method_20_code
def yL_hazardsWith : MethodName := ⟨RL, "hazardsWith", "(LFoundryNine;II[J)I"⟩
abbrev cL_settlesIn : ByteArray := method_21_code
def yL_settlesIn : MethodName := ⟨RL, "settlesIn", "(LFoundryNine;[J)I"⟩
abbrev cL_longestWith : ByteArray := method_22_code
def yL_longestWith : MethodName := ⟨RL, "longestWith", "(LFoundryNine;II[J)I"⟩
abbrev cL_law : ByteArray := code
def yL_law : MethodName := ⟨RL, "law", "([I)Z"⟩
abbrev vwCl : List vw_C := [(RX0, TX0, 1), (RX1, TX1, 12), (RX2, TX2, 6), (RX3, TX3, 18), (RX4, TX4, 7), (RX5, TX5, 16)]
end
section
/-! AW: a layer of the verifier's own over the kit's rows. A heap of cells by small numbers (ids), a world of all of them at once, one judgement AW at a program point, one contract AM a method. Terms stay free of addresses. -/
abbrev Mt : Type := MethodName × ByteArray × Nat × Option FieldType × List (Nat × Nat × Nat × Nat)
abbrev Out : Type := Option Value ⊕ String
abbrev Ce : Type := (FieldType × vp_A) ⊕ (Nat × List Value)
abbrev Hp : Type := Nat → Ce
abbrev Po : Type := Out → Hp → Nat → Prop
abbrev Gz : Type := State → (Nat → Prop) → (Nat → Nat) → Prop
def aw_cv (ad : Nat → Nat) (v : Value) : Value := match v with
  | .ref i => .ref (ad i)
  | w => w
def aw_ok (k : Nat) (v : Value) : Prop := match v with
  | .ref i => i < k
  | _ => True
def aw_ce (cT : FieldType → ClassId) (ad : Nat → Nat) (c : Ce) : va_E := match c with
  | .inl x => .inl (cT x.1, x.2)
  | .inr o => .inr (o.1, o.2.map (aw_cv ad))
def aw_okc (k : Nat) (c : Ce) : Prop := match c with
  | .inl _ => True
  | .inr o => ∀ v ∈ o.2, aw_ok k v
def aw_ws (cT : FieldType → ClassId) (ad : Nat → Nat) (h : Hp) (k : Nat) : va_W := (List.range (k - 1)).map fun i => (ad (i + 1), aw_ce cT ad (h (i + 1)))
def aw_tys (cT : FieldType → ClassId) : List (ClassId × FieldType) := [(cT .int, .int), (cT .boolean, .boolean), (cT .long, .long)]
abbrev aw_cl : List vw_C := [(RX0, TX0, 1), (RX1, TX1, 12), (RX2, TX2, 6), (RX3, TX3, 18), (RX4, TX4, 7), (RX5, TX5, 16)]
def aw_Wo (D : va_G) (cT : FieldType → ClassId) (A : Nat → Prop) (ad : Nat → Nat) (h : Hp) (k : Nat) (H : Heap) (U : State) : Prop :=
  va_P D aw_cl (aw_ws cT ad h k) H ∧ va_D A (aw_ws cT ad h k) ∧ va_K D aw_cl (aw_tys cT) U ∧ 0 < k ∧ ∀ i, 0 < i → i < k → aw_okc k (h i)
def aw_nest (w : Cond) : Bool := match w with
  | .fieldLinkNest .. => true
  | .methodLinkNest .. => true
  | _ => false
def aw_okw (w : Cond) : Bool := goodWord w || aw_nest w || (w.onTables && w.faceAtom)
def aw_str : List (String × Nat × String) := lw_tbl.filterMap fun w => match w with
  | .stringRef o i t => some (o, i, t)
  | _ => none
def aw_exc : List String := ["java/lang/IllegalArgumentException", "java/lang/IllegalStateException", "java/lang/IndexOutOfBoundsException"]
def aw_GF (A : Nat → Prop) (U : State) : Prop :=
  (∀ w ∈ lw_tbl, aw_okw w = true → w.before #[] U = true) ∧ (∀ q ∈ aw_str, ∃ a, vk_R q.1 q.2.1 q.2.2 a U) ∧ (∀ x ∈ aw_exc, ∀ y ∈ aw_exc, x ≠ y → va_Nc x y U) ∧
  vx_Zq Bundle.tN "UNASSIGNED_STACK" Bundle.steD A U U.heap ∧ vx_Zq Bundle.tN "SUPPRESSED_SENTINEL" Bundle.listD A U U.heap
def aw_cw (μ : Mt) : Cond := match μ.2.2.2.2 with
  | [] => .code μ.1 μ.2.1 μ.2.2.1 μ.2.2.2.1
  | hh => .codeWith μ.1 μ.2.1 μ.2.2.1 μ.2.2.2.1 hh
def aw_Cx (Z : Gz) (μ : Mt) (l : Launch) (p : Program) (s : State) (m : MethodId) (args : Array Value) (meth : Method) (c : Code) (ad0 : Nat → Nat) (A : Nat → Prop) : Prop :=
  l.stackTraces = false ∧ p.tables.exec = Jvm.exec ∧ c.code = μ.2.1 ∧ c.maxLocals = μ.2.2.1 ∧ meth.sig.returnType = μ.2.2.2.1 ∧ meth.locks = false ∧ meth.name = μ.1.name ∧
  s.vm.findClass μ.1.cls = some m.cls ∧ c.exceptionTable.toList = tableOf μ.2.2.2.2 ∧ aw_GF A s ∧ (∀ q, s.heap.size ≤ q → A q) ∧ Z s A ad0
def aw_Lv (nL : Nat) (ad : Nat → Nat) (k : Nat) (ls : Array Slot) (L : List Value) : Prop :=
  ls.size = nL ∧ lv_wf ls ∧ ∀ (i : Nat) (v : Value), L[i]? = some v → v ≠ .null → ls[i]? = some (.val (aw_cv ad v)) ∧ aw_ok k v
def aw_Qc (D : va_G) (cT : FieldType → ClassId) (A : Nat → Prop) (ad0 : Nat → Nat) (k0 : Nat) (Q : Po) : Array Value → State → Outcome → State → Prop := fun _ st oc t =>
  (∃ (v : Option Value) (h' : Hp) (k' : Nat) (ad' : Nat → Nat), oc = .returned (v.map (aw_cv ad')) ∧ Q (.inl v) h' k' ∧ (∀ i, i < k0 → ad' i = ad0 i) ∧ k0 ≤ k' ∧ (∀ w, v = some w → aw_ok k' w) ∧ aw_Wo D cT A ad' h' k' t.heap t) ∧ va_F A st t
def aw_Xc (D : va_G) (cT : FieldType → ClassId) (A : Nat → Prop) (ad0 : Nat → Nat) (k0 : Nat) (Q : Po) : String → State → State → Prop := fun E st t =>
  (∃ (h' : Hp) (k' : Nat) (ad' : Nat → Nat), Q (.inr E) h' k' ∧ (∀ i, i < k0 → ad' i = ad0 i) ∧ k0 ≤ k' ∧ aw_Wo D cT A ad' h' k' t.heap t) ∧ va_F A st t
def aw_R (d mc ms : Nat) : Room := { frames := d + 20, cells := mc, slots := ms, locals := 41 * d + 852 }
/-- at pc of the method μ, with locals L, operands S, the heap h of the ids below k, cs cells of ss slots made so far: the method comes to an end with Q -/
def AW (Z : Gz) (μ : Mt) (d k0 mc ms : Nat) (Q : Po) (pc : Nat) (L S : List Value) (h : Hp) (k cs ss : Nat) : Prop :=
  ∀ (l : Launch) (D : va_G) (cT : FieldType → ClassId) (p : Program) (e : Env) (s : State) (m : MethodId) (args : Array Value) (below : List Frame) (meth : Method) (c : Code) (ad0 ad : Nat → Nat) (A : Nat → Prop) (H : Heap) (locs : List Loc) (ls : Array Slot),
    aw_Cx Z μ l p s m args meth c ad0 A → (∀ i, i < k0 → ad i = ad0 i) → k0 ≤ k → va_S A s.heap H locs → aw_Wo D cT A ad h k H s → aw_Lv μ.2.2.1 ad k ls L → (∀ v ∈ S, aw_ok k v) →
    W p l e (aw_R d mc ms) s m args below meth c H locs cs ss (vx_MQ below (aw_Qc D cT A ad0 k0 Q) (aw_Xc D cT A ad0 k0 Q) args s mc ms A) (F0 m pc ls (S.map (aw_cv ad)))
def aw_Z0 : Gz := fun _ _ _ => True
/-- the contract of the method μ at these arguments and this heap: it ends with Q, at most mc cells of ms slots are new -/
def AM (μ : Mt) (d : Nat) (as : List Value) (h : Hp) (k mc ms : Nat) (Q : Po) : Prop :=
  ∀ (l : Launch) (D : va_G) (cT : FieldType → ClassId) (ad : Nat → Nat) (sz : Nat), l.stackTraces = false →
    vx_Met l μ.1 [aw_cw μ] (aw_R d mc ms) (va_Pc (as.map (aw_cv ad)) (fun U => U.heap.size = sz ∧ (∀ v ∈ as, aw_ok k v) ∧ aw_Wo D cT (va_A (aw_ws cT ad h k) sz) ad h k U.heap U ∧ aw_GF (va_A (aw_ws cT ad h k) sz) U))
      (aw_Qc D cT (va_A (aw_ws cT ad h k) sz) ad k Q) (aw_Xc D cT (va_A (aw_ws cT ad h k) sz) ad k Q) mc ms (va_A (aw_ws cT ad h k) sz)
/-! words -/
theorem aw_stable {w : Cond} (hw : aw_okw w = true) {a a' : Array Value} {s U : State} (hW : s.WarmedH U.vm) (h : w.before a s = true) : w.before a' U = true := by
  simp only [aw_okw, Bool.or_eq_true, Bool.and_eq_true] at hw
  rcases hw with (hw | hw) | ⟨hw, hf⟩
  · exact word_at hW (good_of_word hw) h
  · cases w
    case fieldLinkNest => exact va_tabs rfl (rfl : (s.setVm U.vm).vm = U.vm) (Cond.fieldLinkNest_warmed (args := a) hW h)
    case methodLinkNest => exact va_tabs rfl (rfl : (s.setVm U.vm).vm = U.vm) (Cond.methodLinkNest_warmed (args := a) hW h)
    all_goals exact absurd hw (by simp [aw_nest])
  · exact va_tabs hw (rfl : (s.setVm U.vm).vm = U.vm) (Cond.faceAtom_setVm hW.alike w hf h)
theorem aw_GF.moved {A B : Nat → Prop} {s U : State} (h : aw_GF A s) (hW : s.WarmedH U.vm) (hq : ∀ a : Nat, a < s.heap.size → ¬ A a → U.heap[a]? = s.heap[a]?) (hAB : ∀ q, B q → A q) : aw_GF B U := by
  obtain ⟨h1, h2, h3, h4, h5⟩ := h
  exact ⟨fun w hw ho => aw_stable ho hW (h1 w hw ho), fun q hq => by obtain ⟨a, ha⟩ := h2 q hq; exact ⟨a, ha.warm hW⟩, fun x hx y hy hxy => (h3 x hx y hy hxy).moved hW.alike,
    vx_Zq.moved hW.alike ((h4.kept hq).narrow hAB), vx_Zq.moved hW.alike ((h5.kept hq).narrow hAB)⟩
/-! values and cells under another map of addresses -/
theorem aw_cv_congr {ad ad' : Nat → Nat} {k : Nat} {v : Value} (h : aw_ok k v) (e : ∀ i, i < k → ad' i = ad i) : aw_cv ad' v = aw_cv ad v := by
  cases v <;> first | rfl | (show Value.ref _ = Value.ref _; rw [e _ h])
theorem aw_ok_le {k k' : Nat} {v : Value} (h : aw_ok k v) (hk : k ≤ k') : aw_ok k' v := by
  cases v <;> first | trivial | exact Nat.lt_of_lt_of_le h hk
theorem aw_okc_le {k k' : Nat} {c : Ce} (h : aw_okc k c) (hk : k ≤ k') : aw_okc k' c := by
  rcases c with c | c
  · trivial
  · exact fun v hv => aw_ok_le (h v hv) hk
theorem aw_ce_congr {cT : FieldType → ClassId} {ad ad' : Nat → Nat} {k : Nat} {c : Ce} (h : aw_okc k c) (e : ∀ i, i < k → ad' i = ad i) : aw_ce cT ad' c = aw_ce cT ad c := by
  rcases c with c | c
  · rfl
  · show Sum.inr _ = Sum.inr _
    rw [List.map_congr_left fun v hv => aw_cv_congr (h v hv) e]
theorem aw_cat (ad : Nat → Nat) (v : Value) : (aw_cv ad v).category = v.category := by cases v <;> rfl
theorem aw_ws_len (cT : FieldType → ClassId) (ad : Nat → Nat) (h : Hp) (k : Nat) : (aw_ws cT ad h k).length = k - 1 := by simp [aw_ws]
theorem aw_ws_at (cT : FieldType → ClassId) (ad : Nat → Nat) (h : Hp) {k i : Nat} (h0 : 0 < i) (hi : i < k) : (aw_ws cT ad h k)[i - 1]? = some (ad i, aw_ce cT ad (h i)) := by
  have e : i - 1 + 1 = i := Nat.sub_add_cancel h0
  simp only [aw_ws, List.getElem?_map]
  rw [List.getElem?_range (by omega)]
  simp [e]
theorem aw_ws_out {cT : FieldType → ClassId} {ad : Nat → Nat} {h : Hp} {k j : Nat} {q : Nat × va_E} (hq : (aw_ws cT ad h k)[j]? = some q) : j + 1 < k ∧ q = (ad (j + 1), aw_ce cT ad (h (j + 1))) := by
  have hl : j < k - 1 := by
    have := (List.getElem?_eq_some_iff.mp hq).1
    rwa [aw_ws_len] at this
  have h2 := aw_ws_at cT ad h (k := k) (i := j + 1) (Nat.succ_pos j) (by omega)
  rw [Nat.add_sub_cancel, hq] at h2
  exact ⟨by omega, Option.some.inj h2⟩
theorem aw_ws_set (cT : FieldType → ClassId) (ad : Nat → Nat) (h : Hp) {k i : Nat} (h0 : 0 < i) (hi : i < k) (e : Ce) : (aw_ws cT ad h k).set (i - 1) (ad i, aw_ce cT ad e) = aw_ws cT ad (va_up h i e) k := by
  apply List.ext_getElem?
  intro j
  by_cases hj : j + 1 < k
  · have h2 := aw_ws_at cT ad (va_up h i e) (k := k) (i := j + 1) (Nat.succ_pos j) hj
    rw [Nat.add_sub_cancel] at h2
    rw [h2]
    by_cases hji : j + 1 = i
    · have e1 : i - 1 = j := by omega
      rw [e1, List.getElem?_set_self (by rw [aw_ws_len]; omega)]
      subst hji
      simp [va_up]
    · rw [List.getElem?_set_ne (by omega)]
      have h3 := aw_ws_at cT ad h (k := k) (i := j + 1) (Nat.succ_pos j) hj
      rw [Nat.add_sub_cancel] at h3
      rw [h3]
      simp [va_up, hji]
  · rw [List.getElem?_eq_none (by rw [List.length_set, aw_ws_len]; omega), List.getElem?_eq_none (by rw [aw_ws_len]; omega)]
theorem aw_ws_push (cT : FieldType → ClassId) (ad : Nat → Nat) (h : Hp) {k : Nat} (h0 : 0 < k) (hok : ∀ i, 0 < i → i < k → aw_okc k (h i)) (q : Nat) (e : Ce) (he : aw_okc k e) :
    aw_ws cT (va_up ad k q) (va_up h k e) (k + 1) = aw_ws cT ad h k ++ [(q, aw_ce cT ad e)] := by
  have hc : ∀ i, i < k → va_up ad k q i = ad i := fun i hi => by simp [va_up, Nat.ne_of_lt hi]
  apply List.ext_getElem?
  intro j
  by_cases hj : j + 1 < k
  · have h2 := aw_ws_at cT (va_up ad k q) (va_up h k e) (k := k + 1) (i := j + 1) (Nat.succ_pos j) (by omega)
    have h3 := aw_ws_at cT ad h (k := k) (i := j + 1) (Nat.succ_pos j) hj
    rw [Nat.add_sub_cancel] at h2 h3
    rw [h2, List.getElem?_append_left (by rw [aw_ws_len]; omega), h3, hc _ hj]
    have e1 : va_up h k e (j + 1) = h (j + 1) := by simp [va_up, Nat.ne_of_lt hj]
    rw [e1, aw_ce_congr (hok _ (Nat.succ_pos j) hj) hc]
  · by_cases hj2 : j + 1 = k
    · have h2 := aw_ws_at cT (va_up ad k q) (va_up h k e) (k := k + 1) (i := j + 1) (Nat.succ_pos j) (by omega)
      rw [Nat.add_sub_cancel] at h2
      rw [h2, List.getElem?_append_right (by rw [aw_ws_len]; omega), aw_ws_len]
      have e0 : j - (k - 1) = 0 := by omega
      rw [e0]
      subst hj2
      simp only [va_up, if_true, List.getElem?_cons_zero]
      rw [← aw_ce_congr he hc]
    · rw [List.getElem?_eq_none (by rw [aw_ws_len]; omega), List.getElem?_eq_none (by rw [List.length_append, aw_ws_len]; simp; omega)]
theorem aw_ws_kept {cT : FieldType → ClassId} {ad ad' : Nat → Nat} {h : Hp} {k : Nat} (hok : ∀ i, 0 < i → i < k → aw_okc k (h i)) (e : ∀ i, i < k → ad' i = ad i) : aw_ws cT ad' h k = aw_ws cT ad h k := by
  apply List.ext_getElem?
  intro j
  by_cases hj : j + 1 < k
  · have h2 := aw_ws_at cT ad' h (k := k) (i := j + 1) (Nat.succ_pos j) hj
    have h3 := aw_ws_at cT ad h (k := k) (i := j + 1) (Nat.succ_pos j) hj
    rw [Nat.add_sub_cancel] at h2 h3
    rw [h2, h3, e _ hj, aw_ce_congr (hok _ (Nat.succ_pos j) hj) e]
  · rw [List.getElem?_eq_none (by rw [aw_ws_len]; omega), List.getElem?_eq_none (by rw [aw_ws_len]; omega)]
/-! into a method's body, out of it -/
def aw_loc (vs : List Value) : List Value := match vs with
  | [] => []
  | v :: vs => if v.category = 2 then v :: .null :: aw_loc vs else v :: aw_loc vs
theorem aw_loc_in (ad : Nat → Nat) (n : Nat) : ∀ (vs : List Value) (b i : Nat) (v : Value), (aw_loc vs ++ List.replicate n .null)[i]? = some v → v ≠ .null → v ∈ vs ∧ (b + i, aw_cv ad v) ∈ lv_args b (vs.map (aw_cv ad))
  | [], b, i, v, h, hv => by
    rw [aw_loc, List.nil_append] at h
    have := List.mem_of_getElem? h
    exact absurd (List.eq_of_mem_replicate this) hv
  | w :: vs, b, i, v, h, hv => by
    have hc := aw_cat ad w
    by_cases h2 : w.category = 2
    · rw [aw_loc, if_pos h2] at h
      simp only [List.map_cons, lv_args, hc, if_pos h2]
      match i, h with
      | 0, h =>
        simp only [List.cons_append, List.getElem?_cons_zero, Option.some.injEq] at h
        subst h
        exact ⟨List.mem_cons_self, List.mem_cons_self⟩
      | 1, h =>
        simp only [List.cons_append, List.getElem?_cons_succ, List.getElem?_cons_zero, Option.some.injEq] at h
        exact absurd h.symm hv
      | i + 2, h =>
        simp only [List.cons_append, List.getElem?_cons_succ] at h
        obtain ⟨h3, h4⟩ := aw_loc_in ad n vs (b + 2) i v h hv
        exact ⟨List.mem_cons_of_mem _ h3, List.mem_cons_of_mem _ (by rw [show b + (i + 2) = b + 2 + i by omega]; exact h4)⟩
    · rw [aw_loc, if_neg h2] at h
      simp only [List.map_cons, lv_args, hc, if_neg h2]
      match i, h with
      | 0, h =>
        simp only [List.cons_append, List.getElem?_cons_zero, Option.some.injEq] at h
        subst h
        exact ⟨List.mem_cons_self, List.mem_cons_self⟩
      | i + 1, h =>
        simp only [List.cons_append, List.getElem?_cons_succ] at h
        obtain ⟨h3, h4⟩ := aw_loc_in ad n vs (b + 1) i v h hv
        exact ⟨List.mem_cons_of_mem _ h3, List.mem_cons_of_mem _ (by rw [show b + (i + 1) = b + 1 + i by omega]; exact h4)⟩
theorem aw_lg_len (ad : Nat → Nat) : ∀ vs : List Value, (lg_sl (vs.map (aw_cv ad))).length = (aw_loc vs).length
  | [] => rfl
  | w :: vs => by
    have hc := aw_cat ad w
    have ih := aw_lg_len ad vs
    by_cases h2 : w.category = 2 <;> simp [lg_sl, aw_loc, hc, h2] at ih ⊢ <;> omega
theorem aw_entry {ad : Nat → Nat} {k nL n : Nat} {as L : List Value} (hn : (aw_loc as).length + n = nL) (hL : aw_loc as ++ List.replicate n .null = L) (hok : ∀ v ∈ as, aw_ok k v) :
    aw_Lv nL ad k ((lg_sl (as.map (aw_cv ad)) ++ List.replicate (nL - (lg_sl (as.map (aw_cv ad))).length) Slot.unset).toArray) L := by
  have h := lv_entry (as.map (aw_cv ad)) (n := nL) (by rw [aw_lg_len]; omega)
  refine ⟨h.1, h.2.1, fun i v hi hv => ?_⟩
  rw [← hL] at hi
  obtain ⟨h3, h4⟩ := aw_loc_in ad n as 0 i v hi hv
  rw [Nat.zero_add] at h4
  exact ⟨h.2.2 _ h4, hok v h3⟩
theorem aw_self {D : va_G} {cT : FieldType → ClassId} {A : Nat → Prop} {ad : Nat → Nat} {h : Hp} {k : Nat} {H : Heap} {U : State} (w : aw_Wo D cT A ad h k H U) {sz : Nat} : aw_Wo D cT (va_A (aw_ws cT ad h k) sz) ad h k H U := ⟨w.1, w.2.1.self, w.2.2.1, w.2.2.2⟩
set_option maxHeartbeats 4000000 in
theorem AM.intro {μ : Mt} {d n : Nat} {as L : List Value} {h : Hp} {k mc ms : Nat} {Q : Po} (hy : plainName μ.1.cls = true) (hh : μ.2.2.2.2 = []) (hn : (aw_loc as).length + n = μ.2.2.1) (hL : aw_loc as ++ List.replicate n .null = L)
    (K : AW aw_Z0 μ d k mc ms Q 0 L [] h k 0 0) : AM μ d as h k mc ms Q := by
  intro l D cT ad sz hl
  have hcw : aw_cw μ = .code μ.1 μ.2.1 μ.2.2.1 μ.2.2.2.1 := by unfold aw_cw; rw [hh]
  refine vx_ofW (cc := μ.2.1) (maxL := μ.2.2.1) (ret := μ.2.2.2.1) (ws' := []) hy (by rw [hcw]) ?_
  intro p e s m args below meth c s₁ B hml ht hv
  obtain ⟨rfl, hsz, hok, hw, hg⟩ := hv
  subst hsz
  have hnm := (name_of_methodNamed B.named B.method).1
  rw [lg_entry_eq]
  refine K l D cT p e s m _ below meth c ad ad _ s.heap [] _ ⟨hl, B.exec, B.bytes, hml, B.returns, B.notSynchronized, hnm, findClass_of_methodNamed B.named, ?_, hg, fun q hq => Or.inr hq, trivial⟩ (fun _ _ => rfl) (Nat.le_refl _) va_S.rf hw (aw_entry hn hL hok) (fun v hv => nomatch hv)
  rw [hh]
  cases he : c.exceptionTable.toList with
  | nil => rfl
  | cons x y => exact absurd (ht x (by rw [he]; exact List.mem_cons_self)) id
section Rows
variable {Z : Gz} {μ : Mt} {d k0 mc ms : Nat} {Q : Po} {pc : Nat} {L S : List Value} {h : Hp} {k cs ss : Nat}
/-- a row that leaves heap and locals -/
theorem AW.pure {pc' : Nat} {S' : List Value} (hok : (∀ v ∈ S, aw_ok k v) → (∀ (i : Nat) (v : Value), L[i]? = some v → v ≠ .null → aw_ok k v) → ∀ v ∈ S', aw_ok k v)
    (hW : ∀ (l : Launch) (p : Program) (e : Env) (R : Room) (s : State) (m : MethodId) (args : Array Value) (below : List Frame) (meth : Method) (c : Code) (H : Heap) (locs : List Loc) (F : State → Prop) (ls : Array Slot) (ad : Nat → Nat),
      p.tables.exec = Jvm.exec → c.code = μ.2.1 → s.vm.findClass μ.1.cls = some m.cls → (∀ w ∈ lw_tbl, aw_okw w = true → w.before args s = true) → aw_Lv μ.2.2.1 ad k ls L →
      W p l e R s m args below meth c H locs cs ss F (F0 m pc' ls (S'.map (aw_cv ad))) → W p l e R s m args below meth c H locs cs ss F (F0 m pc ls (S.map (aw_cv ad))))
    (K : AW Z μ d k0 mc ms Q pc' L S' h k cs ss) : AW Z μ d k0 mc ms Q pc L S h k cs ss := by
  intro l D cT p e s m args below meth c ad0 ad A H locs ls hC ha hk hS hw hl hs
  refine hW l p e _ s m args below meth c H locs _ ls ad hC.2.1 hC.2.2.1 hC.2.2.2.2.2.2.2.1 (fun w h1 h2 => aw_stable h2 (State.WarmedH.refl s) (hC.2.2.2.2.2.2.2.2.2.1.1 w h1 h2)) hl ?_
  exact K l D cT p e s m args below meth c ad0 ad A H locs ls hC ha hk hS hw hl (hok hs fun i v h1 h2 => (hl.2.2 i v h1 h2).2)
theorem aw_ok_cons {v : Value} (h1 : aw_ok k v) (h2 : ∀ w ∈ S, aw_ok k w) : ∀ w ∈ v :: S, aw_ok k w := fun w hw => by
  rcases List.mem_cons.mp hw with rfl | hw
  · exact h1
  · exact h2 w hw
theorem aw_okI {v : Int32} : aw_ok k (.int v) := trivial
theorem aw_okJ {v : Int64} : aw_ok k (.long v) := trivial
theorem aw_okD {v : UInt64} : aw_ok k (.double v) := trivial
theorem aw_ok_tail {v : Value} (h : ∀ w ∈ v :: S, aw_ok k w) : ∀ w ∈ S, aw_ok k w := fun w hw => h w (List.mem_cons_of_mem _ hw)
theorem AW.iconst {n : Int} {v : Int32} (hd : decode μ.2.1 pc = .ok (.iconst n, 1)) (hv : Int32.ofInt n = v) (K : AW Z μ d k0 mc ms Q (pc + 1) L (.int v :: S) h k cs ss) : AW Z μ d k0 mc ms Q pc L S h k cs ss :=
  AW.pure (fun h _ => aw_ok_cons aw_okI h) (fun _ _ _ _ _ _ _ _ _ _ _ _ _ _ _ hx hb _ _ _ q => lv_iconst hx hb hd hv q) K
theorem AW.bipush {n : Int} {v : Int32} (hd : decode μ.2.1 pc = .ok (.bipush n, 2)) (hv : (Int8.ofInt n).toInt32 = v) (K : AW Z μ d k0 mc ms Q (pc + 2) L (.int v :: S) h k cs ss) : AW Z μ d k0 mc ms Q pc L S h k cs ss :=
  AW.pure (fun h _ => aw_ok_cons aw_okI h) (fun _ _ _ _ _ _ _ _ _ _ _ _ _ _ _ hx hb _ _ _ q => lv_bipush hx hb hd hv q) K
theorem AW.sipush {n : Int} {v : Int32} (hd : decode μ.2.1 pc = .ok (.sipush n, 3)) (hv : (Int16.ofInt n).toInt32 = v) (K : AW Z μ d k0 mc ms Q (pc + 3) L (.int v :: S) h k cs ss) : AW Z μ d k0 mc ms Q pc L S h k cs ss :=
  AW.pure (fun h _ => aw_ok_cons aw_okI h) (fun _ _ _ _ _ _ _ _ _ _ _ _ _ _ _ hx hb _ _ _ q => lv_sipush hx hb hd hv q) K
theorem AW.iload_n {x : Fin 4} {i : Nat} {v : Int32} (hd : decode μ.2.1 pc = .ok (.iload_n x, 1)) (hi : (x : Nat) = i) (hl : L[i]? = some (.int v)) (K : AW Z μ d k0 mc ms Q (pc + 1) L (.int v :: S) h k cs ss) : AW Z μ d k0 mc ms Q pc L S h k cs ss :=
  AW.pure (fun h _ => aw_ok_cons aw_okI h) (fun _ _ _ _ _ _ _ _ _ _ _ _ _ _ _ hx hb _ _ hL q => lv_iload_n hx hb hd hi (hL.2.2 _ _ hl (fun e => nomatch e)).1 q) K
theorem AW.iload {i : Nat} {v : Int32} (hd : decode μ.2.1 pc = .ok (.iload i, 2)) (hl : L[i]? = some (.int v)) (K : AW Z μ d k0 mc ms Q (pc + 2) L (.int v :: S) h k cs ss) : AW Z μ d k0 mc ms Q pc L S h k cs ss :=
  AW.pure (fun h _ => aw_ok_cons aw_okI h) (fun _ _ _ _ _ _ _ _ _ _ _ _ _ _ _ hx hb _ _ hL q => lv_iload hx hb hd (hL.2.2 _ _ hl (fun e => nomatch e)).1 q) K
theorem AW.lload_n {x : Fin 4} {i : Nat} {v : Int64} (hd : decode μ.2.1 pc = .ok (.lload_n x, 1)) (hi : (x : Nat) = i) (hl : L[i]? = some (.long v)) (K : AW Z μ d k0 mc ms Q (pc + 1) L (.long v :: S) h k cs ss) : AW Z μ d k0 mc ms Q pc L S h k cs ss :=
  AW.pure (fun h _ => aw_ok_cons aw_okJ h) (fun _ _ _ _ _ _ _ _ _ _ _ _ _ _ _ hx hb _ _ hL q => lv_lload_n hx hb hd hi (hL.2.2 _ _ hl (fun e => nomatch e)).1 q) K
theorem AW.dload {i : Nat} {v : UInt64} (hd : decode μ.2.1 pc = .ok (.dload i, 2)) (hl : L[i]? = some (.double v)) (K : AW Z μ d k0 mc ms Q (pc + 2) L (.double v :: S) h k cs ss) : AW Z μ d k0 mc ms Q pc L S h k cs ss :=
  AW.pure (fun h _ => aw_ok_cons aw_okD h) (fun _ _ _ _ _ _ _ _ _ _ _ _ _ _ _ hx hb _ _ hL q => lv_dload hx hb hd (hL.2.2 _ _ hl (fun e => nomatch e)).1 q) K
theorem AW.aload_n {x : Fin 4} {i : Nat} {v : Nat} (hd : decode μ.2.1 pc = .ok (.aload_n x, 1)) (hi : (x : Nat) = i) (hl : L[i]? = some (.ref v)) (K : AW Z μ d k0 mc ms Q (pc + 1) L (.ref v :: S) h k cs ss) : AW Z μ d k0 mc ms Q pc L S h k cs ss :=
  AW.pure (fun h hL => aw_ok_cons (hL _ _ hl (fun e => nomatch e)) h) (fun _ _ _ _ _ _ _ _ _ _ _ _ _ _ _ hx hb _ _ hL q => lv_aload_n hx hb hd hi (hL.2.2 _ _ hl (fun e => nomatch e)).1 q) K
theorem AW.aload {i : Nat} {v : Nat} (hd : decode μ.2.1 pc = .ok (.aload i, 2)) (hl : L[i]? = some (.ref v)) (K : AW Z μ d k0 mc ms Q (pc + 2) L (.ref v :: S) h k cs ss) : AW Z μ d k0 mc ms Q pc L S h k cs ss :=
  AW.pure (fun h hL => aw_ok_cons (hL _ _ hl (fun e => nomatch e)) h) (fun _ _ _ _ _ _ _ _ _ _ _ _ _ _ _ hx hb _ _ hL q => lv_aload hx hb hd (hL.2.2 _ _ hl (fun e => nomatch e)).1 q) K
theorem AW.iadd {x y : Int32} (hd : decode μ.2.1 pc = .ok (.iadd, 1)) (K : AW Z μ d k0 mc ms Q (pc + 1) L (.int (x + y) :: S) h k cs ss) : AW Z μ d k0 mc ms Q pc L (.int y :: .int x :: S) h k cs ss :=
  AW.pure (fun h _ => aw_ok_cons aw_okI (aw_ok_tail (aw_ok_tail h))) (fun _ _ _ _ _ _ _ _ _ _ _ _ _ _ _ hx hb _ _ _ q => lv_iadd hx hb hd q) K
theorem AW.isub {x y : Int32} (hd : decode μ.2.1 pc = .ok (.isub, 1)) (K : AW Z μ d k0 mc ms Q (pc + 1) L (.int (x - y) :: S) h k cs ss) : AW Z μ d k0 mc ms Q pc L (.int y :: .int x :: S) h k cs ss :=
  AW.pure (fun h _ => aw_ok_cons aw_okI (aw_ok_tail (aw_ok_tail h))) (fun _ _ _ _ _ _ _ _ _ _ _ _ _ _ _ hx hb _ _ _ q => lv_isub hx hb hd q) K
theorem AW.imul {x y : Int32} (hd : decode μ.2.1 pc = .ok (.imul, 1)) (K : AW Z μ d k0 mc ms Q (pc + 1) L (.int (x * y) :: S) h k cs ss) : AW Z μ d k0 mc ms Q pc L (.int y :: .int x :: S) h k cs ss :=
  AW.pure (fun h _ => aw_ok_cons aw_okI (aw_ok_tail (aw_ok_tail h))) (fun _ _ _ _ _ _ _ _ _ _ _ _ _ _ _ hx hb _ _ _ q => lv_imul hx hb hd q) K
theorem AW.iand {x y : Int32} (hd : decode μ.2.1 pc = .ok (.iand, 1)) (K : AW Z μ d k0 mc ms Q (pc + 1) L (.int (x &&& y) :: S) h k cs ss) : AW Z μ d k0 mc ms Q pc L (.int y :: .int x :: S) h k cs ss :=
  AW.pure (fun h _ => aw_ok_cons aw_okI (aw_ok_tail (aw_ok_tail h))) (fun _ _ _ _ _ _ _ _ _ _ _ _ _ _ _ hx hb _ _ _ q => lv_iand hx hb hd q) K
theorem AW.ior {x y : Int32} (hd : decode μ.2.1 pc = .ok (.ior, 1)) (K : AW Z μ d k0 mc ms Q (pc + 1) L (.int (x ||| y) :: S) h k cs ss) : AW Z μ d k0 mc ms Q pc L (.int y :: .int x :: S) h k cs ss :=
  AW.pure (fun h _ => aw_ok_cons aw_okI (aw_ok_tail (aw_ok_tail h))) (fun _ _ _ _ _ _ _ _ _ _ _ _ _ _ _ hx hb _ _ _ q => lv_ior hx hb hd q) K
theorem AW.ishl {x y : Int32} (hd : decode μ.2.1 pc = .ok (.ishl, 1)) (K : AW Z μ d k0 mc ms Q (pc + 1) L (.int (x <<< (y &&& 31)) :: S) h k cs ss) : AW Z μ d k0 mc ms Q pc L (.int y :: .int x :: S) h k cs ss :=
  AW.pure (fun h _ => aw_ok_cons aw_okI (aw_ok_tail (aw_ok_tail h))) (fun _ _ _ _ _ _ _ _ _ _ _ _ _ _ _ hx hb _ _ _ q => lv_ishl hx hb hd q) K
theorem AW.iushr {x y : Int32} (hd : decode μ.2.1 pc = .ok (.iushr, 1)) (K : AW Z μ d k0 mc ms Q (pc + 1) L (.int ((x.toUInt32 >>> (y.toUInt32 &&& Int32.toUInt32 31)).toInt32) :: S) h k cs ss) : AW Z μ d k0 mc ms Q pc L (.int y :: .int x :: S) h k cs ss :=
  AW.pure (fun h _ => aw_ok_cons aw_okI (aw_ok_tail (aw_ok_tail h))) (fun _ _ _ _ _ _ _ _ _ _ _ _ _ _ _ hx hb _ _ _ q => lv_iushr hx hb hd rfl q) K
theorem AW.ladd {x y : Int64} (hd : decode μ.2.1 pc = .ok (.ladd, 1)) (K : AW Z μ d k0 mc ms Q (pc + 1) L (.long (x + y) :: S) h k cs ss) : AW Z μ d k0 mc ms Q pc L (.long y :: .long x :: S) h k cs ss :=
  AW.pure (fun h _ => aw_ok_cons aw_okJ (aw_ok_tail (aw_ok_tail h))) (fun _ _ _ _ _ _ _ _ _ _ _ _ _ _ _ hx hb _ _ _ q => lv_ladd hx hb hd q) K
theorem AW.lmul {x y : Int64} (hd : decode μ.2.1 pc = .ok (.lmul, 1)) (K : AW Z μ d k0 mc ms Q (pc + 1) L (.long (x * y) :: S) h k cs ss) : AW Z μ d k0 mc ms Q pc L (.long y :: .long x :: S) h k cs ss :=
  AW.pure (fun h _ => aw_ok_cons aw_okJ (aw_ok_tail (aw_ok_tail h))) (fun _ _ _ _ _ _ _ _ _ _ _ _ _ _ _ hx hb _ _ _ q => lv_lmul hx hb hd q) K
theorem AW.i2l {x : Int32} (hd : decode μ.2.1 pc = .ok (.i2l, 1)) (K : AW Z μ d k0 mc ms Q (pc + 1) L (.long x.toInt64 :: S) h k cs ss) : AW Z μ d k0 mc ms Q pc L (.int x :: S) h k cs ss :=
  AW.pure (fun h _ => aw_ok_cons aw_okJ (aw_ok_tail h)) (fun _ _ _ _ _ _ _ _ _ _ _ _ _ _ _ hx hb _ _ _ q => lv_i2l hx hb hd rfl q) K
theorem AW.lcmp {x y : Int64} (hd : decode μ.2.1 pc = .ok (.lcmp, 1)) (K : AW Z μ d k0 mc ms Q (pc + 1) L (.int (lg_cmp x y) :: S) h k cs ss) : AW Z μ d k0 mc ms Q pc L (.long y :: .long x :: S) h k cs ss :=
  AW.pure (fun h _ => aw_ok_cons aw_okI (aw_ok_tail (aw_ok_tail h))) (fun _ _ _ _ _ _ _ _ _ _ _ _ _ _ _ hx hb _ _ _ q => W.lcmp hx hb hd q) K
theorem AW.dup {v : Value} (hd : decode μ.2.1 pc = .ok (.dup, 1)) (hc : v.category = 1) (K : AW Z μ d k0 mc ms Q (pc + 1) L (v :: v :: S) h k cs ss) : AW Z μ d k0 mc ms Q pc L (v :: S) h k cs ss :=
  AW.pure (fun h _ => aw_ok_cons (h v List.mem_cons_self) h) (fun _ _ _ _ _ _ _ _ _ _ _ _ _ _ ad hx hb _ _ _ q => lv_dup hx hb hd (by rw [aw_cat]; exact hc) q) K
theorem AW.pop {v : Value} (hd : decode μ.2.1 pc = .ok (.pop, 1)) (hc : v.category = 1) (K : AW Z μ d k0 mc ms Q (pc + 1) L S h k cs ss) : AW Z μ d k0 mc ms Q pc L (v :: S) h k cs ss :=
  AW.pure (fun h _ => aw_ok_tail h) (fun _ _ _ _ _ _ _ _ _ _ _ _ _ _ ad hx hb _ _ _ q => lv_pop hx hb hd (by rw [aw_cat]; exact hc) q) K
theorem AW.dup_x1 {v w : Value} (hd : decode μ.2.1 pc = .ok (.dup_x1, 1)) (hc : v.category = 1) (hc2 : w.category = 1) (K : AW Z μ d k0 mc ms Q (pc + 1) L (v :: w :: v :: S) h k cs ss) : AW Z μ d k0 mc ms Q pc L (v :: w :: S) h k cs ss :=
  AW.pure (fun h _ => aw_ok_cons (h v List.mem_cons_self) (aw_ok_cons (h w (List.mem_cons_of_mem _ List.mem_cons_self)) (aw_ok_cons (h v List.mem_cons_self) (aw_ok_tail (aw_ok_tail h))))) (fun _ _ _ _ _ _ _ _ _ _ _ _ _ _ ad hx hb _ _ _ q => lv_dup_x1 hx hb hd (by rw [aw_cat]; exact hc) (by rw [aw_cat]; exact hc2) q) K
theorem AW.dup_x2 {v w x : Value} (hd : decode μ.2.1 pc = .ok (.dup_x2, 1)) (hc : v.category = 1) (hc2 : w.category = 1) (hc3 : x.category = 1) (K : AW Z μ d k0 mc ms Q (pc + 1) L (v :: w :: x :: v :: S) h k cs ss) : AW Z μ d k0 mc ms Q pc L (v :: w :: x :: S) h k cs ss :=
  AW.pure (fun h _ => aw_ok_cons (h v List.mem_cons_self) (aw_ok_cons (h w (List.mem_cons_of_mem _ List.mem_cons_self)) (aw_ok_cons (h x (List.mem_cons_of_mem _ (List.mem_cons_of_mem _ List.mem_cons_self))) (aw_ok_cons (h v List.mem_cons_self) (aw_ok_tail (aw_ok_tail (aw_ok_tail h))))))) (fun _ _ _ _ _ _ _ _ _ _ _ _ _ _ ad hx hb _ _ _ q => lv_dup_x2 hx hb hd (by rw [aw_cat]; exact hc) (by rw [aw_cat]; exact hc2) (by rw [aw_cat]; exact hc3) q) K
theorem AW.dup2 {v w : Value} (hd : decode μ.2.1 pc = .ok (.dup2, 1)) (hc : v.category = 1) (hc2 : w.category = 1) (K : AW Z μ d k0 mc ms Q (pc + 1) L (v :: w :: v :: w :: S) h k cs ss) : AW Z μ d k0 mc ms Q pc L (v :: w :: S) h k cs ss :=
  AW.pure (fun h _ => aw_ok_cons (h v List.mem_cons_self) (aw_ok_cons (h w (List.mem_cons_of_mem _ List.mem_cons_self)) h)) (fun _ _ _ _ _ _ _ _ _ _ _ _ _ _ ad hx hb _ _ _ q => lv_dup2_11 hx hb hd (by rw [aw_cat]; exact hc) (by rw [aw_cat]; exact hc2) q) K
theorem AW.goto {off : Int} {tgt : Nat} (hd : decode μ.2.1 pc = .ok (.goto off, 3)) (ht : (pc : Int) + off = (tgt : Int)) (K : AW Z μ d k0 mc ms Q tgt L S h k cs ss) : AW Z μ d k0 mc ms Q pc L S h k cs ss :=
  AW.pure (fun h _ => h) (fun _ _ _ _ _ _ _ _ _ _ _ _ _ _ ad hx hb _ _ _ q => lv_goto hx hb hd ht q) K
end Rows
end
section
/-! AW: branches, switches, stores, heap, ends -/
section Rows2
variable {Z : Gz} {μ : Mt} {d k0 mc ms : Nat} {Q : Po} {pc : Nat} {L S : List Value} {h : Hp} {k cs ss : Nat}
theorem AW.if_eq {x : Int32} {off : Int} {tgt : Nat} (hd : decode μ.2.1 pc = .ok (.ifCond .eq off, 3)) (ht : (pc : Int) + off = (tgt : Int)) (kt : x = 0 → AW Z μ d k0 mc ms Q tgt L S h k cs ss) (kf : ¬ x = 0 → AW Z μ d k0 mc ms Q (pc + 3) L S h k cs ss) : AW Z μ d k0 mc ms Q pc L (.int x :: S) h k cs ss := by
  intro l D cT p e s m args below meth c ad0 ad A H locs ls hC ha hk hS hw hl hs
  exact lv_if_eq hC.2.1 hC.2.2.1 hd ht (fun q => kt q l D cT p e s m args below meth c ad0 ad A H locs ls hC ha hk hS hw hl (aw_ok_tail hs)) (fun q => kf q l D cT p e s m args below meth c ad0 ad A H locs ls hC ha hk hS hw hl (aw_ok_tail hs))
theorem AW.icmp_eq {x y : Int32} {off : Int} {tgt : Nat} (hd : decode μ.2.1 pc = .ok (.if_icmp .eq off, 3)) (ht : (pc : Int) + off = (tgt : Int)) (kt : x = y → AW Z μ d k0 mc ms Q tgt L S h k cs ss) (kf : ¬ x = y → AW Z μ d k0 mc ms Q (pc + 3) L S h k cs ss) : AW Z μ d k0 mc ms Q pc L (.int y :: .int x :: S) h k cs ss := by
  intro l D cT p e s m args below meth c ad0 ad A H locs ls hC ha hk hS hw hl hs
  exact lv_icmp_eq hC.2.1 hC.2.2.1 hd ht (fun q => kt q l D cT p e s m args below meth c ad0 ad A H locs ls hC ha hk hS hw hl (aw_ok_tail (aw_ok_tail hs))) (fun q => kf q l D cT p e s m args below meth c ad0 ad A H locs ls hC ha hk hS hw hl (aw_ok_tail (aw_ok_tail hs)))
theorem AW.if_ne {x : Int32} {off : Int} {tgt : Nat} (hd : decode μ.2.1 pc = .ok (.ifCond .ne off, 3)) (ht : (pc : Int) + off = (tgt : Int)) (kt : ¬ x = 0 → AW Z μ d k0 mc ms Q tgt L S h k cs ss) (kf : x = 0 → AW Z μ d k0 mc ms Q (pc + 3) L S h k cs ss) : AW Z μ d k0 mc ms Q pc L (.int x :: S) h k cs ss := by
  intro l D cT p e s m args below meth c ad0 ad A H locs ls hC ha hk hS hw hl hs
  exact lv_if_ne hC.2.1 hC.2.2.1 hd ht (fun q => kt q l D cT p e s m args below meth c ad0 ad A H locs ls hC ha hk hS hw hl (aw_ok_tail hs)) (fun q => kf q l D cT p e s m args below meth c ad0 ad A H locs ls hC ha hk hS hw hl (aw_ok_tail hs))
theorem AW.icmp_ne {x y : Int32} {off : Int} {tgt : Nat} (hd : decode μ.2.1 pc = .ok (.if_icmp .ne off, 3)) (ht : (pc : Int) + off = (tgt : Int)) (kt : ¬ x = y → AW Z μ d k0 mc ms Q tgt L S h k cs ss) (kf : x = y → AW Z μ d k0 mc ms Q (pc + 3) L S h k cs ss) : AW Z μ d k0 mc ms Q pc L (.int y :: .int x :: S) h k cs ss := by
  intro l D cT p e s m args below meth c ad0 ad A H locs ls hC ha hk hS hw hl hs
  exact lv_icmp_ne hC.2.1 hC.2.2.1 hd ht (fun q => kt q l D cT p e s m args below meth c ad0 ad A H locs ls hC ha hk hS hw hl (aw_ok_tail (aw_ok_tail hs))) (fun q => kf q l D cT p e s m args below meth c ad0 ad A H locs ls hC ha hk hS hw hl (aw_ok_tail (aw_ok_tail hs)))
theorem AW.if_lt {x : Int32} {off : Int} {tgt : Nat} (hd : decode μ.2.1 pc = .ok (.ifCond .lt off, 3)) (ht : (pc : Int) + off = (tgt : Int)) (kt : x < 0 → AW Z μ d k0 mc ms Q tgt L S h k cs ss) (kf : ¬ x < 0 → AW Z μ d k0 mc ms Q (pc + 3) L S h k cs ss) : AW Z μ d k0 mc ms Q pc L (.int x :: S) h k cs ss := by
  intro l D cT p e s m args below meth c ad0 ad A H locs ls hC ha hk hS hw hl hs
  exact lv_if_lt hC.2.1 hC.2.2.1 hd ht (fun q => kt q l D cT p e s m args below meth c ad0 ad A H locs ls hC ha hk hS hw hl (aw_ok_tail hs)) (fun q => kf q l D cT p e s m args below meth c ad0 ad A H locs ls hC ha hk hS hw hl (aw_ok_tail hs))
theorem AW.icmp_lt {x y : Int32} {off : Int} {tgt : Nat} (hd : decode μ.2.1 pc = .ok (.if_icmp .lt off, 3)) (ht : (pc : Int) + off = (tgt : Int)) (kt : x < y → AW Z μ d k0 mc ms Q tgt L S h k cs ss) (kf : ¬ x < y → AW Z μ d k0 mc ms Q (pc + 3) L S h k cs ss) : AW Z μ d k0 mc ms Q pc L (.int y :: .int x :: S) h k cs ss := by
  intro l D cT p e s m args below meth c ad0 ad A H locs ls hC ha hk hS hw hl hs
  exact lv_icmp_lt hC.2.1 hC.2.2.1 hd ht (fun q => kt q l D cT p e s m args below meth c ad0 ad A H locs ls hC ha hk hS hw hl (aw_ok_tail (aw_ok_tail hs))) (fun q => kf q l D cT p e s m args below meth c ad0 ad A H locs ls hC ha hk hS hw hl (aw_ok_tail (aw_ok_tail hs)))
theorem AW.if_ge {x : Int32} {off : Int} {tgt : Nat} (hd : decode μ.2.1 pc = .ok (.ifCond .ge off, 3)) (ht : (pc : Int) + off = (tgt : Int)) (kt : 0 ≤ x → AW Z μ d k0 mc ms Q tgt L S h k cs ss) (kf : ¬ 0 ≤ x → AW Z μ d k0 mc ms Q (pc + 3) L S h k cs ss) : AW Z μ d k0 mc ms Q pc L (.int x :: S) h k cs ss := by
  intro l D cT p e s m args below meth c ad0 ad A H locs ls hC ha hk hS hw hl hs
  exact lv_if_ge hC.2.1 hC.2.2.1 hd ht (fun q => kt q l D cT p e s m args below meth c ad0 ad A H locs ls hC ha hk hS hw hl (aw_ok_tail hs)) (fun q => kf q l D cT p e s m args below meth c ad0 ad A H locs ls hC ha hk hS hw hl (aw_ok_tail hs))
theorem AW.icmp_ge {x y : Int32} {off : Int} {tgt : Nat} (hd : decode μ.2.1 pc = .ok (.if_icmp .ge off, 3)) (ht : (pc : Int) + off = (tgt : Int)) (kt : y ≤ x → AW Z μ d k0 mc ms Q tgt L S h k cs ss) (kf : ¬ y ≤ x → AW Z μ d k0 mc ms Q (pc + 3) L S h k cs ss) : AW Z μ d k0 mc ms Q pc L (.int y :: .int x :: S) h k cs ss := by
  intro l D cT p e s m args below meth c ad0 ad A H locs ls hC ha hk hS hw hl hs
  exact lv_icmp_ge hC.2.1 hC.2.2.1 hd ht (fun q => kt q l D cT p e s m args below meth c ad0 ad A H locs ls hC ha hk hS hw hl (aw_ok_tail (aw_ok_tail hs))) (fun q => kf q l D cT p e s m args below meth c ad0 ad A H locs ls hC ha hk hS hw hl (aw_ok_tail (aw_ok_tail hs)))
theorem AW.if_gt {x : Int32} {off : Int} {tgt : Nat} (hd : decode μ.2.1 pc = .ok (.ifCond .gt off, 3)) (ht : (pc : Int) + off = (tgt : Int)) (kt : 0 < x → AW Z μ d k0 mc ms Q tgt L S h k cs ss) (kf : ¬ 0 < x → AW Z μ d k0 mc ms Q (pc + 3) L S h k cs ss) : AW Z μ d k0 mc ms Q pc L (.int x :: S) h k cs ss := by
  intro l D cT p e s m args below meth c ad0 ad A H locs ls hC ha hk hS hw hl hs
  exact lv_if_gt hC.2.1 hC.2.2.1 hd ht (fun q => kt q l D cT p e s m args below meth c ad0 ad A H locs ls hC ha hk hS hw hl (aw_ok_tail hs)) (fun q => kf q l D cT p e s m args below meth c ad0 ad A H locs ls hC ha hk hS hw hl (aw_ok_tail hs))
theorem AW.icmp_gt {x y : Int32} {off : Int} {tgt : Nat} (hd : decode μ.2.1 pc = .ok (.if_icmp .gt off, 3)) (ht : (pc : Int) + off = (tgt : Int)) (kt : y < x → AW Z μ d k0 mc ms Q tgt L S h k cs ss) (kf : ¬ y < x → AW Z μ d k0 mc ms Q (pc + 3) L S h k cs ss) : AW Z μ d k0 mc ms Q pc L (.int y :: .int x :: S) h k cs ss := by
  intro l D cT p e s m args below meth c ad0 ad A H locs ls hC ha hk hS hw hl hs
  exact lv_icmp_gt hC.2.1 hC.2.2.1 hd ht (fun q => kt q l D cT p e s m args below meth c ad0 ad A H locs ls hC ha hk hS hw hl (aw_ok_tail (aw_ok_tail hs))) (fun q => kf q l D cT p e s m args below meth c ad0 ad A H locs ls hC ha hk hS hw hl (aw_ok_tail (aw_ok_tail hs)))
theorem AW.if_le {x : Int32} {off : Int} {tgt : Nat} (hd : decode μ.2.1 pc = .ok (.ifCond .le off, 3)) (ht : (pc : Int) + off = (tgt : Int)) (kt : x ≤ 0 → AW Z μ d k0 mc ms Q tgt L S h k cs ss) (kf : ¬ x ≤ 0 → AW Z μ d k0 mc ms Q (pc + 3) L S h k cs ss) : AW Z μ d k0 mc ms Q pc L (.int x :: S) h k cs ss := by
  intro l D cT p e s m args below meth c ad0 ad A H locs ls hC ha hk hS hw hl hs
  exact lv_if_le hC.2.1 hC.2.2.1 hd ht (fun q => kt q l D cT p e s m args below meth c ad0 ad A H locs ls hC ha hk hS hw hl (aw_ok_tail hs)) (fun q => kf q l D cT p e s m args below meth c ad0 ad A H locs ls hC ha hk hS hw hl (aw_ok_tail hs))
theorem AW.icmp_le {x y : Int32} {off : Int} {tgt : Nat} (hd : decode μ.2.1 pc = .ok (.if_icmp .le off, 3)) (ht : (pc : Int) + off = (tgt : Int)) (kt : x ≤ y → AW Z μ d k0 mc ms Q tgt L S h k cs ss) (kf : ¬ x ≤ y → AW Z μ d k0 mc ms Q (pc + 3) L S h k cs ss) : AW Z μ d k0 mc ms Q pc L (.int y :: .int x :: S) h k cs ss := by
  intro l D cT p e s m args below meth c ad0 ad A H locs ls hC ha hk hS hw hl hs
  exact lv_icmp_le hC.2.1 hC.2.2.1 hd ht (fun q => kt q l D cT p e s m args below meth c ad0 ad A H locs ls hC ha hk hS hw hl (aw_ok_tail (aw_ok_tail hs))) (fun q => kf q l D cT p e s m args below meth c ad0 ad A H locs ls hC ha hk hS hw hl (aw_ok_tail (aw_ok_tail hs)))
theorem AW.tableIn {dflt lo hi : Int} {offs : Array Int} {len : Nat} {x : Int32} {off : Int} {tgt : Nat} (hd : decode μ.2.1 pc = .ok (.tableswitch dflt lo hi offs, len)) (h1 : ¬ x.toInt < lo) (h2 : ¬ hi < x.toInt) (ho : offs[(x.toInt - lo).toNat]? = some off) (ht : (pc : Int) + off = (tgt : Int)) (K : AW Z μ d k0 mc ms Q tgt L S h k cs ss) : AW Z μ d k0 mc ms Q pc L (.int x :: S) h k cs ss :=
  AW.pure (fun h _ => aw_ok_tail h) (fun _ _ _ _ _ _ _ _ _ _ _ _ _ _ ad hx hb _ _ _ q => lv_tableIn hx hb hd h1 h2 ho ht q) K
theorem AW.tableOut {dflt lo hi : Int} {offs : Array Int} {len : Nat} {x : Int32} {tgt : Nat} (hd : decode μ.2.1 pc = .ok (.tableswitch dflt lo hi offs, len)) (h1 : x.toInt < lo ∨ hi < x.toInt) (ht : (pc : Int) + dflt = (tgt : Int)) (K : AW Z μ d k0 mc ms Q tgt L S h k cs ss) : AW Z μ d k0 mc ms Q pc L (.int x :: S) h k cs ss :=
  AW.pure (fun h _ => aw_ok_tail h) (fun _ _ _ _ _ _ _ _ _ _ _ _ _ _ ad hx hb _ _ _ q => lv_tableOut hx hb hd h1 ht q) K
theorem AW.ldc {index : Nat} {v : Int32} (hd : decode μ.2.1 pc = .ok (.ldc index, 2)) (hc : Cond.constant μ.1.cls index v ∈ lw_tbl) (K : AW Z μ d k0 mc ms Q (pc + 2) L (.int v :: S) h k cs ss) : AW Z μ d k0 mc ms Q pc L S h k cs ss :=
  AW.pure (fun h _ => aw_ok_cons aw_okI h) (fun _ _ _ _ _ _ _ _ _ _ _ _ _ _ ad hx hb ho ht _ q => lv_ldc hx hb ho (ht _ hc rfl) hd q) K
theorem AW.ldc2 {index : Nat} {v : Int64} (hd : decode μ.2.1 pc = .ok (.ldc2_w index, 3)) (hc : Cond.constantLong μ.1.cls index v ∈ lw_tbl) (K : AW Z μ d k0 mc ms Q (pc + 3) L (.long v :: S) h k cs ss) : AW Z μ d k0 mc ms Q pc L S h k cs ss :=
  AW.pure (fun h _ => aw_ok_cons aw_okJ h) (fun _ _ _ _ _ _ _ _ _ _ _ _ _ _ ad hx hb ho ht _ q => lv_ldc2 hx hb ho (ht _ hc rfl) hd q) K
theorem AW.i2d {x : Int32} (hd : decode μ.2.1 pc = .ok (.i2d, 1)) (K : AW Z μ d k0 mc ms Q (pc + 1) L (.double (FP.i2d x) :: S) h k cs ss) : AW Z μ d k0 mc ms Q pc L (.int x :: S) h k cs ss :=
  AW.pure (fun h _ => aw_ok_cons aw_okD (aw_ok_tail h)) (fun _ _ _ _ _ _ _ _ _ _ _ _ _ _ _ hx hb _ _ _ q => lv_i2d hx hb hd q) K
theorem AW.ddiv {x y : UInt64} (hd : decode μ.2.1 pc = .ok (.ddiv, 1)) (hn : vf_n64 (FP.ddiv x y)) (K : AW Z μ d k0 mc ms Q (pc + 1) L (.double (FP.ddiv x y) :: S) h k cs ss) : AW Z μ d k0 mc ms Q pc L (.double y :: .double x :: S) h k cs ss :=
  AW.pure (fun h _ => aw_ok_cons aw_okD (aw_ok_tail (aw_ok_tail h))) (fun _ _ _ _ _ _ _ _ _ _ _ _ _ _ _ hx hb _ _ _ q => lv_ddiv hx hb hd hn q) K
theorem AW.dconst0 (hd : decode μ.2.1 pc = .ok (.dconst 0, 1)) (K : AW Z μ d k0 mc ms Q (pc + 1) L (.double FP.dconst0 :: S) h k cs ss) : AW Z μ d k0 mc ms Q pc L S h k cs ss :=
  AW.pure (fun h _ => aw_ok_cons aw_okD h) (fun _ _ _ _ _ _ _ _ _ _ _ _ _ _ _ hx hb _ _ _ q => lv_dconst0 hx hb hd q) K
theorem AW.dcmp {x y : UInt64} {op : CmpOp} (hd : decode μ.2.1 pc = .ok (.dcmp op, 1)) (K : AW Z μ d k0 mc ms Q (pc + 1) L (.int (Op.cmpValue (FP.dcmp x y) op) :: S) h k cs ss) : AW Z μ d k0 mc ms Q pc L (.double y :: .double x :: S) h k cs ss :=
  AW.pure (fun h _ => aw_ok_cons aw_okI (aw_ok_tail (aw_ok_tail h))) (fun _ _ _ _ _ _ _ _ _ _ _ _ _ _ _ hx hb _ _ _ q => lv_dcmp hx hb hd q) K
/-! stores into the locals -/
def aw_set (L : List Value) (i : Nat) (v : Value) : List Value := L.set i v
/-- no long or double begins right below i -/
def aw_low (L : List Value) (i : Nat) : Bool := match i with
  | 0 => true
  | j + 1 => match L[j]? with
    | some w => w.category == 1
    | none => true
def aw_pairs (ad : Nat → Nat) (L : List Value) : List (Nat × Value) := (List.range L.length).filterMap fun i => match (L[i]? : Option Value) with
  | some Value.null => none
  | some v => some (i, aw_cv ad v)
  | none => none
theorem aw_pairs_in {ad : Nat → Nat} {L : List Value} {i : Nat} {v : Value} (hi : L[i]? = some v) (hv : v ≠ .null) : (i, aw_cv ad v) ∈ aw_pairs ad L := by
  refine List.mem_filterMap.mpr ⟨i, List.mem_range.mpr (List.getElem?_eq_some_iff.mp hi).1, ?_⟩
  rw [hi]
  cases v <;> first | exact absurd rfl hv | rfl
theorem aw_Lv.has {nL : Nat} {ad : Nat → Nat} {k : Nat} {ls : Array Slot} {L : List Value} (h : aw_Lv nL ad k ls L) : lv_has ls nL (aw_pairs ad L) := by
  refine ⟨h.1, h.2.1, fun q hq => ?_⟩
  obtain ⟨i, -, hi⟩ := List.mem_filterMap.mp hq
  cases hL : L[i]? with
  | none => rw [hL] at hi; cases hi
  | some v =>
    rw [hL] at hi
    have hv : v ≠ .null := by intro e; rw [e] at hi; cases hi
    have he : q = (i, aw_cv ad v) := by cases v <;> first | exact absurd rfl hv | exact (Option.some.inj hi).symm
    rw [he]
    exact (h.2.2 i v hL hv).1
theorem aw_store1 {nL : Nat} {ad : Nat → Nat} {k : Nat} {ls ls' : Array Slot} {L L' : List Value} {i : Nat} {v : Value} (h : aw_Lv nL ad k ls L) (hok : aw_ok k v) (hlow : aw_low L i = true) (hL : L.set i v = L')
    (h' : lv_has ls' nL ((i, aw_cv ad v) :: (aw_pairs ad L).filter (fun q => !(q.1 == i) && !(q.1 + 1 == i && q.2.category == 2)))) : aw_Lv nL ad k ls' L' := by
  subst hL
  refine ⟨h'.1, h'.2.1, fun j w hj hw => ?_⟩
  by_cases hji : j = i
  · subst hji
    rw [List.getElem?_set_self (by
      have := (List.getElem?_eq_some_iff.mp hj).1
      rwa [List.length_set] at this)] at hj
    cases hj
    exact ⟨h'.2.2 _ List.mem_cons_self, hok⟩
  · rw [List.getElem?_set_ne (Ne.symm hji)] at hj
    refine ⟨h'.2.2 (j, aw_cv ad w) (List.mem_cons_of_mem _ (List.mem_filter.mpr ⟨aw_pairs_in hj hw, ?_⟩)), (h.2.2 j w hj hw).2⟩
    have e1 : (j == i) = false := by simp [hji]
    have e2 : (j + 1 == i && (aw_cv ad w).category == 2) = false := by
      by_cases e : j + 1 = i
      · subst e
        simp only [aw_low, hj] at hlow
        rw [aw_cat]
        have : w.category = 1 := by simpa using hlow
        simp [this]
      · simp [e]
    simp [e1, e2]
theorem aw_store2 {nL : Nat} {ad : Nat → Nat} {k : Nat} {ls ls' : Array Slot} {L L' : List Value} {i : Nat} {v : Value} (h : aw_Lv nL ad k ls L) (hok : aw_ok k v) (hlow : aw_low L i = true) (hL : (L.set i v).set (i + 1) .null = L')
    (h' : lv_has ls' nL ((i, aw_cv ad v) :: (aw_pairs ad L).filter (fun q => !(q.1 == i) && (!(q.1 == i + 1) && !(q.1 + 1 == i && q.2.category == 2))))) : aw_Lv nL ad k ls' L' := by
  subst hL
  refine ⟨h'.1, h'.2.1, fun j w hj hw => ?_⟩
  by_cases hj2 : j = i + 1
  · subst hj2
    rw [List.getElem?_set_self (by
      have := (List.getElem?_eq_some_iff.mp hj).1
      rwa [List.length_set] at this)] at hj
    cases hj
    exact absurd rfl hw
  · rw [List.getElem?_set_ne (Ne.symm hj2)] at hj
    by_cases hji : j = i
    · subst hji
      rw [List.getElem?_set_self (by
        have := (List.getElem?_eq_some_iff.mp hj).1
        rwa [List.length_set] at this)] at hj
      cases hj
      exact ⟨h'.2.2 _ List.mem_cons_self, hok⟩
    · rw [List.getElem?_set_ne (Ne.symm hji)] at hj
      refine ⟨h'.2.2 (j, aw_cv ad w) (List.mem_cons_of_mem _ (List.mem_filter.mpr ⟨aw_pairs_in hj hw, ?_⟩)), (h.2.2 j w hj hw).2⟩
      have e1 : (j == i) = false := by simp [hji]
      have e3 : (j == i + 1) = false := by simp [hj2]
      have e2 : (j + 1 == i && (aw_cv ad w).category == 2) = false := by
        by_cases e : j + 1 = i
        · subst e
          simp only [aw_low, hj] at hlow
          rw [aw_cat]
          have : w.category = 1 := by simpa using hlow
          simp [this]
        · simp [e]
      simp [e1, e2, e3]

theorem AW.istore_n {x : Fin 4} {i : Nat} {v : Int32} {L' : List Value} (hd : decode μ.2.1 pc = .ok (.istore_n x, 1)) (hi : (x : Nat) = i) (hn : i < μ.2.2.1) (hlow : aw_low L i = true) (hL : L.set i (.int v) = L') (K : AW Z μ d k0 mc ms Q (pc + 1) L' S h k cs ss) : AW Z μ d k0 mc ms Q pc L (.int v :: S) h k cs ss := by
  intro l D cT p e s m args below meth c ad0 ad A H locs ls hC ha hk hS hw hl hs
  refine lv_istore_n (nL := μ.2.2.1) (lv := aw_pairs ad L) hC.2.1 hC.2.2.1 hd hi hl.has hn rfl (fun ls' h' => ?_)
  exact K l D cT p e s m args below meth c ad0 ad A H locs ls' hC ha hk hS hw (aw_store1 hl (aw_okI) hlow hL h') (aw_ok_tail hs)
theorem AW.istore {i : Nat} {v : Int32} {L' : List Value} (hd : decode μ.2.1 pc = .ok (.istore i, 2)) (hn : i < μ.2.2.1) (hlow : aw_low L i = true) (hL : L.set i (.int v) = L') (K : AW Z μ d k0 mc ms Q (pc + 2) L' S h k cs ss) : AW Z μ d k0 mc ms Q pc L (.int v :: S) h k cs ss := by
  intro l D cT p e s m args below meth c ad0 ad A H locs ls hC ha hk hS hw hl hs
  refine lv_istore (nL := μ.2.2.1) (lv := aw_pairs ad L) hC.2.1 hC.2.2.1 hd hl.has hn rfl (fun ls' h' => ?_)
  exact K l D cT p e s m args below meth c ad0 ad A H locs ls' hC ha hk hS hw (aw_store1 hl (aw_okI) hlow hL h') (aw_ok_tail hs)
theorem AW.astore_n {x : Fin 4} {i : Nat} {v : Nat} {L' : List Value} (hd : decode μ.2.1 pc = .ok (.astore_n x, 1)) (hi : (x : Nat) = i) (hn : i < μ.2.2.1) (hlow : aw_low L i = true) (hL : L.set i (.ref v) = L') (K : AW Z μ d k0 mc ms Q (pc + 1) L' S h k cs ss) : AW Z μ d k0 mc ms Q pc L (.ref v :: S) h k cs ss := by
  intro l D cT p e s m args below meth c ad0 ad A H locs ls hC ha hk hS hw hl hs
  refine lv_astore_n (nL := μ.2.2.1) (lv := aw_pairs ad L) hC.2.1 hC.2.2.1 hd hi hl.has hn rfl (fun ls' h' => ?_)
  exact K l D cT p e s m args below meth c ad0 ad A H locs ls' hC ha hk hS hw (aw_store1 hl (hs _ List.mem_cons_self) hlow hL h') (aw_ok_tail hs)
theorem AW.astore {i : Nat} {v : Nat} {L' : List Value} (hd : decode μ.2.1 pc = .ok (.astore i, 2)) (hn : i < μ.2.2.1) (hlow : aw_low L i = true) (hL : L.set i (.ref v) = L') (K : AW Z μ d k0 mc ms Q (pc + 2) L' S h k cs ss) : AW Z μ d k0 mc ms Q pc L (.ref v :: S) h k cs ss := by
  intro l D cT p e s m args below meth c ad0 ad A H locs ls hC ha hk hS hw hl hs
  refine lv_astore (nL := μ.2.2.1) (lv := aw_pairs ad L) hC.2.1 hC.2.2.1 hd hl.has hn rfl (fun ls' h' => ?_)
  exact K l D cT p e s m args below meth c ad0 ad A H locs ls' hC ha hk hS hw (aw_store1 hl (hs _ List.mem_cons_self) hlow hL h') (aw_ok_tail hs)
theorem AW.lstore_n {x : Fin 4} {i : Nat} {v : Int64} {L' : List Value} (hd : decode μ.2.1 pc = .ok (.lstore_n x, 1)) (hi : (x : Nat) = i) (hn : i + 1 < μ.2.2.1) (hlow : aw_low L i = true) (hL : (L.set i (.long v)).set (i + 1) .null = L') (K : AW Z μ d k0 mc ms Q (pc + 1) L' S h k cs ss) : AW Z μ d k0 mc ms Q pc L (.long v :: S) h k cs ss := by
  intro l D cT p e s m args below meth c ad0 ad A H locs ls hC ha hk hS hw hl hs
  refine lv_lstore_n (nL := μ.2.2.1) (lv := aw_pairs ad L) hC.2.1 hC.2.2.1 hd hi hl.has hn rfl (fun ls' h' => ?_)
  exact K l D cT p e s m args below meth c ad0 ad A H locs ls' hC ha hk hS hw (aw_store2 hl (aw_okJ) hlow hL h') (aw_ok_tail hs)
theorem AW.dstore {i : Nat} {v : UInt64} {L' : List Value} (hd : decode μ.2.1 pc = .ok (.dstore i, 2)) (hn : i + 1 < μ.2.2.1) (hlow : aw_low L i = true) (hL : (L.set i (.double v)).set (i + 1) .null = L') (K : AW Z μ d k0 mc ms Q (pc + 2) L' S h k cs ss) : AW Z μ d k0 mc ms Q pc L (.double v :: S) h k cs ss := by
  intro l D cT p e s m args below meth c ad0 ad A H locs ls hC ha hk hS hw hl hs
  refine lv_dstore (nL := μ.2.2.1) (lv := aw_pairs ad L) hC.2.1 hC.2.2.1 hd hl.has hn rfl (fun ls' h' => ?_)
  exact K l D cT p e s m args below meth c ad0 ad A H locs ls' hC ha hk hS hw (aw_store2 hl (aw_okD) hlow hL h') (aw_ok_tail hs)
theorem AW.iinc {i : Nat} {n : Int} {x v : Int32} {L' : List Value} (hd : decode μ.2.1 pc = .ok (.iinc i n, 3)) (hx : L[i]? = some (.int x)) (hv : x + Int32.ofInt n = v) (hn : i < μ.2.2.1) (hlow : aw_low L i = true) (hL : L.set i (.int v) = L') (K : AW Z μ d k0 mc ms Q (pc + 3) L' S h k cs ss) : AW Z μ d k0 mc ms Q pc L S h k cs ss := by
  intro l D cT p e s m args below meth c ad0 ad A H locs ls hC ha hk hS hw hl hs
  obtain ⟨j, hj⟩ := List.getElem?_of_mem (aw_pairs_in (ad := ad) hx (fun e => nomatch e))
  refine lv_iinc (nL := μ.2.2.1) (lv := aw_pairs ad L) hC.2.1 hC.2.2.1 hd hl.has (k := j) hj hv hn rfl (fun ls' h' => ?_)
  exact K l D cT p e s m args below meth c ad0 ad A H locs ls' hC ha hk hS hw (aw_store1 hl aw_okI hlow hL h') hs
/-! ends -/
theorem AW.iret {v : Int32} {ty : FieldType} (hd : decode μ.2.1 pc = .ok (.ireturn, 1)) (hr : μ.2.2.2.1 = some ty) (hn : narrow ty (.int v) = .int v) (hc : cs ≤ mc) (hs2 : ss ≤ ms) (q : Q (.inl (some (.int v))) h k) : AW Z μ d k0 mc ms Q pc L [.int v] h k cs ss := by
  intro l D cT p e s m args below meth c ad0 ad A H locs ls hC ha hk hS hw hl hs
  obtain ⟨h1, hx, hb, h4, h5, h6, h7, h8, h9, h10, h11, h12⟩ := hC
  refine vx_ret (W.widen hc hs2 (W.zret hx hb (h5.trans hr) hn (fun t ht hW => ⟨⟨some (.int v), h, k, ad, rfl, q, ha, hk, fun w e => by cases e; trivial, ?_⟩, hS.F ht⟩) hS.2.2 hd h6))
  rw [ht]
  exact ⟨hw.1, hw.2.1, hw.2.2.1.moved hW.alike, hw.2.2.2⟩
theorem AW.lret {v : Int64} (hd : decode μ.2.1 pc = .ok (.lreturn, 1)) (hr : μ.2.2.2.1 = some .long) (hc : cs ≤ mc) (hs2 : ss ≤ ms) (q : Q (.inl (some (.long v))) h k) : AW Z μ d k0 mc ms Q pc L [.long v] h k cs ss := by
  intro l D cT p e s m args below meth c ad0 ad A H locs ls hC ha hk hS hw hl hs
  obtain ⟨h1, hx, hb, h4, h5, h6, h7, h8, h9, h10, h11, h12⟩ := hC
  refine vx_ret (W.widen hc hs2 (W.lret hx hb (h5.trans hr) (fun t ht hW => ⟨⟨some (.long v), h, k, ad, rfl, q, ha, hk, fun w e => by cases e; trivial, ?_⟩, hS.F ht⟩) hS.2.2 hd h6))
  rw [ht]
  exact ⟨hw.1, hw.2.1, hw.2.2.1.moved hW.alike, hw.2.2.2⟩
theorem AW.dret {v : UInt64} (hd : decode μ.2.1 pc = .ok (.dreturn, 1)) (hr : μ.2.2.2.1 = some .double) (hc : cs ≤ mc) (hs2 : ss ≤ ms) (q : Q (.inl (some (.double v))) h k) : AW Z μ d k0 mc ms Q pc L [.double v] h k cs ss := by
  intro l D cT p e s m args below meth c ad0 ad A H locs ls hC ha hk hS hw hl hs
  obtain ⟨h1, hx, hb, h4, h5, h6, h7, h8, h9, h10, h11, h12⟩ := hC
  refine vx_ret (W.widen hc hs2 (W.dret hx hb (h5.trans hr) (fun t ht hW => ⟨⟨some (.double v), h, k, ad, rfl, q, ha, hk, fun w e => by cases e; trivial, ?_⟩, hS.F ht⟩) hS.2.2 hd h6))
  rw [ht]
  exact ⟨hw.1, hw.2.1, hw.2.2.1.moved hW.alike, hw.2.2.2⟩
theorem AW.aret {v : Nat} {ty : FieldType} (hd : decode μ.2.1 pc = .ok (.areturn, 1)) (hr : μ.2.2.2.1 = some (.array ty)) (hc : cs ≤ mc) (hs2 : ss ≤ ms) (q : Q (.inl (some (.ref v))) h k) : AW Z μ d k0 mc ms Q pc L [.ref v] h k cs ss := by
  intro l D cT p e s m args below meth c ad0 ad A H locs ls hC ha hk hS hw hl hs
  obtain ⟨h1, hx, hb, h4, h5, h6, h7, h8, h9, h10, h11, h12⟩ := hC
  refine vx_ret (W.widen hc hs2 (W.aret hx hb (h5.trans hr) (Or.inr ⟨_, rfl⟩) (Or.inr ⟨_, rfl⟩) (fun t ht hW => ⟨⟨some (.ref v), h, k, ad, rfl, q, ha, hk, fun w e => by cases e; exact hs _ List.mem_cons_self, ?_⟩, hS.F ht⟩) hS.2.2 hd h6))
  rw [ht]
  exact ⟨hw.1, hw.2.1, hw.2.2.1.moved hW.alike, hw.2.2.2⟩
theorem AW.vret (hd : decode μ.2.1 pc = .ok (.return_, 1)) (hr : μ.2.2.2.1 = none) (hc : cs ≤ mc) (hs2 : ss ≤ ms) (q : Q (.inl none) h k) : AW Z μ d k0 mc ms Q pc L [] h k cs ss := by
  intro l D cT p e s m args below meth c ad0 ad A H locs ls hC ha hk hS hw hl hs
  obtain ⟨h1, hx, hb, h4, h5, h6, h7, h8, h9, h10, h11, h12⟩ := hC
  refine vx_ret (W.widen hc hs2 (W.vret hx hb (h5.trans hr) (fun t ht hW => ⟨⟨none, h, k, ad, rfl, q, ha, hk, (fun w e => nomatch e), ?_⟩, hS.F ht⟩) hS.2.2 hd h6))
  rw [ht]
  exact ⟨hw.1, hw.2.1, hw.2.2.1.moved hW.alike, hw.2.2.2⟩
theorem AW.widen {cs' ss' : Nat} (h1 : cs ≤ cs') (h2 : ss ≤ ss') (K : AW Z μ d k0 mc ms Q pc L S h k cs' ss') : AW Z μ d k0 mc ms Q pc L S h k cs ss := by
  intro l D cT p e s m args below meth c ad0 ad A H locs ls hC ha hk hS hw hl hs
  exact W.widen h1 h2 (K l D cT p e s m args below meth c ad0 ad A H locs ls hC ha hk hS hw hl hs)
/-- fewer locals known -/
theorem AW.locals {L' : List Value} (hL : ∀ (i : Nat) (v : Value), L'[i]? = some v → v ≠ .null → L[i]? = some v) (K : AW Z μ d k0 mc ms Q pc L' S h k cs ss) : AW Z μ d k0 mc ms Q pc L S h k cs ss := by
  intro l D cT p e s m args below meth c ad0 ad A H locs ls hC ha hk hS hw hl hs
  exact K l D cT p e s m args below meth c ad0 ad A H locs ls hC ha hk hS hw ⟨hl.1, hl.2.1, fun i v h1 h2 => hl.2.2 i v (hL i v h1 h2) h2⟩ hs
end Rows2
end
section
/-! AW: the heap -/
def aw_ty (ci : Nat) : Nat → FieldType := match ci with
  | 0 => tyX0
  | 1 => tyX1
  | 2 => tyX2
  | 3 => tyX3
  | 4 => tyX4
  | _ => tyX5
theorem aw_cw0 : ∀ w ∈ u_ws RX0 TX0 1, w ∈ lw_tbl ∧ aw_okw w = true := by decide +kernel
theorem aw_cw1 : ∀ w ∈ u_ws RX1 TX1 12, w ∈ lw_tbl ∧ aw_okw w = true := by decide +kernel
theorem aw_cw2 : ∀ w ∈ u_ws RX2 TX2 6, w ∈ lw_tbl ∧ aw_okw w = true := by decide +kernel
theorem aw_cw3 : ∀ w ∈ u_ws RX3 TX3 18, w ∈ lw_tbl ∧ aw_okw w = true := by decide +kernel
theorem aw_cw4 : ∀ w ∈ u_ws RX4 TX4 7, w ∈ lw_tbl ∧ aw_okw w = true := by decide +kernel
theorem aw_cw5 : ∀ w ∈ u_ws RX5 TX5 16, w ∈ lw_tbl ∧ aw_okw w = true := by decide +kernel
theorem aw_cls {ci : Nat} {C : String} {T : u_T} {N : Nat} (h : aw_cl[ci]? = some (C, T, N)) :
    (∀ w ∈ u_ws C T N, w ∈ lw_tbl ∧ aw_okw w = true) ∧ (∀ k, k < N → parseFieldDescriptor (T k).2.2.1 = some (aw_ty ci k)) ∧ (∀ a, a < N → ∀ b, b < N → a ≠ b → (T a).2.1 ≠ (T b).2.1) := by
  match ci, h with
  | 0, h => cases h; exact ⟨aw_cw0, tyX0_ok, nmX0⟩
  | 1, h => cases h; exact ⟨aw_cw1, tyX1_ok, nmX1⟩
  | 2, h => cases h; exact ⟨aw_cw2, tyX2_ok, nmX2⟩
  | 3, h => cases h; exact ⟨aw_cw3, tyX3_ok, nmX3⟩
  | 4, h => cases h; exact ⟨aw_cw4, tyX4_ok, nmX4⟩
  | 5, h => cases h; exact ⟨aw_cw5, tyX5_ok, nmX5⟩
  | n + 6, h => simp at h
theorem aw_hts {A : Nat → Prop} {s : State} (h : aw_GF A s) {args : Array Value} {w : Cond} (hw : w ∈ lw_tbl) (ho : aw_okw w = true) : w.before args s = true := aw_stable ho (State.WarmedH.refl s) (h.1 w hw ho)
theorem aw_at_obj {cT : FieldType → ClassId} {ad : Nat → Nat} {h : Hp} {k i ci : Nat} {fs : List Value} (h0 : 0 < i) (hi : i < k) (hh : h i = .inr (ci, fs)) : (aw_ws cT ad h k)[i - 1]? = some (ad i, .inr (ci, fs.map (aw_cv ad))) := by
  rw [aw_ws_at cT ad h h0 hi, hh]; rfl
theorem aw_at_arr {cT : FieldType → ClassId} {ad : Nat → Nat} {h : Hp} {k i : Nat} {ty : FieldType} {a : vp_A} (h0 : 0 < i) (hi : i < k) (hh : h i = .inl (ty, a)) : (aw_ws cT ad h k)[i - 1]? = some (ad i, .inl (cT ty, a)) := by
  rw [aw_ws_at cT ad h h0 hi, hh]; rfl
theorem aw_Wo_set {D : va_G} {cT : FieldType → ClassId} {A : Nat → Prop} {ad : Nat → Nat} {h : Hp} {k i : Nat} {H H1 : Heap} {U : State} {e : Ce} (hw : aw_Wo D cT A ad h k H U) (h0 : 0 < i) (hi : i < k) (he : aw_okc k e)
    (hP : va_P D aw_cl ((aw_ws cT ad h k).set (i - 1) (ad i, aw_ce cT ad e)) H1) (hD : va_D A ((aw_ws cT ad h k).set (i - 1) (ad i, aw_ce cT ad e))) : aw_Wo D cT A ad (va_up h i e) k H1 U := by
  rw [aw_ws_set cT ad h h0 hi] at hP hD
  refine ⟨hP, hD, hw.2.2.1, hw.2.2.2.1, fun j j0 jk => ?_⟩
  by_cases hj : j = i
  · subst hj; simp only [va_up, if_true]; exact he
  · simp only [va_up, hj, if_false]; exact hw.2.2.2.2 j j0 jk
section Rows3
variable {Z : Gz} {μ : Mt} {d k0 mc ms : Nat} {Q : Po} {pc : Nat} {L S : List Value} {h : Hp} {k cs ss : Nat}
theorem AW.get {i ci index f N : Nat} {C ref : String} {T : u_T} {fs : List Value} {v : Value} (hd : decode μ.2.1 pc = .ok (.getfield index, 3)) (hw : Cond.fieldLink μ.1.cls index ref (T f).2.1 (T f).2.2.1 ∈ lw_tbl) (hc : aw_cl[ci]? = some (C, T, N)) (hf : f < N) (hr : ref = (T f).1)
    (h0 : 0 < i) (hh : h i = .inr (ci, fs)) (hv : fs[f]? = some v) (K : AW Z μ d k0 mc ms Q (pc + 3) L (v :: S) h k cs ss) : AW Z μ d k0 mc ms Q pc L (.ref i :: S) h k cs ss := by
  intro l D cT p e s m args below meth c ad0 ad A H locs ls hC ha hk hS hw2 hl hs
  have hi : i < k := hs _ List.mem_cons_self
  obtain ⟨c1, c2, c3⟩ := aw_cls hc
  refine va_get (own := μ.1.cls) (ref := ref) (v := aw_cv ad v) hC.2.1 hC.2.2.1 (Ts := u_ws C T N) (fun w h => aw_hts hC.2.2.2.2.2.2.2.2.2.1 (c1 w h).1 (c1 w h).2) (fun _ h => h) hC.2.2.2.2.2.2.2.1 hw2.2.2.1 hw2.1 (i - 1) (aw_at_obj h0 hi hh) hc f hf (aw_hts hC.2.2.2.2.2.2.2.2.2.1 hw rfl) (fun x hx => by rw [hr]; exact hx) (by rw [List.getElem?_map, hv]; rfl) hd ?_
  have hok : aw_ok k v := by
    have := hw2.2.2.2.2 i h0 hi
    rw [hh] at this
    exact this v (List.mem_of_getElem? hv)
  exact K l D cT p e s m args below meth c ad0 ad A H locs ls hC ha hk hS hw2 hl (aw_ok_cons hok (aw_ok_tail hs))
theorem AW.getN {i ci index f N : Nat} {C ref host : String} {T : u_T} {fs : List Value} {v : Value} (hd : decode μ.2.1 pc = .ok (.getfield index, 3)) (hw : Cond.fieldLinkNest μ.1.cls index ref (T f).2.1 (T f).2.2.1 host ∈ lw_tbl) (hc : aw_cl[ci]? = some (C, T, N)) (hf : f < N) (hr : ref = (T f).1)
    (h0 : 0 < i) (hh : h i = .inr (ci, fs)) (hv : fs[f]? = some v) (K : AW Z μ d k0 mc ms Q (pc + 3) L (v :: S) h k cs ss) : AW Z μ d k0 mc ms Q pc L (.ref i :: S) h k cs ss := by
  intro l D cT p e s m args below meth c ad0 ad A H locs ls hC ha hk hS hw2 hl hs
  have hi : i < k := hs _ List.mem_cons_self
  obtain ⟨c1, c2, c3⟩ := aw_cls hc
  refine va_getN (own := μ.1.cls) (ref := ref) (host := host) (v := aw_cv ad v) hC.2.1 hC.2.2.1 (Ts := u_ws C T N) (fun w h => aw_hts hC.2.2.2.2.2.2.2.2.2.1 (c1 w h).1 (c1 w h).2) (fun _ h => h) hC.2.2.2.2.2.2.2.1 hw2.2.2.1 hw2.1 (i - 1) (aw_at_obj h0 hi hh) hc f hf (aw_hts hC.2.2.2.2.2.2.2.2.2.1 hw rfl) (fun x hx => by rw [hr]; exact hx) (by rw [List.getElem?_map, hv]; rfl) hd ?_
  have hok : aw_ok k v := by
    have := hw2.2.2.2.2 i h0 hi
    rw [hh] at this
    exact this v (List.mem_of_getElem? hv)
  exact K l D cT p e s m args below meth c ad0 ad A H locs ls hC ha hk hS hw2 hl (aw_ok_cons hok (aw_ok_tail hs))
theorem aw_okc_set {ci f : Nat} {fs : List Value} {v : Value} (h : aw_okc k (.inr (ci, fs))) (hv : aw_ok k v) : aw_okc k (.inr (ci, fs.set f v)) := fun w hw => by
  rcases List.mem_or_eq_of_mem_set hw with h1 | h1
  · exact h w h1
  · rw [h1]; exact hv
theorem AW.put {i ci index f N : Nat} {C ref : String} {T : u_T} {fs fs' : List Value} {v : Value} (hd : decode μ.2.1 pc = .ok (.putfield index, 3)) (hw : Cond.fieldLink μ.1.cls index ref (T f).2.1 (T f).2.2.1 ∈ lw_tbl) (hc : aw_cl[ci]? = some (C, T, N)) (hf : f < N) (hr : ref = (T f).1)
    (h0 : 0 < i) (hh : h i = .inr (ci, fs)) (hl2 : f < fs.length) (hfin : (T f).2.2.2 = false) (hn : ∀ ad : Nat → Nat, narrow (aw_ty ci f) (aw_cv ad v) = aw_cv ad v ∧ fits (aw_ty ci f) (aw_cv ad v) = true) (hs' : fs.set f v = fs')
    (K : AW Z μ d k0 mc ms Q (pc + 3) L S (va_up h i (.inr (ci, fs'))) k cs ss) : AW Z μ d k0 mc ms Q pc L (v :: .ref i :: S) h k cs ss := by
  subst hs'
  intro l D cT p e s m args below meth c ad0 ad A H locs ls hC ha hk hS hw2 hl hs
  have hi : i < k := hs _ (List.mem_cons_of_mem _ List.mem_cons_self)
  obtain ⟨c1, c2, c3⟩ := aw_cls hc
  refine va_put (own := μ.1.cls) (ref := ref) (v := aw_cv ad v) (ty := aw_ty ci f) hC.2.1 hC.2.2.1 (Ts := u_ws C T N) (fun w h => aw_hts hC.2.2.2.2.2.2.2.2.2.1 (c1 w h).1 (c1 w h).2) (fun _ h => h) (aw_ty ci) c2 c3 hC.2.2.2.2.2.2.2.1 hw2.2.2.1 hw2.1 hw2.2.1 hS (i - 1) (aw_at_obj h0 hi hh) hc f hf (aw_hts hC.2.2.2.2.2.2.2.2.2.1 hw rfl) (fun x hx => by rw [hr]; exact hx) hfin (c2 f hf) (hn ad).1 (hn ad).2 (by rw [List.length_map]; exact hl2) hd (fun H1 locs1 hP hD hS1 => ?_)
  have e1 : (ad i, (Sum.inr (ci, (fs.map (aw_cv ad)).set f (aw_cv ad v)) : va_E)) = (ad i, aw_ce cT ad (.inr (ci, fs.set f v))) := by
    show _ = (ad i, Sum.inr (ci, (fs.set f v).map (aw_cv ad)))
    rw [List.map_set]
  rw [e1] at hP hD
  have hoi := hw2.2.2.2.2 i h0 hi
  rw [hh] at hoi
  exact K l D cT p e s m args below meth c ad0 ad A H1 locs1 ls hC ha hk hS1 (aw_Wo_set hw2 h0 hi (aw_okc_set hoi (hs _ List.mem_cons_self)) hP hD) hl (aw_ok_tail (aw_ok_tail hs))
theorem AW.putN {i ci index f N : Nat} {C ref host : String} {T : u_T} {fs fs' : List Value} {v : Value} (hd : decode μ.2.1 pc = .ok (.putfield index, 3)) (hw : Cond.fieldLinkNest μ.1.cls index ref (T f).2.1 (T f).2.2.1 host ∈ lw_tbl) (hc : aw_cl[ci]? = some (C, T, N)) (hf : f < N) (hr : ref = (T f).1)
    (h0 : 0 < i) (hh : h i = .inr (ci, fs)) (hl2 : f < fs.length) (hfin : (T f).2.2.2 = false) (hn : ∀ ad : Nat → Nat, narrow (aw_ty ci f) (aw_cv ad v) = aw_cv ad v ∧ fits (aw_ty ci f) (aw_cv ad v) = true) (hs' : fs.set f v = fs')
    (K : AW Z μ d k0 mc ms Q (pc + 3) L S (va_up h i (.inr (ci, fs'))) k cs ss) : AW Z μ d k0 mc ms Q pc L (v :: .ref i :: S) h k cs ss := by
  subst hs'
  intro l D cT p e s m args below meth c ad0 ad A H locs ls hC ha hk hS hw2 hl hs
  have hi : i < k := hs _ (List.mem_cons_of_mem _ List.mem_cons_self)
  obtain ⟨c1, c2, c3⟩ := aw_cls hc
  refine va_putN (own := μ.1.cls) (ref := ref) (host := host) (v := aw_cv ad v) (ty := aw_ty ci f) hC.2.1 hC.2.2.1 (Ts := u_ws C T N) (fun w h => aw_hts hC.2.2.2.2.2.2.2.2.2.1 (c1 w h).1 (c1 w h).2) (fun _ h => h) (aw_ty ci) c2 c3 hC.2.2.2.2.2.2.2.1 hw2.2.2.1 hw2.1 hw2.2.1 hS (i - 1) (aw_at_obj h0 hi hh) hc f hf (aw_hts hC.2.2.2.2.2.2.2.2.2.1 hw rfl) (fun x hx => by rw [hr]; exact hx) hfin (c2 f hf) (hn ad).1 (hn ad).2 (by rw [List.length_map]; exact hl2) hd (fun H1 locs1 hP hD hS1 => ?_)
  have e1 : (ad i, (Sum.inr (ci, (fs.map (aw_cv ad)).set f (aw_cv ad v)) : va_E)) = (ad i, aw_ce cT ad (.inr (ci, fs.set f v))) := by
    show _ = (ad i, Sum.inr (ci, (fs.set f v).map (aw_cv ad)))
    rw [List.map_set]
  rw [e1] at hP hD
  have hoi := hw2.2.2.2.2 i h0 hi
  rw [hh] at hoi
  exact K l D cT p e s m args below meth c ad0 ad A H1 locs1 ls hC ha hk hS1 (aw_Wo_set hw2 h0 hi (aw_okc_set hoi (hs _ List.mem_cons_self)) hP hD) hl (aw_ok_tail (aw_ok_tail hs))
theorem AW.putF {i ci index f N : Nat} {C ref : String} {T : u_T} {fs fs' : List Value} {v : Value} (hd : decode μ.2.1 pc = .ok (.putfield index, 3)) (hw : Cond.fieldLink μ.1.cls index ref (T f).2.1 (T f).2.2.1 ∈ lw_tbl) (hc : aw_cl[ci]? = some (C, T, N)) (hf : f < N) (hr : ref = (T f).1)
    (h0 : 0 < i) (hh : h i = .inr (ci, fs)) (hl2 : f < fs.length) (hfin : (T f).2.2.2 = true) (hin : μ.1.name = "<init>") (hown : (T f).1 = μ.1.cls) (hn : ∀ ad : Nat → Nat, narrow (aw_ty ci f) (aw_cv ad v) = aw_cv ad v ∧ fits (aw_ty ci f) (aw_cv ad v) = true) (hs' : fs.set f v = fs')
    (K : AW Z μ d k0 mc ms Q (pc + 3) L S (va_up h i (.inr (ci, fs'))) k cs ss) : AW Z μ d k0 mc ms Q pc L (v :: .ref i :: S) h k cs ss := by
  subst hs'
  intro l D cT p e s m args below meth c ad0 ad A H locs ls hC ha hk hS hw2 hl hs
  have hi : i < k := hs _ (List.mem_cons_of_mem _ List.mem_cons_self)
  obtain ⟨c1, c2, c3⟩ := aw_cls hc
  refine va_putF (own := μ.1.cls) (ref := ref) (v := aw_cv ad v) (ty := aw_ty ci f) hC.2.1 hC.2.2.1 (Ts := u_ws C T N) (fun w h => aw_hts hC.2.2.2.2.2.2.2.2.2.1 (c1 w h).1 (c1 w h).2) (fun _ h => h) (aw_ty ci) c2 c3 hC.2.2.2.2.2.2.2.1 hw2.2.2.1 hw2.1 hw2.2.1 hS (i - 1) (aw_at_obj h0 hi hh) hc f hf (aw_hts hC.2.2.2.2.2.2.2.2.2.1 hw rfl) (fun x hx => by rw [hr]; exact hx) hfin (hC.2.2.2.2.2.2.1.trans hin) hown (c2 f hf) (hn ad).1 (hn ad).2 (by rw [List.length_map]; exact hl2) hd (fun H1 locs1 hP hD hS1 => ?_)
  have e1 : (ad i, (Sum.inr (ci, (fs.map (aw_cv ad)).set f (aw_cv ad v)) : va_E)) = (ad i, aw_ce cT ad (.inr (ci, fs.set f v))) := by
    show _ = (ad i, Sum.inr (ci, (fs.set f v).map (aw_cv ad)))
    rw [List.map_set]
  rw [e1] at hP hD
  have hoi := hw2.2.2.2.2 i h0 hi
  rw [hh] at hoi
  exact K l D cT p e s m args below meth c ad0 ad A H1 locs1 ls hC ha hk hS1 (aw_Wo_set hw2 h0 hi (aw_okc_set hoi (hs _ List.mem_cons_self)) hP hD) hl (aw_ok_tail (aw_ok_tail hs))
theorem AW.iald {i n : Nat} {g : Nat → Int32} {x : Int32} (hd : decode μ.2.1 pc = .ok (.iaload, 1)) (h0 : 0 < i) (hh : h i = .inl (.int, n, .inl g)) (hin : vp_in x n) (K : AW Z μ d k0 mc ms Q (pc + 1) L (.int (g x.toNatClampNeg) :: S) h k cs ss) : AW Z μ d k0 mc ms Q pc L (.int x :: .ref i :: S) h k cs ss := by
  intro l D cT p e s m args below meth c ad0 ad A H locs ls hC ha hk hS hw2 hl hs
  have hi : i < k := hs _ (List.mem_cons_of_mem _ List.mem_cons_self)
  exact va_iald hC.2.1 hC.2.2.1 hw2.2.2.1 hw2.1 (i - 1) 0 (aw_at_arr h0 hi hh) rfl hin hd (K l D cT p e s m args below meth c ad0 ad A H locs ls hC ha hk hS hw2 hl (aw_ok_cons aw_okI (aw_ok_tail (aw_ok_tail hs))))
theorem AW.zald {i n : Nat} {g : Nat → Int32} {x : Int32} (hd : decode μ.2.1 pc = .ok (.baload, 1)) (h0 : 0 < i) (hh : h i = .inl (.boolean, n, .inl g)) (hin : vp_in x n) (K : AW Z μ d k0 mc ms Q (pc + 1) L (.int (g x.toNatClampNeg) :: S) h k cs ss) : AW Z μ d k0 mc ms Q pc L (.int x :: .ref i :: S) h k cs ss := by
  intro l D cT p e s m args below meth c ad0 ad A H locs ls hC ha hk hS hw2 hl hs
  have hi : i < k := hs _ (List.mem_cons_of_mem _ List.mem_cons_self)
  exact va_zald hC.2.1 hC.2.2.1 hw2.2.2.1 hw2.1 (i - 1) 1 (aw_at_arr h0 hi hh) rfl hin hd (K l D cT p e s m args below meth c ad0 ad A H locs ls hC ha hk hS hw2 hl (aw_ok_cons aw_okI (aw_ok_tail (aw_ok_tail hs))))
theorem AW.lald {i n : Nat} {g : Nat → Int64} {x : Int32} (hd : decode μ.2.1 pc = .ok (.laload, 1)) (h0 : 0 < i) (hh : h i = .inl (.long, n, .inr (.inl g))) (hin : vp_in x n) (K : AW Z μ d k0 mc ms Q (pc + 1) L (.long (g x.toNatClampNeg) :: S) h k cs ss) : AW Z μ d k0 mc ms Q pc L (.int x :: .ref i :: S) h k cs ss := by
  intro l D cT p e s m args below meth c ad0 ad A H locs ls hC ha hk hS hw2 hl hs
  have hi : i < k := hs _ (List.mem_cons_of_mem _ List.mem_cons_self)
  exact va_lald hC.2.1 hC.2.2.1 hw2.2.2.1 hw2.1 (i - 1) 2 (aw_at_arr h0 hi hh) rfl hin hd (K l D cT p e s m args below meth c ad0 ad A H locs ls hC ha hk hS hw2 hl (aw_ok_cons aw_okJ (aw_ok_tail (aw_ok_tail hs))))
theorem AW.iast {i n : Nat} {g : Nat → Int32} {x y : Int32} (hd : decode μ.2.1 pc = .ok (.iastore, 1)) (h0 : 0 < i) (hh : h i = .inl (.int, n, .inl g)) (hin : vp_in x n) (K : AW Z μ d k0 mc ms Q (pc + 1) L S (va_up h i (.inl (.int, n, .inl (upd g x.toNatClampNeg y)))) k cs ss) : AW Z μ d k0 mc ms Q pc L (.int y :: .int x :: .ref i :: S) h k cs ss := by
  intro l D cT p e s m args below meth c ad0 ad A H locs ls hC ha hk hS hw2 hl hs
  have hi : i < k := hs _ (List.mem_cons_of_mem _ (List.mem_cons_of_mem _ List.mem_cons_self))
  exact va_iast hC.2.1 hC.2.2.1 hw2.2.2.1 hw2.1 hw2.2.1 hS (i - 1) 0 (aw_at_arr h0 hi hh) rfl hin hd (fun H1 locs1 hP hD hS1 => K l D cT p e s m args below meth c ad0 ad A H1 locs1 ls hC ha hk hS1 (aw_Wo_set (e := .inl (.int, n, .inl (upd g x.toNatClampNeg y))) hw2 h0 hi trivial hP hD) hl (aw_ok_tail (aw_ok_tail (aw_ok_tail hs))))
theorem AW.zast {i n : Nat} {g : Nat → Int32} {x y : Int32} (hd : decode μ.2.1 pc = .ok (.bastore, 1)) (h0 : 0 < i) (hh : h i = .inl (.boolean, n, .inl g)) (hin : vp_in x n) (hy : vp_nar .boolean y = y) (K : AW Z μ d k0 mc ms Q (pc + 1) L S (va_up h i (.inl (.boolean, n, .inl (upd g x.toNatClampNeg y)))) k cs ss) : AW Z μ d k0 mc ms Q pc L (.int y :: .int x :: .ref i :: S) h k cs ss := by
  intro l D cT p e s m args below meth c ad0 ad A H locs ls hC ha hk hS hw2 hl hs
  have hi : i < k := hs _ (List.mem_cons_of_mem _ (List.mem_cons_of_mem _ List.mem_cons_self))
  refine va_zast hC.2.1 hC.2.2.1 hw2.2.2.1 hw2.1 hw2.2.1 hS (i - 1) 1 (aw_at_arr h0 hi hh) rfl hin hd (fun H1 locs1 hP hD hS1 => ?_)
  rw [hy] at hP hD
  exact K l D cT p e s m args below meth c ad0 ad A H1 locs1 ls hC ha hk hS1 (aw_Wo_set (e := .inl (.boolean, n, .inl (upd g x.toNatClampNeg y))) hw2 h0 hi trivial hP hD) hl (aw_ok_tail (aw_ok_tail (aw_ok_tail hs)))
theorem AW.last {i n : Nat} {g : Nat → Int64} {x : Int32} {y : Int64} (hd : decode μ.2.1 pc = .ok (.lastore, 1)) (h0 : 0 < i) (hh : h i = .inl (.long, n, .inr (.inl g))) (hin : vp_in x n) (K : AW Z μ d k0 mc ms Q (pc + 1) L S (va_up h i (.inl (.long, n, .inr (.inl (vp_updL g x.toNatClampNeg y))))) k cs ss) : AW Z μ d k0 mc ms Q pc L (.long y :: .int x :: .ref i :: S) h k cs ss := by
  intro l D cT p e s m args below meth c ad0 ad A H locs ls hC ha hk hS hw2 hl hs
  have hi : i < k := hs _ (List.mem_cons_of_mem _ (List.mem_cons_of_mem _ List.mem_cons_self))
  exact va_last hC.2.1 hC.2.2.1 hw2.2.2.1 hw2.1 hw2.2.1 hS (i - 1) 2 (aw_at_arr h0 hi hh) rfl hin hd (fun H1 locs1 hP hD hS1 => K l D cT p e s m args below meth c ad0 ad A H1 locs1 ls hC ha hk hS1 (aw_Wo_set (e := .inl (.long, n, .inr (.inl (vp_updL g x.toNatClampNeg y)))) hw2 h0 hi trivial hP hD) hl (aw_ok_tail (aw_ok_tail (aw_ok_tail hs))))
theorem AW.alen {i n : Nat} {g : Nat → Int32} (hd : decode μ.2.1 pc = .ok (.arraylength, 1)) (h0 : 0 < i) (hh : h i = .inl (.int, n, .inl g)) (K : AW Z μ d k0 mc ms Q (pc + 1) L (.int (Int32.ofNat n) :: S) h k cs ss) : AW Z μ d k0 mc ms Q pc L (.ref i :: S) h k cs ss := by
  intro l D cT p e s m args below meth c ad0 ad A H locs ls hC ha hk hS hw2 hl hs
  have hi : i < k := hs _ List.mem_cons_self
  exact va_alen hC.2.1 hC.2.2.1 hw2.2.2.1 hw2.1 (i - 1) 0 (aw_at_arr h0 hi hh) (ty := .int) rfl rfl hd (K l D cT p e s m args below meth c ad0 ad A H locs ls hC ha hk hS hw2 hl (aw_ok_cons aw_okI (aw_ok_tail hs)))
/-- a new cell: the next id -/
theorem aw_Wo_push {D : va_G} {cT : FieldType → ClassId} {A : Nat → Prop} {ad : Nat → Nat} {q : Nat} {H H1 : Heap} {U : State} {e : Ce} (hw : aw_Wo D cT A ad h k H U) (he : aw_okc k e)
    (hP : va_P D aw_cl (aw_ws cT ad h k ++ [(q, aw_ce cT ad e)]) H1) (hD : va_D A (aw_ws cT ad h k ++ [(q, aw_ce cT ad e)])) : aw_Wo D cT A (va_up ad k q) (va_up h k e) (k + 1) H1 U := by
  rw [← aw_ws_push cT ad h hw.2.2.2.1 hw.2.2.2.2 q e he] at hP hD
  refine ⟨hP, hD, hw.2.2.1, Nat.succ_pos k, fun j j0 jk => ?_⟩
  by_cases hj : j = k
  · subst hj; simp only [va_up, if_true]; exact aw_okc_le he (Nat.le_succ _)
  · simp only [va_up, hj, if_false]; exact aw_okc_le (hw.2.2.2.2 j j0 (by omega)) (Nat.le_succ _)
theorem aw_push_cv {ad : Nat → Nat} {q : Nat} (hs : ∀ v ∈ S, aw_ok k v) : S.map (aw_cv (va_up ad k q)) = S.map (aw_cv ad) :=
  List.map_congr_left fun v hv => aw_cv_congr (hs v hv) fun i hi => by simp [va_up, Nat.ne_of_lt hi]
theorem aw_push_Lv {nL : Nat} {ad : Nat → Nat} {q : Nat} {ls : Array Slot} (hl : aw_Lv nL ad k ls L) : aw_Lv nL (va_up ad k q) (k + 1) ls L :=
  ⟨hl.1, hl.2.1, fun i v h1 h2 => ⟨by rw [aw_cv_congr (ad := ad) (hl.2.2 i v h1 h2).2 (fun j hj => by simp [va_up, Nat.ne_of_lt hj])]; exact (hl.2.2 i v h1 h2).1, aw_ok_le (hl.2.2 i v h1 h2).2 (Nat.le_succ _)⟩⟩
theorem AW.new {ci index N : Nat} {C : String} {T : u_T} {fs : List Value} (hd : decode μ.2.1 pc = .ok (.new index, 3)) (hw : Cond.classLink μ.1.cls index C ∈ lw_tbl) (hi1 : Cond.instantiable C N ∈ lw_tbl) (hi2 : Cond.initialized C ∈ lw_tbl) (hc : aw_cl[ci]? = some (C, T, N))
    (hfs : ∀ j, j < N → defaultValue (aw_ty ci j) = vp_V fs j) (hfr : ∀ v ∈ fs, ∀ i, v ≠ .ref i) (hcs : cs + 1 ≤ mc) (hss : ss + N ≤ ms)
    (K : AW Z μ d k0 mc ms Q (pc + 3) L (.ref k :: S) (va_up h k (.inr (ci, fs))) (k + 1) (cs + 1) (ss + N)) : AW Z μ d k0 mc ms Q pc L S h k cs ss := by
  intro l D cT p e s m args below meth c ad0 ad A H locs ls hC ha hk hS hw2 hl hs
  obtain ⟨c1, c2, c3⟩ := aw_cls hc
  have hg := hC.2.2.2.2.2.2.2.2.2.1
  refine va_new (own := μ.1.cls) hC.2.1 hC.2.2.1 (Ts := u_ws C T N) (fun w h => aw_hts hg (c1 w h).1 (c1 w h).2) (fun _ h => h) (aw_ty ci) c2 hC.2.2.2.2.2.2.2.1 (aw_hts hg hw rfl) (aw_hts hg hi1 rfl) (aw_hts hg hi2 rfl) hw2.2.2.1 hw2.1 hw2.2.1 hS hC.2.2.2.2.2.2.2.2.2.2.1 hc hfs hcs hss hd (fun q H1 hP hD hS1 => ?_)
  have hrefl : fs.map (aw_cv ad) = fs := by
    have : fs.map (aw_cv ad) = fs.map id := List.map_congr_left fun v hv => by
      cases v <;> first | rfl | exact absurd rfl (hfr _ hv _)
    rw [this, List.map_id]
  have he : aw_okc k (.inr (ci, fs)) := fun v hv => by
    cases v <;> first | trivial | exact absurd rfl (hfr _ hv _)
  have e1 : (q, (Sum.inr (ci, fs) : va_E)) = (q, aw_ce cT ad (.inr (ci, fs))) := by
    show _ = (q, Sum.inr (ci, fs.map (aw_cv ad)))
    rw [hrefl]
  rw [e1] at hP hD
  have hK := K l D cT p e s m args below meth c ad0 (va_up ad k q) A H1 locs ls hC (fun i hi => by simp only [va_up, Nat.ne_of_lt (Nat.lt_of_lt_of_le hi hk), if_false]; exact ha i hi) (Nat.le_succ_of_le hk) hS1 (aw_Wo_push hw2 he hP hD) (aw_push_Lv hl) (aw_ok_cons (Nat.lt_succ_self k) (fun v hv => aw_ok_le (hs v hv) (Nat.le_succ _)))
  rw [List.map_cons, aw_push_cv hs] at hK
  have e2 : aw_cv (va_up ad k q) (.ref k) = .ref q := by simp [aw_cv, va_up]
  rw [e2] at hK
  exact hK
theorem aw_tyv (cT : FieldType → ClassId) {D : va_G} {U : State} (hK : va_K D aw_cl (aw_tys cT) U) {ty : FieldType} (hty : ty = .int ∨ ty = .boolean ∨ ty = .long) {cA : ClassId} (h : va_RA U cA ty) : cA = cT ty := by
  rcases hty with rfl | rfl | rfl
  · exact Option.some.inj (h.symm.trans (hK.2 0 _ rfl).2)
  · exact Option.some.inj (h.symm.trans (hK.2 1 _ rfl).2)
  · exact Option.some.inj (h.symm.trans (hK.2 2 _ rfl).2)
theorem AW.newa {atype : ArrayType} {ty : FieldType} {n : Int32} {N : Nat} {a0 : vp_A} (hd : decode μ.2.1 pc = .ok (.newarray atype, 2)) (hty : newarray.typeOf atype = ty) (ht3 : ty = .int ∨ ty = .boolean ∨ ty = .long) (hw : Cond.arrayClass ty ∈ lw_tbl) (ha0 : ∀ cA : ClassId, vp_cell cA a0 = arrV cA N (fun _ => defaultValue ty))
    (hn : ¬ n < 0) (hN : n.toNatClampNeg = N) (hb : N * componentBytes ty ≤ 536870912) (hcs : cs + 1 ≤ mc) (hss : ss + N ≤ ms)
    (K : AW Z μ d k0 mc ms Q (pc + 2) L (.ref k :: S) (va_up h k (.inl (ty, a0))) (k + 1) (cs + 1) (ss + N)) : AW Z μ d k0 mc ms Q pc L (.int n :: S) h k cs ss := by
  intro l D cT p e s m args below meth c ad0 ad A H locs ls hC ha hk hS hw2 hl hs
  have hg := hC.2.2.2.2.2.2.2.2.2.1
  refine va_newa hC.2.1 hC.2.2.1 (by rw [hty]; exact aw_hts hg hw rfl) hty hw2.2.2.1 hw2.1 hw2.2.1 hS hC.2.2.2.2.2.2.2.2.2.2.1 ha0 hn hN hb hcs hss hd (fun q cA H1 hK1 hP hD hS1 => ?_)
  have hcA : cA = cT ty := aw_tyv cT hw2.2.2.1 ht3 (hK1.2 3 (cA, ty) rfl).2
  subst hcA
  have hK := K l D cT p e s m args below meth c ad0 (va_up ad k q) A H1 locs ls hC (fun i hi => by simp only [va_up, Nat.ne_of_lt (Nat.lt_of_lt_of_le hi hk), if_false]; exact ha i hi) (Nat.le_succ_of_le hk) hS1 (aw_Wo_push (e := .inl (ty, a0)) hw2 trivial hP hD) (aw_push_Lv hl) (aw_ok_cons (Nat.lt_succ_self k) (fun v hv => aw_ok_le (aw_ok_tail hs v hv) (Nat.le_succ _)))
  rw [List.map_cons, aw_push_cv (aw_ok_tail hs)] at hK
  have e2 : aw_cv (va_up ad k q) (.ref k) = .ref q := by simp [aw_cv, va_up]
  rw [e2] at hK
  exact hK
end Rows3
end
section
/-! AW: calls -/
/-- the callee's start, out of the caller's world -/
theorem aw_free {D : va_G} {cT : FieldType → ClassId} {A : Nat → Prop} {ad : Nat → Nat} {h : Hp} {k : Nat} {H H0 : Heap} {U : State} {locs : List Loc} (hw : aw_Wo D cT A ad h k H U) (hS : va_S A H0 H locs) (hA : ∀ q, H0.size ≤ q → A q) : ∀ q, va_A (aw_ws cT ad h k) H.size q → A q := by
  intro q hq
  rcases hq with ⟨j, e, hj⟩ | hq
  · exact hw.2.1.2 j _ hj
  · exact hA q (Nat.le_trans hS.1 hq)
def aw_Pc (D : va_G) (cT : FieldType → ClassId) (ad : Nat → Nat) (as : List Value) (h : Hp) (k sz : Nat) : Array Value → State → Prop :=
  va_Pc (as.map (aw_cv ad)) (fun U => U.heap.size = sz ∧ (∀ v ∈ as, aw_ok k v) ∧ aw_Wo D cT (va_A (aw_ws cT ad h k) sz) ad h k U.heap U ∧ aw_GF (va_A (aw_ws cT ad h k) sz) U)
theorem aw_blind {D : va_G} {cT : FieldType → ClassId} {ad : Nat → Nat} {as : List Value} {h : Hp} {k sz : Nat} : FrameBlind (aw_Pc D cT ad as h k sz) := by
  intro a U g mk q
  obtain ⟨q0, q1, q2, q3, q4⟩ := q
  exact ⟨q0, q1, q2, ⟨q3.1, q3.2.1, va_K.moved (u := U) (U := U.calling g mk a) (Vm.Alike.refl U.vm) q3.2.2.1, q3.2.2.2⟩, aw_GF.moved (s := U) (U := U.calling g mk a) q4 (State.WarmedH.refl U) (fun _ _ _ => rfl) (fun _ z => z)⟩
theorem aw_pre {D : va_G} {cT : FieldType → ClassId} {A : Nat → Prop} {ad : Nat → Nat} {as : List Value} {h : Hp} {k : Nat} {H : Heap} {s : State} {locs : List Loc} (hw : aw_Wo D cT A ad h k H s) (hS : va_S A s.heap H locs) (hA : ∀ q, s.heap.size ≤ q → A q) (hg : aw_GF A s) (hok : ∀ v ∈ as, aw_ok k v) :
    ∀ U : State, U.heap = H → s.WarmedH U.vm → aw_Pc D cT ad as h k H.size (as.map (aw_cv ad)).toArray U := by
  intro U hU hW
  subst hU
  exact ⟨rfl, rfl, hok, ⟨hw.1, hw.2.1.self, hw.2.2.1.moved hW.alike, hw.2.2.2⟩, hg.moved hW (fun a h1 h2 => hS.2.1 a h1 h2) (aw_free hw hS hA)⟩
/-- behind the callee: the world is the caller's again -/
theorem aw_back {D : va_G} {cT : FieldType → ClassId} {A A1 : Nat → Prop} {ad : Nat → Nat} {h : Hp} {k : Nat} {H : Heap} {s t : State} (hw : aw_Wo D cT A1 ad h k H t) (hvm : s.vm.Alike t.vm) (hA : ∀ q, A1 q → A q) : aw_Wo D cT A ad h k H s :=
  ⟨hw.1, hw.2.1.weaken (fun _ _ _ z => hA _ z), hw.2.2.1.moved hvm.symm, hw.2.2.2⟩
theorem aw_Lv_to {nL : Nat} {ad ad' : Nat → Nat} {k k' : Nat} {ls : Array Slot} {L : List Value} (hl : aw_Lv nL ad k ls L) (e : ∀ i, i < k → ad' i = ad i) (hk : k ≤ k') : aw_Lv nL ad' k' ls L :=
  ⟨hl.1, hl.2.1, fun i v h1 h2 => ⟨by rw [aw_cv_congr (ad := ad) (hl.2.2 i v h1 h2).2 e]; exact (hl.2.2 i v h1 h2).1, aw_ok_le (hl.2.2 i v h1 h2).2 hk⟩⟩
theorem aw_map_to {ad ad' : Nat → Nat} {k : Nat} {S : List Value} (hs : ∀ v ∈ S, aw_ok k v) (e : ∀ i, i < k → ad' i = ad i) : S.map (aw_cv ad') = S.map (aw_cv ad) := List.map_congr_left fun v hv => aw_cv_congr (hs v hv) e
section Rows4
variable {Z : Gz} {μ : Mt} {d k0 mc ms : Nat} {Q : Po} {pc : Nat} {L S : List Value} {h : Hp} {k cs ss : Nat}
/-- at pc, with an exception of the class E thrown -/
def AX (Z : Gz) (μ : Mt) (d k0 mc ms : Nat) (Q : Po) (E : String) (pc : Nat) (L : List Value) (h : Hp) (k cs ss : Nat) : Prop :=
  ∀ (l : Launch) (D : va_G) (cT : FieldType → ClassId) (p : Program) (e : Env) (s : State) (m : MethodId) (args : Array Value) (below : List Frame) (meth : Method) (c : Code) (ad0 ad : Nat → Nat) (A : Nat → Prop) (H : Heap) (locs : List Loc) (ls : Array Slot) (q : Nat) (ce : Cell) (st : List Value),
    aw_Cx Z μ l p s m args meth c ad0 A → (∀ i, i < k0 → ad i = ad0 i) → k0 ≤ k → va_S A s.heap H locs → aw_Wo D cT A ad h k H s → aw_Lv μ.2.2.1 ad k ls L → H[q]? = some ce → ce.vm = .none → s.vm.findClass E = some ce.cls →
    vx_W p l e (aw_R d mc ms) s m args below meth c H locs cs ss (vx_MQ below (aw_Qc D cT A ad0 k0 Q) (aw_Xc D cT A ad0 k0 Q) args s mc ms A) (F0 m pc ls st) q
theorem AX.out {E : String} (hh : μ.2.2.2.2 = []) (hc : cs ≤ mc) (hs2 : ss ≤ ms) (q : Q (.inr E) h k) : AX Z μ d k0 mc ms Q E pc L h k cs ss := by
  intro l D cT p e s m args below meth c ad0 ad A H locs ls q9 ce st hC ha hk hS hw hl hq hv hcl
  obtain ⟨h1, hx, hb, h4, h5, h6, h7, h8, h9, h10, h11, h12⟩ := hC
  refine vx_out (fun x hx => ?_) h6 hq hv hcl (fun t ht hvm => ⟨⟨h, k, ad, q, ha, hk, ?_⟩, hS.F ht⟩) hS.2.2 hc hs2
  · rw [h9, hh] at hx; cases hx
  · rw [ht]; exact ⟨hw.1, hw.2.1, hw.2.2.1.moved hvm, hw.2.2.2⟩
theorem AX.catch_n {E name : String} {x : Nat × Nat × Nat × Nat} {pre suf : List (Nat × Nat × Nat × Nat)} {n : Fin 4} {i : Nat} {L' : List Value} (hh : μ.2.2.2.2 = pre ++ x :: suf) (hE : E ∈ aw_exc)
    (hpre : ∀ z ∈ pre, z.2.2.2 ≠ 0 ∧ ∃ nm ∈ aw_exc, nm ≠ E ∧ Cond.classLink μ.1.cls z.2.2.2 nm ∈ lw_tbl) (h1 : x.1 ≤ pc) (h2 : pc < x.2.1) (h3 : x.2.2.2 ≠ 0) (hlink : Cond.classLink μ.1.cls x.2.2.2 name ∈ lw_tbl) (hcast : Cond.castable E name ∈ lw_tbl)
    (hd : decode μ.2.1 x.2.2.1 = .ok (.astore_n n, 1)) (hi : (n : Nat) = i) (hn : i < μ.2.2.1) (hlow : aw_low L i = true) (hL : L.set i .null = L')
    (K : AW Z μ d k0 mc ms Q (x.2.2.1 + 1) L' [] h k cs ss) : AX Z μ d k0 mc ms Q E pc L h k cs ss := by
  intro l D cT p e s m args below meth c ad0 ad A H locs ls q9 ce st hC ha hk hS hw hl hq hv hcl
  have hg := hC.2.2.2.2.2.2.2.2.2.1
  have hown := hC.2.2.2.2.2.2.2.1
  refine vx_catch (own := μ.1.cls) (name := name) (E := E) (ce := ce) hown (tableOf pre) ⟨x.1, x.2.1, x.2.2.1, x.2.2.2⟩ (tableOf suf) ?_ (fun z hz => ?_) ?_ h3 (aw_hts hg hlink rfl) (aw_hts hg hcast rfl) hq hv hcl ?_
  · rw [hC.2.2.2.2.2.2.2.2.1, hh]
    simp [tableOf]
  · obtain ⟨y, hy, rfl⟩ := List.mem_map.mp hz
    obtain ⟨g1, nm, g2, g3, g4⟩ := hpre y hy
    exact Or.inr ⟨g1, nm, aw_hts hg g4 rfl, hg.2.2.1 E hE nm g2 (Ne.symm g3)⟩
  · simp [covers, h1, h2]
  · refine lv_astore_n (nL := μ.2.2.1) (lv := aw_pairs ad L) hC.2.1 hC.2.2.1 hd hi hl.has hn rfl (fun ls' h' => ?_)
    refine K l D cT p e s m args below meth c ad0 ad A H locs ls' hC ha hk hS hw ?_ (fun v hv => nomatch hv)
    subst hL
    have h'' : lv_has ls' μ.2.2.1 ((i, aw_cv (fun _ => q9) (.ref 0)) :: (aw_pairs ad L).filter (fun q => !(q.1 == i) && !(q.1 + 1 == i && q.2.category == 2))) := h'
    refine ⟨h'.1, h'.2.1, fun j w hj hw' => ?_⟩
    by_cases hji : j = i
    · subst hji
      rw [List.getElem?_set_self (by
        have := (List.getElem?_eq_some_iff.mp hj).1
        rwa [List.length_set] at this)] at hj
      cases hj
      exact absurd rfl hw'
    · rw [List.getElem?_set_ne (Ne.symm hji)] at hj
      refine ⟨h'.2.2 (j, aw_cv ad w) (List.mem_cons_of_mem _ (List.mem_filter.mpr ⟨aw_pairs_in hj hw', ?_⟩)), (hl.2.2 j w hj hw').2⟩
      have e1 : (j == i) = false := by simp [hji]
      have e2 : (j + 1 == i && (aw_cv ad w).category == 2) = false := by
        by_cases e : j + 1 = i
        · subst e
          simp only [aw_low, hj] at hlow
          rw [aw_cat]
          have : w.category = 1 := by simpa using hlow
          simp [this]
        · simp [e]
      simp [e1, e2]
/-- a call that has run, consumed -/
theorem aw_run {l : Launch} {D : va_G} {cT : FieldType → ClassId} {p : Program} {e : Env} {s : State} {m : MethodId} {args : Array Value} {below : List Frame} {meth : Method} {c : Code} {ad0 ad : Nat → Nat} {A : Nat → Prop} {H : Heap} {locs : List Loc} {ls : Array Slot} {a : Array Value} {S' st0 : List Value} {mc' ms' : Nat} {R : Po}
    (hr : vx_Run p l e (aw_R d mc ms) s m args below meth c H locs cs ss mc' ms' (F0 m pc ls st0) (S'.map (aw_cv ad)) (aw_Qc D cT (va_A (aw_ws cT ad h k) H.size) ad k R a) (aw_Xc D cT (va_A (aw_ws cT ad h k) H.size) ad k R) (va_A (aw_ws cT ad h k) H.size))
    (hC : aw_Cx Z μ l p s m args meth c ad0 A) (ha : ∀ i, i < k0 → ad i = ad0 i) (hk : k0 ≤ k) (hS : va_S A s.heap H locs) (hw : aw_Wo D cT A ad h k H s) (hl : aw_Lv μ.2.2.1 ad k ls L) (hs : ∀ v ∈ S', aw_ok k v)
    (K : ∀ (v : Option Value) (h' : Hp) (k' : Nat), R (.inl v) h' k' → AW Z μ d k0 mc ms Q (pc + 3) L (v.toList ++ S') h' k' (cs + mc') (ss + ms'))
    (KX : ∀ (E : String) (h' : Hp) (k' : Nat), R (.inr E) h' k' → AX Z μ d k0 mc ms Q E pc L h' k' (cs + mc') (ss + ms')) :
    W p l e (aw_R d mc ms) s m args below meth c H locs cs ss (vx_MQ below (aw_Qc D cT A ad0 k0 Q) (aw_Xc D cT A ad0 k0 Q) args s mc ms A) (F0 m pc ls st0) := by
  have hF := aw_free hw hS hC.2.2.2.2.2.2.2.2.2.2.1
  intro T hT X
  rcases hr T hT X with ⟨v, st₀, t, T', Lc, h0, X', hL, e1, e2, ⟨⟨v', h', k', ad', ev, hR, g1, g2, g3, g4⟩, hFr⟩, st⟩ | ⟨q, st₀, t, T', Lc, E, ce, h0, X', hL, e1, e2, ⟨⟨h', k', ad', hR, g1, g2, g4⟩, hFr⟩, hce, hcv, hcl, st⟩
  · cases ev
    obtain ⟨k1, k2, k3⟩ := vx_keep h0 e1 hS (fun q _ z => hF q z) hF hL hFr
    rw [← e1] at g4
    have hvm : s.vm.Alike t.vm := by rw [← e2]; exact X'.warmed.alike
    have hW := K v' h' k' hR l D cT p e s m args below meth c ad0 ad' A T'.heap (locs ++ Lc) ls hC (fun i hi => (g1 i (Nat.lt_of_lt_of_le hi hk)).trans (ha i hi)) (Nat.le_trans hk g2) k3 (aw_back g4 hvm hF) (aw_Lv_to hl g1 g2) (fun w hw9 => by
      rcases List.mem_append.mp hw9 with z | z
      · exact g3 w (Option.mem_toList.mp z)
      · exact aw_ok_le (hs w z) g2)
    rw [List.map_append, aw_map_to hs g1] at hW
    have e5 : v'.toList.map (aw_cv ad') = (v'.map (aw_cv ad')).toList := by cases v' <;> rfl
    rw [e5] at hW
    obtain ⟨t2, a1, b1⟩ := hW T' rfl X'
    exact ⟨t2, st t2 a1, b1⟩
  · obtain ⟨k1, k2, k3⟩ := vx_keep h0 e1 hS (fun q _ z => hF q z) hF hL hFr
    rw [← e1] at g4
    have hvm : s.vm.Alike t.vm := by rw [← e2]; exact X'.warmed.alike
    obtain ⟨t2, a1, b1⟩ := KX E h' k' hR l D cT p e s m args below meth c ad0 ad' A T'.heap (locs ++ Lc) ls q ce (S'.map (aw_cv ad)) hC (fun i hi => (g1 i (Nat.lt_of_lt_of_le hi hk)).trans (ha i hi)) (Nat.le_trans hk g2) k3 (aw_back g4 hvm hF) (aw_Lv_to hl g1 g2) (by rw [e1]; exact hce) hcv hcl T' rfl X'
    exact ⟨t2, st.trans a1, b1⟩
/-- what the tables say of a method that is called: no handlers, its code, its class, so many parameters -/
def aw_mok (μ' : Mt) (n : Nat) : Prop := μ'.2.2.2.2 = [] ∧ aw_cw μ' ∈ lw_tbl ∧ Cond.initialized μ'.1.cls ∈ lw_tbl ∧ (μ'.1.cls ≠ "java/lang/invoke/MethodHandle" ∧ μ'.1.cls ≠ "java/lang/invoke/VarHandle") ∧ (parseMethodDescriptor μ'.1.desc).map (fun d => d.parameters.length) = some n ∧ μ'.2.2.1 ≤ 22
theorem aw_callB {μ' : Mt} {d' n index mc' ms' : Nat} {s : State} {args : Array Value} {A : Nat → Prop} (hm : aw_mok μ' n) (hg : aw_GF A s) (hd : d' + 1 ≤ d) (hlink : (Cond.methodLink μ.1.cls index μ'.1).before args s = true) :
    CallB (aw_R d mc ms) s args μ.1.cls index μ'.1 μ'.2.1 μ'.2.2.1 μ'.2.2.2.1 [aw_cw μ'] (aw_R d' mc' ms') mc' ms' n := by
  obtain ⟨m1, m2, m3, m4, m5, m6⟩ := hm
  have hcw : aw_cw μ' = .code μ'.1 μ'.2.1 μ'.2.2.1 μ'.2.2.2.1 := by unfold aw_cw; rw [m1]
  refine ⟨rfl, rfl, ?_, ?_, fun w hw a' U hW => ?_, ?_, ?_, aw_hts hg m3 rfl, m4, fun sig h => ?_, hlink⟩
  · show d' + 20 + 1 ≤ d + 20; omega
  · show 8 + (μ'.2.2.1 + 11) + (41 * d' + 852) ≤ 41 * d + 852; omega
  · rw [List.mem_singleton] at hw
    rw [hw]
    exact aw_stable (by rw [hcw]; rfl) hW (hg.1 _ m2 (by rw [hcw]; rfl))
  · rw [hcw]; exact List.mem_singleton.mpr rfl
  · rw [← hcw]; exact aw_hts hg m2 (by rw [hcw]; rfl)
  · rw [h] at m5; exact (Option.some.inj m5).symm
theorem aw_stW {S' : List Value} {ad : Nat → Nat} {m : MethodId} {ls : Array Slot} {st0 : List Value} (h : (S'.map fun v => v.category).sum ≤ 8) : 2 * (F0 m pc ls st0).monitorRoom + ((S'.map (aw_cv ad)).map fun v => v.category).sum ≤ 8 := by
  have e : ((S'.map (aw_cv ad)).map fun v => v.category) = S'.map fun v => v.category := by
    rw [List.map_map]
    exact List.map_congr_left fun v _ => aw_cat ad v
  rw [e]
  exact lv_room h
theorem aw_rev {as S' : List Value} {ad : Nat → Nat} (hS : S = as.reverse ++ S') : S.map (aw_cv ad) = (as.map (aw_cv ad)).reverse ++ S'.map (aw_cv ad) := by
  rw [hS, List.map_append, List.map_reverse]
theorem AW.callS {μ' : Mt} {d' mc' ms' index n : Nat} {as S' : List Value} {R : Po} (hd : decode μ.2.1 pc = .ok (.invokestatic index, 3)) (hM : AM μ' d' as h k mc' ms' R) (hm : aw_mok μ' n) (hst : Cond.static μ'.1 ∈ lw_tbl) (hlink : Cond.methodLink μ.1.cls index μ'.1 ∈ lw_tbl) (hn : as.length = n) (hd' : d' + 1 ≤ d) (hS2 : S = as.reverse ++ S') (hcat : (S'.map fun v => v.category).sum ≤ 8) (hcs : cs + mc' ≤ mc) (hss : ss + ms' ≤ ms)
    (K : ∀ (v : Option Value) (h' : Hp) (k' : Nat), R (.inl v) h' k' → AW Z μ d k0 mc ms Q (pc + 3) L (v.toList ++ S') h' k' (cs + mc') (ss + ms'))
    (KX : ∀ (E : String) (h' : Hp) (k' : Nat), R (.inr E) h' k' → AX Z μ d k0 mc ms Q E pc L h' k' (cs + mc') (ss + ms')) : AW Z μ d k0 mc ms Q pc L S h k cs ss := by
  intro l D cT p e s m args below meth c ad0 ad A H locs ls hC ha hk hS hw hl hs
  have hg := hC.2.2.2.2.2.2.2.2.2.1
  have hok : ∀ v ∈ as, aw_ok k v := fun v hv => hs v (by rw [hS2]; exact List.mem_append_left _ (List.mem_reverse.mpr hv))
  have hok2 : ∀ v ∈ S', aw_ok k v := fun v hv => hs v (by rw [hS2]; exact List.mem_append_right _ hv)
  have hr := vx_runS (e := e) (below := below) (meth := meth) (As := as.map (aw_cv ad)) (rest := S'.map (aw_cv ad)) (Ts := []) (locs := locs) (cells := cs) (slots := ss) (g := F0 m pc ls (S.map (aw_cv ad))) (nL := μ.2.2.1) ⟨hC.2.1, hC.2.2.1, hC.2.2.2.1, hC.2.2.2.2.2.2.2.1, fun w h => nomatch h⟩ (hM l D cT ad H.size hC.1) ⟨aw_callB (μ := μ) (d := d) (mc := mc) (ms := ms) (d' := d') (mc' := mc') (ms' := ms') hm hg hd' (aw_hts hg hlink rfl), aw_hts (args := args) hg hst rfl⟩ ⟨aw_blind, aw_pre hw hS hC.2.2.2.2.2.2.2.2.2.2.1 hg hok⟩
    rfl (by rw [List.length_map]; exact hn) hl.1 (aw_rev hS2) (aw_stW hcat) hd ⟨hcs, hss⟩
  exact aw_run hr hC ha hk hS hw hl hok2 K KX
theorem AW.callV {μ' : Mt} {d' mc' ms' index n i ci : Nat} {q : vw_C} {fs as S' : List Value} {R : Po} (hd : decode μ.2.1 pc = .ok (.invokevirtual index, 3)) (hM : AM μ' d' (.ref i :: as) h k mc' ms' R) (hm : aw_mok μ' n) (hin : Cond.instanceMethod μ'.1 ∈ lw_tbl) (hsel : Cond.selects μ'.1.cls μ'.1 μ'.1 ∈ lw_tbl) (hlink : Cond.methodLink μ.1.cls index μ'.1 ∈ lw_tbl)
    (h0 : 0 < i) (hh : h i = .inr (ci, fs)) (hc : aw_cl[ci]? = some q) (hq : q.1 = μ'.1.cls) (hn : as.length = n) (hd' : d' + 1 ≤ d) (hS2 : S = as.reverse ++ .ref i :: S') (hcat : (S'.map fun v => v.category).sum ≤ 8) (hcs : cs + mc' ≤ mc) (hss : ss + ms' ≤ ms)
    (K : ∀ (v : Option Value) (h' : Hp) (k' : Nat), R (.inl v) h' k' → AW Z μ d k0 mc ms Q (pc + 3) L (v.toList ++ S') h' k' (cs + mc') (ss + ms'))
    (KX : ∀ (E : String) (h' : Hp) (k' : Nat), R (.inr E) h' k' → AX Z μ d k0 mc ms Q E pc L h' k' (cs + mc') (ss + ms')) : AW Z μ d k0 mc ms Q pc L S h k cs ss := by
  intro l D cT p e s m args below meth c ad0 ad A H locs ls hC ha hk hS hw hl hs
  have hg := hC.2.2.2.2.2.2.2.2.2.1
  have hik : i < k := hs (.ref i) (by rw [hS2]; exact List.mem_append_right _ List.mem_cons_self)
  have hok : ∀ v ∈ Value.ref i :: as, aw_ok k v := fun v hv => by
    rcases List.mem_cons.mp hv with rfl | hv
    · exact hik
    · exact hs v (by rw [hS2]; exact List.mem_append_left _ (List.mem_reverse.mpr hv))
  have hok2 : ∀ v ∈ S', aw_ok k v := fun v hv => hs v (by rw [hS2]; exact List.mem_append_right _ (List.mem_cons_of_mem _ hv))
  have hr := vx_runV (e := e) (below := below) (meth := meth) (As := as.map (aw_cv ad)) (rest := S'.map (aw_cv ad)) (b := ad i) (C := μ'.1.cls) (Ts := []) (locs := locs) (cells := cs) (slots := ss) (g := F0 m pc ls (S.map (aw_cv ad))) (nL := μ.2.2.1) ⟨hC.2.1, hC.2.2.1, hC.2.2.2.1, hC.2.2.2.2.2.2.2.1, fun w h => nomatch h⟩ (hM l D cT ad H.size hC.1) ⟨aw_callB (μ := μ) (d := d) (mc := mc) (ms := ms) (d' := d') (mc' := mc') (ms' := ms') hm hg hd' (aw_hts hg hlink rfl), aw_hts (args := args) hg hin rfl, aw_hts hg hsel rfl⟩
    ⟨aw_blind, by rw [← hq]; exact va_recv hw.2.2.1 hw.1 hc (aw_at_obj h0 hik hh), aw_pre hw hS hC.2.2.2.2.2.2.2.2.2.2.1 hg hok⟩
    rfl (by rw [List.length_map]; exact hn) hl.1 (by show S.map _ = _; rw [hS2, List.map_append, List.map_reverse]; rfl) (aw_stW hcat) hd ⟨hcs, hss⟩
  exact aw_run hr hC ha hk hS hw hl hok2 K KX
/-- a callee that never throws -/
theorem aw_met {l : Launch} {y : MethodName} {ws : List Cond} {rm : Room} {Pc : Array Value → State → Prop} {Qc : Array Value → State → Outcome → State → Prop} {XC : String → State → State → Prop} {mc ms : Nat} {free : Addr → Prop} (hM : vx_Met l y ws rm Pc Qc XC mc ms free) (hX : ∀ E st t, ¬ XC E st t) : Met l y ws rm Pc Qc mc ms free := by
  intro p e ha hc hk s m args below hf happ hP hK
  obtain ⟨n, o, h1, h2, h3, h4⟩ := hM p e ha hc hk s m args below hf happ hP hK
  rcases h4 with h4 | ⟨q, rfl, E, ce, L, hx, -⟩
  · exact ⟨n, o, h1, h2, h3, h4⟩
  · exact absurd hx (hX _ _ _)
theorem aw_unrun {l : Launch} {p : Program} {e : Env} {R : Room} {s : State} {m : MethodId} {args : Array Value} {below : List Frame} {meth : Method} {c : Code} {H : Heap} {locs : List Loc} {cells slots mc ms : Nat} {g : JFrame} {rest : List Value} {Qa : State → Outcome → State → Prop} {XC : String → State → State → Prop} {free : Addr → Prop}
    (hr : va_Run p l e R s m args below meth c H locs cells slots mc ms g rest Qa free) : vx_Run p l e R s m args below meth c H locs cells slots mc ms g rest Qa XC free := fun T hT X => Or.inl (hr T hT X)
theorem AW.callI {μ' : Mt} {d' mc' ms' index n i : Nat} {as S' : List Value} {R : Po} (hd : decode μ.2.1 pc = .ok (.invokespecial index, 3)) (hM : AM μ' d' (.ref i :: as) h k mc' ms' R) (hm : aw_mok μ' n) (hin : Cond.instanceMethod μ'.1 ∈ lw_tbl) (hnm : μ'.1.name = "<init>") (hret : μ'.2.2.2.1 = none) (hlink : Cond.methodLink μ.1.cls index μ'.1 ∈ lw_tbl)
    (hn : as.length = n) (hd' : d' + 1 ≤ d) (hS2 : S = as.reverse ++ .ref i :: S') (hcat : (S'.map fun v => v.category).sum ≤ 8) (hcs : cs + mc' ≤ mc) (hss : ss + ms' ≤ ms) (hX : ∀ E h' k', ¬ R (.inr E) h' k')
    (K : ∀ (v : Option Value) (h' : Hp) (k' : Nat), R (.inl v) h' k' → AW Z μ d k0 mc ms Q (pc + 3) L (v.toList ++ S') h' k' (cs + mc') (ss + ms')) : AW Z μ d k0 mc ms Q pc L S h k cs ss := by
  intro l D cT p e s m args below meth c ad0 ad A H locs ls hC ha hk hS hw hl hs
  have hg := hC.2.2.2.2.2.2.2.2.2.1
  have hik : i < k := hs (.ref i) (by rw [hS2]; exact List.mem_append_right _ List.mem_cons_self)
  have hok : ∀ v ∈ Value.ref i :: as, aw_ok k v := fun v hv => by
    rcases List.mem_cons.mp hv with rfl | hv
    · exact hik
    · exact hs v (by rw [hS2]; exact List.mem_append_left _ (List.mem_reverse.mpr hv))
  have hok2 : ∀ v ∈ S', aw_ok k v := fun v hv => hs v (by rw [hS2]; exact List.mem_append_right _ (List.mem_cons_of_mem _ hv))
  have hMM := aw_met (hM l D cT ad H.size hC.1) (fun E st t hx => by obtain ⟨⟨h', k', ad', hx, -⟩, -⟩ := hx; exact hX _ _ _ hx)
  have hcb := aw_callB (μ := μ) (d := d) (mc := mc) (ms := ms) (d' := d') (mc' := mc') (ms' := ms') hm hg hd' (aw_hts (args := args) hg hlink rfl)
  rw [hret] at hcb
  have hr := va_runI (e := e) (below := below) (meth := meth) (As := as.map (aw_cv ad)) (rest := S'.map (aw_cv ad)) (b := ad i) (Ts := []) (locs := locs) (cells := cs) (slots := ss) (g := F0 m pc ls (S.map (aw_cv ad))) (nL := μ.2.2.1) ⟨hC.2.1, hC.2.2.1, hC.2.2.2.1, hC.2.2.2.2.2.2.2.1, fun w h => nomatch h⟩ hMM ⟨hcb, hnm, aw_hts hg hin rfl⟩
    ⟨aw_blind, aw_pre hw hS hC.2.2.2.2.2.2.2.2.2.2.1 hg hok⟩
    rfl (by rw [List.length_map]; exact hn) hl.1 (by show S.map _ = _; rw [hS2, List.map_append, List.map_reverse]; rfl) (aw_stW hcat) hd ⟨hcs, hss⟩
  exact aw_run (aw_unrun hr) hC ha hk hS hw hl hok2 K (fun E h' k' hx => absurd hx (hX _ _ _))
end Rows4
end
section
/-! AW: methods with handlers, nest mates, throws, Object.<init>, System.arraycopy -/
set_option maxHeartbeats 4000000 in
theorem AM.introH {μ : Mt} {d n : Nat} {as L : List Value} {h : Hp} {k mc ms : Nat} {Q : Po} (hy : plainName μ.1.cls = true) (hcw : aw_cw μ = .codeWith μ.1 μ.2.1 μ.2.2.1 μ.2.2.2.1 μ.2.2.2.2) (hn : (aw_loc as).length + n = μ.2.2.1) (hL : aw_loc as ++ List.replicate n .null = L)
    (K : AW aw_Z0 μ d k mc ms Q 0 L [] h k 0 0) : AM μ d as h k mc ms Q := by
  intro l D cT ad sz hl
  refine vx_ofWH (cc := μ.2.1) (maxL := μ.2.2.1) (ret := μ.2.2.2.1) (hh := μ.2.2.2.2) (ws' := []) hy (by rw [hcw]) ?_
  intro p e s m args below meth c s₁ B hml hv
  obtain ⟨rfl, hsz, hok, hw, hg⟩ := hv
  subst hsz
  have hnm := (name_of_methodNamed B.named B.method).1
  have htb := vx_table (x := μ.1) B (atoms_spec (ws := [aw_cw μ]) B.pre (.codeWith μ.1 μ.2.1 μ.2.2.1 μ.2.2.2.1 μ.2.2.2.2) (by rw [hcw]; exact List.mem_cons_self))
  rw [lg_entry_eq]
  exact K l D cT p e s m _ below meth c ad ad _ s.heap [] _ ⟨hl, B.exec, B.bytes, hml, B.returns, B.notSynchronized, hnm, findClass_of_methodNamed B.named, htb, hg, fun q hq => Or.inr hq, trivial⟩ (fun _ _ => rfl) (Nat.le_refl _) va_S.rf hw (aw_entry hn hL hok) (fun v hv => nomatch hv)
section Rows5
variable {Z : Gz} {μ : Mt} {d k0 mc ms : Nat} {Q : Po} {pc : Nat} {L S : List Value} {h : Hp} {k cs ss : Nat}
def aw_mokH (μ' : Mt) (n : Nat) : Prop := aw_cw μ' = .codeWith μ'.1 μ'.2.1 μ'.2.2.1 μ'.2.2.2.1 μ'.2.2.2.2 ∧ aw_cw μ' ∈ lw_tbl ∧ Cond.initialized μ'.1.cls ∈ lw_tbl ∧ (μ'.1.cls ≠ "java/lang/invoke/MethodHandle" ∧ μ'.1.cls ≠ "java/lang/invoke/VarHandle") ∧ (parseMethodDescriptor μ'.1.desc).map (fun d => d.parameters.length) = some n ∧ μ'.2.2.1 ≤ 22
theorem AW.callSH {μ' : Mt} {d' mc' ms' index n : Nat} {as S' : List Value} {R : Po} (hd : decode μ.2.1 pc = .ok (.invokestatic index, 3)) (hM : AM μ' d' as h k mc' ms' R) (hm : aw_mokH μ' n) (hst : Cond.static μ'.1 ∈ lw_tbl) (hlink : Cond.methodLink μ.1.cls index μ'.1 ∈ lw_tbl) (hn : as.length = n) (hd' : d' + 1 ≤ d) (hS2 : S = as.reverse ++ S') (hcat : (S'.map fun v => v.category).sum ≤ 8) (hcs : cs + mc' ≤ mc) (hss : ss + ms' ≤ ms)
    (K : ∀ (v : Option Value) (h' : Hp) (k' : Nat), R (.inl v) h' k' → AW Z μ d k0 mc ms Q (pc + 3) L (v.toList ++ S') h' k' (cs + mc') (ss + ms'))
    (KX : ∀ (E : String) (h' : Hp) (k' : Nat), R (.inr E) h' k' → AX Z μ d k0 mc ms Q E pc L h' k' (cs + mc') (ss + ms')) : AW Z μ d k0 mc ms Q pc L S h k cs ss := by
  intro l D cT p e s m args below meth c ad0 ad A H locs ls hC ha hk hS hw hl hs
  have hg := hC.2.2.2.2.2.2.2.2.2.1
  have hok : ∀ v ∈ as, aw_ok k v := fun v hv => hs v (by rw [hS2]; exact List.mem_append_left _ (List.mem_reverse.mpr hv))
  have hok2 : ∀ v ∈ S', aw_ok k v := fun v hv => hs v (by rw [hS2]; exact List.mem_append_right _ hv)
  obtain ⟨m1, m2, m3, m4, m5, m6⟩ := hm
  have hcw : vx_CSW (aw_R d mc ms) s args μ.1.cls index μ'.1 μ'.2.1 μ'.2.2.1 μ'.2.2.2.1 μ'.2.2.2.2 [aw_cw μ'] (aw_R d' mc' ms') mc' ms' n := by
    refine ⟨⟨rfl, rfl, ?_, ?_, fun w hw a' U hW => ?_, ?_⟩, ?_, aw_hts hg m3 rfl, m4, fun sig h => ?_, aw_hts hg hlink rfl, aw_hts hg hst rfl⟩
    · show d' + 20 + 1 ≤ d + 20; omega
    · show 8 + (μ'.2.2.1 + 11) + (41 * d' + 852) ≤ 41 * d + 852; omega
    · rw [List.mem_singleton] at hw
      rw [hw]
      exact aw_stable (by rw [m1]; rfl) hW (hg.1 _ m2 (by rw [m1]; rfl))
    · rw [m1]; exact List.mem_singleton.mpr rfl
    · rw [← m1]; exact aw_hts hg m2 (by rw [m1]; rfl)
    · rw [h] at m5; exact (Option.some.inj m5).symm
  have hr := vx_runSX (e := e) (below := below) (meth := meth) (As := as.map (aw_cv ad)) (rest := S'.map (aw_cv ad)) (Ts := []) (locs := locs) (cells := cs) (slots := ss) (g := F0 m pc ls (S.map (aw_cv ad))) (nL := μ.2.2.1) ⟨hC.2.1, hC.2.2.1, hC.2.2.2.1, hC.2.2.2.2.2.2.2.1, fun w h => nomatch h⟩ (hM l D cT ad H.size hC.1) hcw ⟨aw_blind, aw_pre hw hS hC.2.2.2.2.2.2.2.2.2.2.1 hg hok⟩
    rfl (by rw [List.length_map]; exact hn) hl.1 (aw_rev hS2) (aw_stW hcat) hd ⟨hcs, hss⟩
  exact aw_run hr hC ha hk hS hw hl hok2 K KX
theorem aw_callN {μ' : Mt} {d' n index mc' ms' : Nat} {host : String} {s : State} {args : Array Value} {A : Nat → Prop} (hm : aw_mok μ' n) (hg : aw_GF A s) (hd : d' + 1 ≤ d) (hlink : (Cond.methodLinkNest μ.1.cls index μ'.1 host).before args s = true) :
    va_CN (aw_R d mc ms) s args μ.1.cls index μ'.1 host μ'.2.1 μ'.2.2.1 μ'.2.2.2.1 [aw_cw μ'] (aw_R d' mc' ms') mc' ms' n := by
  obtain ⟨m1, m2, m3, m4, m5, m6⟩ := hm
  have hcw : aw_cw μ' = .code μ'.1 μ'.2.1 μ'.2.2.1 μ'.2.2.2.1 := by unfold aw_cw; rw [m1]
  refine ⟨⟨rfl, rfl, ?_, ?_, fun w hw a' U hW => ?_, ?_⟩, ?_, aw_hts hg m3 rfl, m4, fun sig h => ?_, hlink⟩
  · show d' + 20 + 1 ≤ d + 20; omega
  · show 8 + (μ'.2.2.1 + 11) + (41 * d' + 852) ≤ 41 * d + 852; omega
  · rw [List.mem_singleton] at hw
    rw [hw]
    exact aw_stable (by rw [hcw]; rfl) hW (hg.1 _ m2 (by rw [hcw]; rfl))
  · rw [hcw]; exact List.mem_singleton.mpr rfl
  · rw [← hcw]; exact aw_hts hg m2 (by rw [hcw]; rfl)
  · rw [h] at m5; exact (Option.some.inj m5).symm
theorem AW.callSN {μ' : Mt} {d' mc' ms' index n : Nat} {host : String} {as S' : List Value} {R : Po} (hd : decode μ.2.1 pc = .ok (.invokestatic index, 3)) (hM : AM μ' d' as h k mc' ms' R) (hm : aw_mok μ' n) (hst : Cond.static μ'.1 ∈ lw_tbl) (hlink : Cond.methodLinkNest μ.1.cls index μ'.1 host ∈ lw_tbl) (hn : as.length = n) (hd' : d' + 1 ≤ d) (hS2 : S = as.reverse ++ S') (hcat : (S'.map fun v => v.category).sum ≤ 8) (hcs : cs + mc' ≤ mc) (hss : ss + ms' ≤ ms) (hX : ∀ E h' k', ¬ R (.inr E) h' k')
    (K : ∀ (v : Option Value) (h' : Hp) (k' : Nat), R (.inl v) h' k' → AW Z μ d k0 mc ms Q (pc + 3) L (v.toList ++ S') h' k' (cs + mc') (ss + ms')) : AW Z μ d k0 mc ms Q pc L S h k cs ss := by
  intro l D cT p e s m args below meth c ad0 ad A H locs ls hC ha hk hS hw hl hs
  have hg := hC.2.2.2.2.2.2.2.2.2.1
  have hok : ∀ v ∈ as, aw_ok k v := fun v hv => hs v (by rw [hS2]; exact List.mem_append_left _ (List.mem_reverse.mpr hv))
  have hok2 : ∀ v ∈ S', aw_ok k v := fun v hv => hs v (by rw [hS2]; exact List.mem_append_right _ hv)
  have hMM := aw_met (hM l D cT ad H.size hC.1) (fun E st t hx => by obtain ⟨⟨h', k', ad', hx, -⟩, -⟩ := hx; exact hX _ _ _ hx)
  have hr := va_runSN (e := e) (below := below) (meth := meth) (As := as.map (aw_cv ad)) (rest := S'.map (aw_cv ad)) (Ts := []) (locs := locs) (cells := cs) (slots := ss) (g := F0 m pc ls (S.map (aw_cv ad))) (nL := μ.2.2.1) ⟨hC.2.1, hC.2.2.1, hC.2.2.2.1, hC.2.2.2.2.2.2.2.1, fun w h => nomatch h⟩ hMM ⟨aw_callN (μ := μ) (d := d) (mc := mc) (ms := ms) (d' := d') (mc' := mc') (ms' := ms') hm hg hd' (aw_hts (args := args) hg hlink rfl), aw_hts (args := args) hg hst rfl, trivial⟩ ⟨aw_blind, aw_pre hw hS hC.2.2.2.2.2.2.2.2.2.2.1 hg hok⟩
    rfl (by rw [List.length_map]; exact hn) hl.1 (aw_rev hS2) (aw_stW hcat) hd ⟨hcs, hss⟩
  exact aw_run (aw_unrun hr) hC ha hk hS hw hl hok2 K (fun E h' k' hx => absurd hx (hX _ _ _))
theorem AW.callIN {μ' : Mt} {d' mc' ms' index n i : Nat} {host : String} {as S' : List Value} {R : Po} (hd : decode μ.2.1 pc = .ok (.invokespecial index, 3)) (hM : AM μ' d' (.ref i :: as) h k mc' ms' R) (hm : aw_mok μ' n) (hin : Cond.instanceMethod μ'.1 ∈ lw_tbl) (hnm : μ'.1.name = "<init>") (hret : μ'.2.2.2.1 = none) (hlink : Cond.methodLinkNest μ.1.cls index μ'.1 host ∈ lw_tbl)
    (hn : as.length = n) (hd' : d' + 1 ≤ d) (hS2 : S = as.reverse ++ .ref i :: S') (hcat : (S'.map fun v => v.category).sum ≤ 8) (hcs : cs + mc' ≤ mc) (hss : ss + ms' ≤ ms) (hX : ∀ E h' k', ¬ R (.inr E) h' k')
    (K : ∀ (v : Option Value) (h' : Hp) (k' : Nat), R (.inl v) h' k' → AW Z μ d k0 mc ms Q (pc + 3) L (v.toList ++ S') h' k' (cs + mc') (ss + ms')) : AW Z μ d k0 mc ms Q pc L S h k cs ss := by
  intro l D cT p e s m args below meth c ad0 ad A H locs ls hC ha hk hS hw hl hs
  have hg := hC.2.2.2.2.2.2.2.2.2.1
  have hik : i < k := hs (.ref i) (by rw [hS2]; exact List.mem_append_right _ List.mem_cons_self)
  have hok : ∀ v ∈ Value.ref i :: as, aw_ok k v := fun v hv => by
    rcases List.mem_cons.mp hv with rfl | hv
    · exact hik
    · exact hs v (by rw [hS2]; exact List.mem_append_left _ (List.mem_reverse.mpr hv))
  have hok2 : ∀ v ∈ S', aw_ok k v := fun v hv => hs v (by rw [hS2]; exact List.mem_append_right _ (List.mem_cons_of_mem _ hv))
  have hMM := aw_met (hM l D cT ad H.size hC.1) (fun E st t hx => by obtain ⟨⟨h', k', ad', hx, -⟩, -⟩ := hx; exact hX _ _ _ hx)
  have hcb := aw_callN (μ := μ) (d := d) (mc := mc) (ms := ms) (d' := d') (mc' := mc') (ms' := ms') hm hg hd' (aw_hts (args := args) hg hlink rfl)
  rw [hret] at hcb
  have hr := va_runIN (e := e) (below := below) (meth := meth) (As := as.map (aw_cv ad)) (rest := S'.map (aw_cv ad)) (b := ad i) (Ts := []) (locs := locs) (cells := cs) (slots := ss) (g := F0 m pc ls (S.map (aw_cv ad))) (nL := μ.2.2.1) ⟨hC.2.1, hC.2.2.1, hC.2.2.2.1, hC.2.2.2.2.2.2.2.1, fun w h => nomatch h⟩ hMM ⟨hcb, hnm, aw_hts hg hin rfl⟩
    ⟨aw_blind, aw_pre hw hS hC.2.2.2.2.2.2.2.2.2.2.1 hg hok⟩
    rfl (by rw [List.length_map]; exact hn) hl.1 (by show S.map _ = _; rw [hS2, List.map_append, List.map_reverse]; rfl) (aw_stW hcat) hd ⟨hcs, hss⟩
  exact aw_run (aw_unrun hr) hC ha hk hS hw hl hok2 K (fun E h' k' hx => absurd hx (hX _ _ _))
theorem AW.objInit {i index : Nat} (hd : decode μ.2.1 pc = .ok (.invokespecial index, 3)) (hlink : Cond.methodLink μ.1.cls index objectInit ∈ lw_tbl) (hin : Cond.instanceMethod objectInit ∈ lw_tbl) (hcode : Cond.code objectInit ⟨#[0xb1]⟩ 1 none ∈ lw_tbl) (hcat : (S.map fun v => v.category).sum ≤ 8)
    (K : AW Z μ d k0 mc ms Q (pc + 3) L S h k cs ss) : AW Z μ d k0 mc ms Q pc L (.ref i :: S) h k cs ss := by
  intro l D cT p e s m args below meth c ad0 ad A H locs ls hC ha hk hS hw hl hs
  have hg := hC.2.2.2.2.2.2.2.2.2.1
  have h8 := aw_stW (m := m) (pc := pc) (ls := ls) (st0 := []) (ad := ad) hcat
  refine W.objInit hC.2.1 hC.2.2.1 hC.2.2.2.2.2.2.2.1 (aw_hts hg hlink rfl) (aw_hts hg hin rfl) (aw_hts hg hcode rfl) rfl (by rw [hC.2.2.2.1]; exact hl.1) rfl hd (by show 1 ≤ d + 20; omega) ?_ ?_
  · have h9 : 2 * (F0 m pc ls []).monitorRoom + ((S.map (aw_cv ad)).map fun v => v.category).sum ≤ 8 := h8
    show 2 * (F0 m pc ls []).monitorRoom + ((S.map (aw_cv ad)).map fun v => v.category).sum + 12 ≤ 41 * d + 852
    omega
  · exact K l D cT p e s m args below meth c ad0 ad A H locs ls hC ha hk hS hw hl (aw_ok_tail hs)
/-- 'throw new E("text")', E one of the three, in a method without handlers -/
theorem AW.throwS {E text : String} {names : List String} {ik is ic : Nat} (d0 : decode μ.2.1 pc = .ok (.new ik, 3)) (d3 : decode μ.2.1 (pc + 3) = .ok (.dup, 1)) (d4 : decode μ.2.1 (pc + 4) = .ok (.ldc is, 2)) (d6 : decode μ.2.1 (pc + 6) = .ok (.invokespecial ic, 3)) (d9 : decode μ.2.1 (pc + 9) = .ok (.athrow, 1))
    (hh : μ.2.2.2.2 = []) (hfit : Bundle.fit E = true) (hnames : ∀ n ∈ names, Bundle.fit n = true) (hlen : names.length = 2) (hk : Cond.classLink μ.1.cls ik E ∈ lw_tbl) (hini : Cond.initialized E ∈ lw_tbl) (hstr : (μ.1.cls, is, text) ∈ aw_str) (hat : ∀ w ∈ vx_atS μ.1.cls ic E names, w ∈ lw_tbl ∧ aw_okw w = true)
    (hgood : ∀ w ∈ Cond.classLink μ.1.cls ik E :: Cond.initialized E :: vx_atS μ.1.cls ic E names, vx_ot w = true) (hcat : (S.map fun v => v.category).sum ≤ 8) (hcs : cs + 1 ≤ mc) (hss : ss + 6 ≤ ms) (q : Q (.inr E) h k) : AW Z μ d k0 mc ms Q pc L S h k cs ss := by
  intro l D cT p e s m args below meth c ad0 ad A H locs ls hC ha hk2 hS hw hl hs
  have hg := hC.2.2.2.2.2.2.2.2.2.1
  obtain ⟨sa, hsa⟩ := hg.2.1 _ hstr
  have hcat2 : ((S.map (aw_cv ad)).map fun v => v.category).sum ≤ 8 := by
    have e : ((S.map (aw_cv ad)).map fun v => v.category) = S.map fun v => v.category := by
      rw [List.map_map]
      exact List.map_congr_left fun v _ => aw_cat ad v
    rw [e]; exact hcat
  refine vx_throwS (own := μ.1.cls) (cls := E) (names := names) (text := text) (sa := sa) (ik := ik) (is := is) (ic := ic) (A := A) hC.2.1 hC.2.2.1 hC.1 hC.2.2.2.2.2.2.2.1 hfit hnames (aw_hts hg hk rfl) (aw_hts hg hini rfl) hsa (fun w hw => aw_hts hg (hat w hw).1 (hat w hw).2) hgood hg.2.2.2.1 hg.2.2.2.2 hS (by rw [hC.2.2.2.1]; exact hl.1) d0 d3 d4 d6 d9 (fun x hx => ?_)
    (by show names.length + 3 < d + 20; omega) (by show _ + (13 * (names.length + 1) + 43) ≤ 41 * d + 852; omega) hcs hss hC.2.2.2.2.2.1 (fun t hvm hz ho => ⟨⟨h, k, ad, q, ha, hk2, ?_⟩, ?_⟩) hS.2.2 hcs hss
  · rw [hC.2.2.2.2.2.2.2.2.1, hh] at hx; cases hx
  · exact ⟨hw.1.kept (fun j x hx => ho x.1 ((hw.1 j x hx).lt)), hw.2.1, hw.2.2.1.moved hvm, hw.2.2.2⟩
  · exact ⟨Nat.le_trans hS.1 hz, fun x h1 h2 => (ho x (Nat.lt_of_lt_of_le h1 hS.1)).trans (hS.2.1 x h1 h2)⟩
theorem AW.copyi {i j n0 n1 index : Nat} {f g : Nat → Int32} {sp dp n : Int32} (hd : decode μ.2.1 pc = .ok (.invokestatic index, 3)) (hlink : Cond.methodLink μ.1.cls index arraycopyName ∈ lw_tbl) (hnat : Cond.native arraycopyName ∈ lw_tbl) (hst : Cond.static arraycopyName ∈ lw_tbl) (hini : Cond.initialized "java/lang/System" ∈ lw_tbl)
    (i0 : 0 < i) (j0 : 0 < j) (hi : h i = .inl (.int, n0, .inl f)) (hj : h j = .inl (.int, n1, .inl g)) (h1 : ¬ sp < 0) (h2 : ¬ dp < 0) (h3 : ¬ n < 0) (h4 : sp.toNatClampNeg + n.toNatClampNeg ≤ n0) (h5 : dp.toNatClampNeg + n.toNatClampNeg ≤ n1) (hcat : (S.map fun v => v.category).sum ≤ 8)
    (K : AW Z μ d k0 mc ms Q (pc + 3) L S (va_up h j (.inl (.int, n1, .inl (va_cpy f g sp.toNatClampNeg dp.toNatClampNeg n.toNatClampNeg)))) k cs ss) : AW Z μ d k0 mc ms Q pc L (.int n :: .int dp :: .ref j :: .int sp :: .ref i :: S) h k cs ss := by
  intro l D cT p e s m args below meth c ad0 ad A H locs ls hC ha hk hS hw hl hs
  have hg := hC.2.2.2.2.2.2.2.2.2.1
  have hjk : j < k := hs (.ref j) (by simp)
  have hik : i < k := hs (.ref i) (by simp)
  have hcat2 : ((S.map (aw_cv ad)).map fun v => v.category).sum ≤ 8 := by
    have e : ((S.map (aw_cv ad)).map fun v => v.category) = S.map fun v => v.category := by
      rw [List.map_map]
      exact List.map_congr_left fun v _ => aw_cat ad v
    rw [e]; exact hcat
  have hnw : nativeFrameWords "java/lang/System" "arraycopy" 5 + 11 ≤ 100 := by decide
  exact va_copyi hC.2.1 hC.2.2.1 (by rw [hC.2.2.2.1]; exact hl.1.symm) hC.2.2.2.2.2.2.2.1 (aw_hts hg hlink rfl) (aw_hts hg hnat rfl) (aw_hts hg hst rfl) (aw_hts hg hini rfl) hw.2.2.1 hw.1 hw.2.1 hS (i - 1) (j - 1) 0 0 (aw_at_arr i0 hik hi) (aw_at_arr j0 hjk hj) rfl rfl rfl h1 h2 h3 h4 h5 (fun _ _ => rfl)
    (by show 1 ≤ d + 20; omega) (by show _ + _ ≤ 41 * d + 852; omega) hd (fun H1 locs1 hP hD hS1 => K l D cT p e s m args below meth c ad0 ad A H1 locs1 ls hC ha hk hS1 (aw_Wo_set (e := .inl (.int, n1, .inl (va_cpy f g sp.toNatClampNeg dp.toNatClampNeg n.toNatClampNeg))) hw j0 hjk trivial hP hD) hl (aw_ok_tail (aw_ok_tail (aw_ok_tail (aw_ok_tail (aw_ok_tail hs))))))
end Rows5
end
section
/-! THE CLAIM OUT OF ONE WALK OF THE LAW'S BODY. Your part is whole_start (and what it stands on); all else here is the same for every law, but numbers. -/
def R_law : String := "FoundryNineLaw"
def lw_P (b : Addr) (xs : List Int32) (args : Array Value) (s : State) : Prop := args = #[.ref b] ∧ s.IntsAt b xs ∧ xs.length ≤ 3584 ∧ (Jvm.Cond.and given_1 narrow_1).before args s = true
/-- what a walk over the start with the record d0 says of its end, said of the start itself -/
theorem lw_closed {s t : State} {o : Outcome} {d0 : Drawn} {L : List Loc} {k n : Nat} (hd0 : s.drawn.sameBut d0 lw_cs) (hv : ∃ v, o = .returned v) (hW : (s.setDrawn d0).WarmedH t.vm) (hs : (s.setDrawn d0).sameButNew ({ t with vm := s.vm } : State) L k n) : State.butDraws s t lw_cs (fun t1 => Framed s o t1 L k n) := by
  have h2 : t.drawn = d0 := congrArg State.drawn hs.1
  refine ⟨⟨hv, hW, State.sameButNew.setDrawn hs s.drawn⟩, ?_, by decide⟩
  rw [h2]
  exact hd0
def lw_Q (_ : Array Value) (s : State) (o : Outcome) (t : State) : Prop := o = .returned (some (.int 1)) ∧ State.butDraws s t lw_cs (fun t1 => Framed s o t1 [] 601024 7293034)
def lw_Z (below : List Frame) (a : Array Value) (s : State) : State → Prop := fun t => ∃ o, t.status = .running ∧ Ended t below o ∧ lw_Q a s o t
/-- the law's own end, with 1 on the stack, nothing written that was there before, its room as the claim has it; d0: the record of draws at this point (at the entry s.drawn: begin with 'refine W.base ?_' and 'have hd0 := Drawn.sameBut.refl s.drawn lw_cs') -/
theorem lw_ret {p : Program} {l : Launch} {e : Env} {s : State} {m : MethodId} {below : List Frame} {meth : Method} {c : Code} {b : Nat} {d0 : Drawn} (hd0 : s.drawn.sameBut d0 lw_cs) (hx : p.tables.exec = Jvm.exec) (hb : c.code = code) (hr : meth.sig.returnType = ret) (hlocks : meth.locks = false) {pc : Nat} {H : Heap} {ls : Array Slot} (hdg : decode code pc = .ok (.ireturn, 1)) : W p l e room_1 (s.setDrawn d0) m #[Value.ref b] below meth c H [] 601024 7293034 (lw_Z below #[Value.ref b] s) (F0 m pc ls [.int 1]) := by
  intro T hT X
  obtain ⟨fs, hret, hrun, hended, hW, hframe⟩ := X.leave (v := some (.int 1)) (hlocks := hlocks) (fun h => by rw [hr] at h; cases h)
  have hmeth' : T.vm.method? m = some meth := X.method'
  refine ⟨T.setFrames fs, ?_, .returned (some (.int 1)), hrun, hended, rfl, lw_closed hd0 ⟨_, rfl⟩ hW hframe⟩
  jvm_step X.here [X.here.top, hx, hb, hdg, hmeth', hr, ret, narrow_b1]
  (try refine ⟨rfl, ?_⟩); (try refine ⟨rfl, ?_⟩)
  first | (intro acts; rw [hret _ acts rfl rfl rfl]) | rw [hret _ _ rfl rfl rfl]
  exact Steps.refl _
/-- what holds at the law's entry: the machine, the code, the tables' words (any of lw_tbl by 'hts w (by decide +kernel)'), the script of L ints xs at the cell b, what the Statement gives of the start (any of its parts by flat_of_before) -/
def lw_At (p : Program) (s : State) (m : MethodId) (meth : Method) (c : Code) (b L : Nat) (xs : Nat → Int32) : Prop :=
  p.tables.exec = Jvm.exec ∧ c.code = code ∧ meth.sig.returnType = ret ∧ c.maxLocals = 9 ∧ s.vm.findClass R_law = some m.cls ∧ (∀ w ∈ lw_tbl, w.before #[Value.ref b] s = true) ∧ va_X b L xs s s.heap ∧ b < s.heap.size ∧ meth.locks = false ∧ (Jvm.Cond.and given_1 narrow_1).before #[Value.ref b] s = true
/-! AW: the law's own start and end -/
theorem aw_ex0 : ∀ q ∈ aw_str, Cond.exactly (.string q.1 q.2.1) "java/lang/String" ∈ flatC (Jvm.Cond.and given_1 narrow_1) := by decide +kernel
theorem aw_nc0 : ∀ x ∈ aw_exc, ∀ y ∈ aw_exc, x ≠ y → Cond.not (.castable x y) ∈ flatC (Jvm.Cond.and given_1 narrow_1) := by decide +kernel
theorem aw_th0 : Cond.laysStatic Bundle.tN "UNASSIGNED_STACK" Bundle.steD ∈ lw_tbl ∧ Cond.laysStatic Bundle.tN "SUPPRESSED_SENTINEL" Bundle.listD ∈ lw_tbl ∧ Cond.initialized Bundle.tN ∈ lw_tbl ∧
    Cond.isRef (.static Bundle.tN "UNASSIGNED_STACK" Bundle.steD) ∈ flatC (Jvm.Cond.and given_1 narrow_1) ∧ Cond.isRef (.static Bundle.tN "SUPPRESSED_SENTINEL" Bundle.listD) ∈ flatC (Jvm.Cond.and given_1 narrow_1) := by decide +kernel
theorem aw_GF0 {args : Array Value} {s : State} (hts : ∀ w ∈ lw_tbl, w.before args s = true) (hgv : (Jvm.Cond.and given_1 narrow_1).before args s = true) : aw_GF (fun q => s.heap.size ≤ q) s := by
  have hf := flat_of_before _ hgv
  refine ⟨fun w hw ho => aw_stable ho (State.WarmedH.refl s) (hts w hw), fun q hq => ?_, fun x hx y hy hxy => va_Nc.of (hf _ (aw_nc0 x hx y hy hxy)), ?_, ?_⟩
  · obtain ⟨w, hw, he⟩ := List.mem_filterMap.mp hq
    have h1 := hts w hw
    have h2 := hf _ (aw_ex0 q hq)
    obtain ⟨a, c, cell, k, h3, -⟩ := Cond.exactly_spec h2
    cases w <;> first | (cases he) | skip
    exact ⟨a, vk_R.of h1 h3⟩
  · exact vx_Zqof (hts _ aw_th0.1) (hts _ aw_th0.2.2.1) (hf _ aw_th0.2.2.2.1) (fun a h1 h2 => Nat.not_lt.mpr h2 h1)
  · exact vx_Zqof (hts _ aw_th0.2.1) (hts _ aw_th0.2.2.1) (hf _ aw_th0.2.2.2.2) (fun a h1 h2 => Nat.not_lt.mpr h2 h1)
theorem aw_arr0 {args : Array Value} {s : State} {ty : FieldType} (h : (Cond.arrayClass ty).before args s = true) : ∃ c, ArrOfT s c ty ∧ s.vm.findClass ("[" ++ ty.toString) = some c := by
  obtain ⟨c, k, comp, h1, h2, h3⟩ := Cond.arrayClass_spec h
  exact ⟨c, fun n z => ⟨fun q hq => (by cases hq), k, h2, comp, h3⟩, h1⟩
theorem aw_ar0 : Cond.arrayClass .int ∈ lw_tbl ∧ Cond.arrayClass .boolean ∈ lw_tbl ∧ Cond.arrayClass .long ∈ lw_tbl ∧ Cond.instantiable RX0 1 ∈ lw_tbl ∧ Cond.instantiable RX1 12 ∈ lw_tbl ∧ Cond.instantiable RX2 6 ∈ lw_tbl ∧ Cond.instantiable RX3 18 ∈ lw_tbl ∧ Cond.instantiable RX4 7 ∈ lw_tbl ∧ Cond.instantiable RX5 16 ∈ lw_tbl := by decide +kernel
theorem aw_K0 {args : Array Value} {s : State} (hts : ∀ w ∈ lw_tbl, w.before args s = true) : ∃ (D : va_G) (cT : FieldType → ClassId), va_K D aw_cl (aw_tys cT) s := by
  obtain ⟨a1, a2, a3, i0, i1, i2, i3, i4, i5⟩ := aw_ar0
  obtain ⟨t1, t1a, t1b⟩ := aw_arr0 (hts _ a1)
  obtain ⟨t2, t2a, t2b⟩ := aw_arr0 (hts _ a2)
  obtain ⟨t3, t3a, t3b⟩ := aw_arr0 (hts _ a3)
  obtain ⟨c0, s0, k0⟩ := u_known hts (fun w h => (aw_cw0 w h).1) (hts _ i0)
  obtain ⟨c1, s1, k1⟩ := u_known hts (fun w h => (aw_cw1 w h).1) (hts _ i1)
  obtain ⟨c2, s2, k2⟩ := u_known hts (fun w h => (aw_cw2 w h).1) (hts _ i2)
  obtain ⟨c3, s3, k3⟩ := u_known hts (fun w h => (aw_cw3 w h).1) (hts _ i3)
  obtain ⟨c4, s4, k4⟩ := u_known hts (fun w h => (aw_cw4 w h).1) (hts _ i4)
  obtain ⟨c5, s5, k5⟩ := u_known hts (fun w h => (aw_cw5 w h).1) (hts _ i5)
  refine ⟨(fun k => [c0, c1, c2, c3, c4, c5].getD k 0, fun k => [s0, s1, s2, s3, s4, s5].getD k (fun _ => 0)), fun t => match t with | .int => t1 | .boolean => t2 | _ => t3, ?_, ?_⟩
  · intro k q hq
    match k, hq with
    | 0, hq => cases hq; exact k0
    | 1, hq => cases hq; exact k1
    | 2, hq => cases hq; exact k2
    | 3, hq => cases hq; exact k3
    | 4, hq => cases hq; exact k4
    | 5, hq => cases hq; exact k5
    | k + 6, hq => simp at hq
  · intro k q hq
    match k, hq with
    | 0, hq => cases hq; exact ⟨t1a, t1b⟩
    | 1, hq => cases hq; exact ⟨t2a, t2b⟩
    | 2, hq => cases hq; exact ⟨t3a, t3b⟩
    | k + 3, hq => simp [aw_tys] at hq
theorem aw_room_le {s : State} {pl : Platform} {r r' : Room} (hf : r.frames ≤ r'.frames) (hl : r.locals ≤ r'.locals) (hc : r.cells ≤ r'.cells) (hs : r.slots ≤ r'.slots) (h : s.hasRoom pl r' = true) : s.hasRoom pl r = true := by
  simp only [State.hasRoom, Bool.and_eq_true, decide_eq_true_eq] at h ⊢
  obtain ⟨⟨⟨⟨h1, h2, h3, h4, h5, h6⟩, h7⟩, h8⟩, h9⟩ := h
  exact ⟨⟨⟨⟨by omega, by omega, by omega, by omega, by omega, h6⟩, by omega⟩, by omega⟩, h9⟩
abbrev mlaw : Mt := (x, code, 9, ret, [])
/-- the script, at id 0 -/
def aw_ZL (L : Nat) (xs : Nat → Int32) : Gz := fun s A ad0 => va_X (ad0 0) L xs s s.heap ∧ ad0 0 < s.heap.size ∧ ¬ A (ad0 0)
def aw_QL : Po := fun o _ _ => o = .inl (some (.int 1))
theorem aw_law {p : Program} {e : Env} {s : State} {m : MethodId} {below : List Frame} {meth : Method} {c : Code} (l : Launch) (hflags : l.flags = flags0) {b L : Nat} {xs : Nat → Int32} (C0 : lw_At p s m meth c b L xs) (hnm : meth.name = x.name) (htb : c.exceptionTable.toList = [])
    (K : ∀ h : Hp, AW (aw_ZL L xs) mlaw 2028 1 601024 7293034 aw_QL 0 [.ref 0, .null, .null, .null, .null, .null, .null, .null, .null] [] h 1 0 0) :
    W p l e room_1 s m #[Value.ref b] below meth c s.heap [] 0 0 (lw_Z below #[Value.ref b] s) (entryFrame m ([Value.ref b] : List Value).toArray 9) := by
  obtain ⟨hx, hb, hr, hml, hown, hts, hX, hbl, hlocks, hgv⟩ := id C0
  obtain ⟨D, cT, hK⟩ := aw_K0 hts
  have hst : l.stackTraces = false := by
    show (!l.flags.contains noTraceFlag) = false
    rw [hflags]
    decide +kernel
  have hent := aw_entry (ad := fun _ => b) (k := 1) (nL := 9) (n := 8) (as := [.ref 0]) (L := [.ref 0, .null, .null, .null, .null, .null, .null, .null, .null]) rfl rfl (fun v hv => by rw [List.mem_singleton] at hv; subst hv; exact Nat.one_pos)
  have hA : ¬ (fun q : Nat => s.heap.size ≤ q) b := Nat.not_le.mpr hbl
  have hW := K (fun _ => .inr (0, [])) l D cT p e s m #[Value.ref b] below meth c (fun _ => b) (fun _ => b) (fun q : Nat => s.heap.size ≤ q) s.heap [] _
    ⟨hst, hx, hb, hml, hr, hlocks, hnm, hown, htb, aw_GF0 hts hgv, fun q hq => hq, hX, hbl, hA⟩ (fun _ _ => rfl) (Nat.le_refl _) va_S.rf
    ⟨fun k q h => by simp [aw_ws] at h, ⟨fun i j p q h => by simp [aw_ws] at h, fun k q h => by simp [aw_ws] at h⟩, hK, Nat.one_pos, fun i h0 h1 => absurd h1 (by omega)⟩ hent (fun v hv => nomatch hv)
  rw [lg_entry_eq]
  intro T hT X
  obtain ⟨t, a1, o, b1, b2, b3⟩ := hW T hT { X with room := aw_room_le (Nat.le_of_ble_eq_true rfl) (Nat.le_of_ble_eq_true rfl) (Nat.le_of_ble_eq_true rfl) (Nat.le_of_ble_eq_true rfl) X.room }
  refine ⟨t, a1, o, b1, b2, ?_⟩
  rcases b3 with ⟨⟨⟨v, h', k', ad', rfl, hq, -⟩, -⟩, Lc, hF, hL⟩ | ⟨q, rfl, E, ce, Lc, ⟨⟨h', k', ad', hq, -⟩, -⟩, -⟩
  · have hv : v = some (.int 1) := Sum.inl.inj hq
    subst hv
    refine ⟨rfl, ?_⟩
    obtain ⟨f1, f2, f3⟩ := hF
    refine lw_closed (d0 := s.drawn) (Drawn.sameBut.refl _ _) f1 f2 ?_
    exact f3.weaken (fun y hy hlt => absurd hlt (Nat.not_lt.mpr (hL y hy))) (Nat.le_refl _) (Nat.le_refl _)
  · exact absurd hq (fun e => by cases e)
end
section
/-! the layout: the class's cells (ids 1 to 46), the reference's (47 to 59; its row at t), the law's row of one long (61) -/
abbrev Mem : Type := Nat → Nat → Int32
def up2 (m : Mem) (i j : Nat) (v : Int32) : Mem := va_up m i (upd (m i) j v)
def sh (t : Nat) (ex : Hp) (o : Nat → Int64) (i : Nat) (g : Nat → Int32) : Ce := match i with
  | 1 => .inr (4, [.ref 2, .ref 14, .ref 19, .ref 21, .ref 23, .ref 35, .int (g 6)])
  | 2 => .inr (1, [.ref 3, .ref 4, .ref 5, .ref 6, .ref 7, .ref 8, .ref 9, .ref 10, .ref 11, .ref 12, .ref 13, .int (g 11)])
  | 3 => .inl (.int, 30, .inl g)
  | 4 => .inl (.int, 30, .inl g)
  | 5 => .inl (.int, 30, .inl g)
  | 6 => .inl (.int, 30, .inl g)
  | 7 => .inl (.int, 30, .inl g)
  | 8 => .inl (.int, 30, .inl g)
  | 9 => .inl (.int, 30, .inl g)
  | 10 => .inl (.int, 30, .inl g)
  | 11 => .inl (.int, 24, .inl g)
  | 12 => .inl (.int, 24, .inl g)
  | 13 => .inl (.int, 24, .inl g)
  | 14 => .inr (2, [.ref 15, .ref 16, .ref 17, .ref 18, .int (g 4), .int (g 5)])
  | 15 => .inl (.int, 54, .inl g)
  | 16 => .inl (.int, 54, .inl g)
  | 17 => .inl (.boolean, 30, .inl g)
  | 18 => .inl (.int, 24, .inl g)
  | 19 => .inr (0, [.ref 20])
  | 20 => .inl (.int, 24, .inl g)
  | 21 => .inr (0, [.ref 22])
  | 22 => .inl (.int, 24, .inl g)
  | 23 => .inr (3, [.ref 2, .ref 24, .ref 25, .ref 26, .ref 27, .ref 28, .ref 29, .ref 30, .ref 31, .ref 32, .ref 33, .ref 34, .int (g 12), .int (g 13), .int (g 14), .int (g 15), .int (g 16), .int (g 17)])
  | 24 => .inl (.int, 24, .inl g)
  | 25 => .inl (.int, 24, .inl g)
  | 26 => .inl (.int, 24, .inl g)
  | 27 => .inl (.int, 24, .inl g)
  | 28 => .inl (.int, 30, .inl g)
  | 29 => .inl (.int, 30, .inl g)
  | 30 => .inl (.int, 30, .inl g)
  | 31 => .inl (.int, 30, .inl g)
  | 32 => .inl (.int, 40, .inl g)
  | 33 => .inl (.int, 40, .inl g)
  | 34 => .inl (.int, 40, .inl g)
  | 35 => .inr (3, [.ref 2, .ref 36, .ref 37, .ref 38, .ref 39, .ref 40, .ref 41, .ref 42, .ref 43, .ref 44, .ref 45, .ref 46, .int (g 12), .int (g 13), .int (g 14), .int (g 15), .int (g 16), .int (g 17)])
  | 36 => .inl (.int, 24, .inl g)
  | 37 => .inl (.int, 24, .inl g)
  | 38 => .inl (.int, 24, .inl g)
  | 39 => .inl (.int, 24, .inl g)
  | 40 => .inl (.int, 30, .inl g)
  | 41 => .inl (.int, 30, .inl g)
  | 42 => .inl (.int, 30, .inl g)
  | 43 => .inl (.int, 30, .inl g)
  | 44 => .inl (.int, 40, .inl g)
  | 45 => .inl (.int, 40, .inl g)
  | 46 => .inl (.int, 40, .inl g)
  | 47 => .inr (5, [.int (g 0), .int (g 1), .ref 48, .ref 49, .ref 50, .ref 51, .ref 52, .ref 53, .ref 54, .ref 55, .ref t, .int (g 11), .int (g 12), .ref 57, .ref 58, .ref 59])
  | 48 => .inl (.int, 30, .inl g)
  | 49 => .inl (.int, 30, .inl g)
  | 50 => .inl (.int, 30, .inl g)
  | 51 => .inl (.int, 30, .inl g)
  | 52 => .inl (.int, 30, .inl g)
  | 53 => .inl (.int, 30, .inl g)
  | 54 => .inl (.int, 30, .inl g)
  | 55 => .inl (.int, 30, .inl g)
  | 57 => .inl (.int, 108, .inl g)
  | 58 => .inl (.int, 24, .inl g)
  | 59 => .inl (.boolean, 24, .inl g)
  | 61 => .inl (.long, 1, .inr (.inl o))
  | j => ex j
def lay (t : Nat) (ex : Hp) (o : Nat → Int64) (m : Mem) : Hp := fun i => if i = t then .inl (.int, 342, .inl (m 60)) else sh t ex o i (m i)
/-- where the reference's row may lie -/
def tok (t : Nat) : Prop := t = 60 ∨ 62 ≤ t
def fixid (i : Nat) : Bool := decide (0 < i) && (decide (i < 60) || decide (i = 61)) && !decide (i = 56)
theorem fix_ne {t i : Nat} (ht : tok t) (hi : fixid i = true) : i ≠ t := by
  simp only [fixid, Bool.and_eq_true, Bool.or_eq_true, decide_eq_true_eq] at hi
  rcases ht with ht | ht <;> omega
theorem fix_pos {i : Nat} (hi : fixid i = true) : 0 < i := by
  simp only [fixid, Bool.and_eq_true, decide_eq_true_eq] at hi
  exact hi.1.1
theorem lay_at {t : Nat} {ex : Hp} {o : Nat → Int64} {m : Mem} {i : Nat} (ht : tok t) (hi : fixid i = true) : lay t ex o m i = sh t ex o i (m i) := by
  simp only [lay, if_neg (fix_ne ht hi)]
theorem lay_t {t : Nat} {ex : Hp} {o : Nat → Int64} {m : Mem} : lay t ex o m t = .inl (.int, 342, .inl (m 60)) := by simp [lay]
theorem lay_up {t : Nat} {ex : Hp} {o : Nat → Int64} {m : Mem} {i : Nat} {g : Nat → Int32} (ht : tok t) (hi : fixid i = true) : va_up (lay t ex o m) i (sh t ex o i g) = lay t ex o (va_up m i g) := by
  have h1 := fix_ne ht hi
  funext j
  by_cases hj : j = i
  · subst hj
    simp [va_up, lay, h1]
  · by_cases hjt : j = t
    · subst hjt
      have h60 : ¬ (60 = i) := by intro e; subst e; simp [fixid] at hi
      simp [va_up, lay, hj, h60]
    · simp [va_up, lay, hj, hjt]
theorem lay_upt {t : Nat} {ex : Hp} {o : Nat → Int64} {m : Mem} {g : Nat → Int32} (ht : tok t) (h60 : ∀ f, sh t ex o 60 f = sh t ex o 60 (m 60) := by intro f; rfl) : va_up (lay t ex o m) t (.inl (.int, 342, .inl g)) = lay t ex o (va_up m 60 g) := by
  funext j
  by_cases hjt : j = t
  · subst hjt
    simp [va_up, lay]
  · by_cases hj : j = 60
    · subst hj
      simp only [va_up, lay, if_neg hjt, if_true]
      exact (h60 g).symm
    · simp [va_up, lay, hj, hjt]
section LW
variable {Z : Gz} {μ : Mt} {d k0 mc ms : Nat} {Q : Po} {pc : Nat} {L S : List Value} {k cs ss t : Nat} {ex : Hp} {o : Nat → Int64} {m : Mem}
/-- a field of an object of the layout -/
theorem LW.get {i ci index f N : Nat} {C : String} {T : u_T} {fs : List Value} {v : Value} (ht : tok t) (hi : fixid i = true) (hs : sh t ex o i (m i) = .inr (ci, fs)) (hd : decode μ.2.1 pc = .ok (.getfield index, 3)) (hw : Cond.fieldLink μ.1.cls index (T f).1 (T f).2.1 (T f).2.2.1 ∈ lw_tbl) (hc : aw_cl[ci]? = some (C, T, N)) (hf : f < N)
    (hv : fs[f]? = some v) (K : AW Z μ d k0 mc ms Q (pc + 3) L (v :: S) (lay t ex o m) k cs ss) : AW Z μ d k0 mc ms Q pc L (.ref i :: S) (lay t ex o m) k cs ss :=
  AW.get hd hw hc hf rfl (fix_pos hi) ((lay_at ht hi).trans hs) hv K
theorem LW.getN {i ci index f N : Nat} {C host : String} {T : u_T} {fs : List Value} {v : Value} (ht : tok t) (hi : fixid i = true) (hs : sh t ex o i (m i) = .inr (ci, fs)) (hd : decode μ.2.1 pc = .ok (.getfield index, 3)) (hw : Cond.fieldLinkNest μ.1.cls index (T f).1 (T f).2.1 (T f).2.2.1 host ∈ lw_tbl) (hc : aw_cl[ci]? = some (C, T, N)) (hf : f < N)
    (hv : fs[f]? = some v) (K : AW Z μ d k0 mc ms Q (pc + 3) L (v :: S) (lay t ex o m) k cs ss) : AW Z μ d k0 mc ms Q pc L (.ref i :: S) (lay t ex o m) k cs ss :=
  AW.getN hd hw hc hf rfl (fix_pos hi) ((lay_at ht hi).trans hs) hv K
/-- an int or boolean field is written -/
theorem LW.put {i ci index f N : Nat} {C : String} {T : u_T} {fs : List Value} {v : Int32} (ht : tok t) (hi : fixid i = true) (hs : sh t ex o i (m i) = .inr (ci, fs)) (hs2 : .inr (ci, fs.set f (.int v)) = sh t ex o i (upd (m i) f v)) (hd : decode μ.2.1 pc = .ok (.putfield index, 3)) (hw : Cond.fieldLink μ.1.cls index (T f).1 (T f).2.1 (T f).2.2.1 ∈ lw_tbl) (hc : aw_cl[ci]? = some (C, T, N)) (hf : f < N)
    (hl : f < fs.length) (hfin : (T f).2.2.2 = false) (hn : narrow (aw_ty ci f) (.int v) = .int v ∧ fits (aw_ty ci f) (.int v) = true) (K : AW Z μ d k0 mc ms Q (pc + 3) L S (lay t ex o (up2 m i f v)) k cs ss) : AW Z μ d k0 mc ms Q pc L (.int v :: .ref i :: S) (lay t ex o m) k cs ss := by
  refine AW.put hd hw hc hf rfl (fix_pos hi) ((lay_at ht hi).trans hs) hl hfin (fun _ => hn) rfl ?_
  rw [hs2, lay_up ht hi]
  exact K
theorem LW.putN {i ci index f N : Nat} {C host : String} {T : u_T} {fs : List Value} {v : Int32} (ht : tok t) (hi : fixid i = true) (hs : sh t ex o i (m i) = .inr (ci, fs)) (hs2 : .inr (ci, fs.set f (.int v)) = sh t ex o i (upd (m i) f v)) (hd : decode μ.2.1 pc = .ok (.putfield index, 3)) (hw : Cond.fieldLinkNest μ.1.cls index (T f).1 (T f).2.1 (T f).2.2.1 host ∈ lw_tbl) (hc : aw_cl[ci]? = some (C, T, N)) (hf : f < N)
    (hl : f < fs.length) (hfin : (T f).2.2.2 = false) (hn : narrow (aw_ty ci f) (.int v) = .int v ∧ fits (aw_ty ci f) (.int v) = true) (K : AW Z μ d k0 mc ms Q (pc + 3) L S (lay t ex o (up2 m i f v)) k cs ss) : AW Z μ d k0 mc ms Q pc L (.int v :: .ref i :: S) (lay t ex o m) k cs ss := by
  refine AW.putN hd hw hc hf rfl (fix_pos hi) ((lay_at ht hi).trans hs) hl hfin (fun _ => hn) rfl ?_
  rw [hs2, lay_up ht hi]
  exact K
theorem LW.iald {i n : Nat} {x : Int32} (ht : tok t) (hi : fixid i = true) (hs : sh t ex o i (m i) = .inl (.int, n, .inl (m i))) (hd : decode μ.2.1 pc = .ok (.iaload, 1)) (hin : vp_in x n) (K : AW Z μ d k0 mc ms Q (pc + 1) L (.int (m i x.toNatClampNeg) :: S) (lay t ex o m) k cs ss) : AW Z μ d k0 mc ms Q pc L (.int x :: .ref i :: S) (lay t ex o m) k cs ss :=
  AW.iald hd (fix_pos hi) ((lay_at ht hi).trans hs) hin K
theorem LW.zald {i n : Nat} {x : Int32} (ht : tok t) (hi : fixid i = true) (hs : sh t ex o i (m i) = .inl (.boolean, n, .inl (m i))) (hd : decode μ.2.1 pc = .ok (.baload, 1)) (hin : vp_in x n) (K : AW Z μ d k0 mc ms Q (pc + 1) L (.int (m i x.toNatClampNeg) :: S) (lay t ex o m) k cs ss) : AW Z μ d k0 mc ms Q pc L (.int x :: .ref i :: S) (lay t ex o m) k cs ss :=
  AW.zald hd (fix_pos hi) ((lay_at ht hi).trans hs) hin K
theorem LW.iast {i n : Nat} {x y : Int32} (ht : tok t) (hi : fixid i = true) (hs : ∀ g, sh t ex o i g = .inl (.int, n, .inl g)) (hd : decode μ.2.1 pc = .ok (.iastore, 1)) (hin : vp_in x n) (K : AW Z μ d k0 mc ms Q (pc + 1) L S (lay t ex o (up2 m i x.toNatClampNeg y)) k cs ss) : AW Z μ d k0 mc ms Q pc L (.int y :: .int x :: .ref i :: S) (lay t ex o m) k cs ss := by
  refine AW.iast hd (fix_pos hi) ((lay_at ht hi).trans (hs _)) hin ?_
  rw [← hs, lay_up ht hi]
  exact K
theorem LW.zast {i n : Nat} {x y : Int32} (ht : tok t) (hi : fixid i = true) (hs : ∀ g, sh t ex o i g = .inl (.boolean, n, .inl g)) (hd : decode μ.2.1 pc = .ok (.bastore, 1)) (hin : vp_in x n) (hy : vp_nar .boolean y = y) (K : AW Z μ d k0 mc ms Q (pc + 1) L S (lay t ex o (up2 m i x.toNatClampNeg y)) k cs ss) : AW Z μ d k0 mc ms Q pc L (.int y :: .int x :: .ref i :: S) (lay t ex o m) k cs ss := by
  refine AW.zast hd (fix_pos hi) ((lay_at ht hi).trans (hs _)) hin hy ?_
  rw [← hs, lay_up ht hi]
  exact K
/-- the reference's row -/
theorem LW.ialdt {x : Int32} (ht : tok t) (hd : decode μ.2.1 pc = .ok (.iaload, 1)) (hin : vp_in x 342) (K : AW Z μ d k0 mc ms Q (pc + 1) L (.int (m 60 x.toNatClampNeg) :: S) (lay t ex o m) k cs ss) : AW Z μ d k0 mc ms Q pc L (.int x :: .ref t :: S) (lay t ex o m) k cs ss :=
  AW.iald hd (by rcases ht with h | h <;> omega) lay_t hin K
theorem LW.iastt {x y : Int32} (ht : tok t) (hd : decode μ.2.1 pc = .ok (.iastore, 1)) (hin : vp_in x 342) (K : AW Z μ d k0 mc ms Q (pc + 1) L S (lay t ex o (up2 m 60 x.toNatClampNeg y)) k cs ss) : AW Z μ d k0 mc ms Q pc L (.int y :: .int x :: .ref t :: S) (lay t ex o m) k cs ss := by
  refine AW.iast hd (by rcases ht with h | h <;> omega) lay_t hin ?_
  rw [lay_upt ht]
  exact K
theorem LW.copyi {i j n0 n1 index : Nat} {sp dp n : Int32} (ht : tok t) (hi : fixid i = true) (hj : fixid j = true) (hsi : sh t ex o i (m i) = .inl (.int, n0, .inl (m i))) (hsj : ∀ g, sh t ex o j g = .inl (.int, n1, .inl g)) (hd : decode μ.2.1 pc = .ok (.invokestatic index, 3)) (hlink : Cond.methodLink μ.1.cls index arraycopyName ∈ lw_tbl) (hnat : Cond.native arraycopyName ∈ lw_tbl) (hst : Cond.static arraycopyName ∈ lw_tbl) (hini : Cond.initialized "java/lang/System" ∈ lw_tbl)
    (h1 : ¬ sp < 0) (h2 : ¬ dp < 0) (h3 : ¬ n < 0) (h4 : sp.toNatClampNeg + n.toNatClampNeg ≤ n0) (h5 : dp.toNatClampNeg + n.toNatClampNeg ≤ n1) (hcat : (S.map fun v => v.category).sum ≤ 8)
    (K : AW Z μ d k0 mc ms Q (pc + 3) L S (lay t ex o (va_up m j (va_cpy (m i) (m j) sp.toNatClampNeg dp.toNatClampNeg n.toNatClampNeg))) k cs ss) : AW Z μ d k0 mc ms Q pc L (.int n :: .int dp :: .ref j :: .int sp :: .ref i :: S) (lay t ex o m) k cs ss := by
  refine AW.copyi hd hlink hnat hst hini (fix_pos hi) (fix_pos hj) ((lay_at ht hi).trans hsi) ((lay_at ht hj).trans (hsj _)) h1 h2 h3 h4 h5 hcat ?_
  rw [← hsj, lay_up ht hj]
  exact K
/-- the law's row of one long -/
theorem lay_upo {g : Nat → Int64} (ht : tok t) : va_up (lay t ex o m) 61 (.inl (.long, 1, .inr (.inl g))) = lay t ex g m := by
  have h1 : 61 ≠ t := fix_ne ht (by decide)
  funext j
  by_cases hj : j = 61
  · subst hj
    simp [va_up, lay, h1, sh]
  · by_cases hjt : j = t
    · subst hjt
      simp [va_up, lay, hj]
    · simp only [va_up, lay, if_neg hj, if_neg hjt]
      unfold sh
      split <;> first | rfl | omega
end LW
end
section
/-! each word of the tables, by its place in lw_tbl (printed by wip/tools/mk_words.py out of the Statement) -/
theorem in_t1 {w : Cond} (h : w ∈ tables_1_1) : w ∈ lw_tbl := List.mem_append_right _ (by show w ∈ tables_1; unfold tables_1; exact List.mem_append_left _ h)
theorem in_t2 {w : Cond} (h : w ∈ tables_1_2) : w ∈ lw_tbl := List.mem_append_right _ (by show w ∈ tables_1; unfold tables_1; exact List.mem_append_right _ (List.mem_append_left _ h))
theorem in_t3 {w : Cond} (h : w ∈ tables_1_3) : w ∈ lw_tbl := List.mem_append_right _ (by show w ∈ tables_1; unfold tables_1; exact List.mem_append_right _ (List.mem_append_right _ (List.mem_append_left _ h)))
theorem in_t4 {w : Cond} (h : w ∈ tables_1_4) : w ∈ lw_tbl := List.mem_append_right _ (by show w ∈ tables_1; unfold tables_1; exact List.mem_append_right _ (List.mem_append_right _ (List.mem_append_right _ (List.mem_append_left _ h))))
theorem in_t5 {w : Cond} (h : w ∈ tables_1_5) : w ∈ lw_tbl := List.mem_append_right _ (by show w ∈ tables_1; unfold tables_1; exact List.mem_append_right _ (List.mem_append_right _ (List.mem_append_right _ (List.mem_append_right _ (h)))))
theorem tw_0 : (Jvm.Cond.initialized "FoundryNineLaw") ∈ lw_tbl := List.mem_of_getElem? (i := 67) (by decide +kernel)
theorem tw_1 : (Jvm.Cond.initialized "FoundryNine") ∈ lw_tbl := List.mem_of_getElem? (i := 68) (by decide +kernel)
theorem tw_2 : (Jvm.Cond.initialized "FoundryNine$Circuit") ∈ lw_tbl := List.mem_of_getElem? (i := 69) (by decide +kernel)
theorem tw_3 : (Jvm.Cond.initialized "java/util/Arrays") ∈ lw_tbl := List.mem_of_getElem? (i := 70) (by decide +kernel)
theorem tw_4 : (Jvm.Cond.initialized "FoundryNine$Flaws") ∈ lw_tbl := List.mem_of_getElem? (i := 71) (by decide +kernel)
theorem tw_5 : (Jvm.Cond.initialized "FoundryNine$Arrivals") ∈ lw_tbl := List.mem_of_getElem? (i := 72) (by decide +kernel)
theorem tw_6 : (Jvm.Cond.initialized "FoundryNine$Run") ∈ lw_tbl := List.mem_of_getElem? (i := 73) (by decide +kernel)
theorem tw_7 : (Jvm.Cond.initialized "java/lang/System") ∈ lw_tbl := List.mem_of_getElem? (i := 74) (by decide +kernel)
theorem tw_8 : (Jvm.Cond.initialized "FoundryNineModel") ∈ lw_tbl := List.mem_of_getElem? (i := 75) (by decide +kernel)
theorem tw_9 : (Jvm.Cond.initialized "java/lang/Throwable") ∈ lw_tbl := List.mem_of_getElem? (i := 76) (by decide +kernel)
theorem tw_10 : (Jvm.Cond.initialized "java/lang/Exception") ∈ lw_tbl := List.mem_of_getElem? (i := 77) (by decide +kernel)
theorem tw_11 : (Jvm.Cond.initialized "java/lang/RuntimeException") ∈ lw_tbl := List.mem_of_getElem? (i := 78) (by decide +kernel)
theorem tw_12 : (Jvm.Cond.initialized "java/lang/IndexOutOfBoundsException") ∈ lw_tbl := List.mem_of_getElem? (i := 79) (by decide +kernel)
theorem tw_13 : (Jvm.Cond.initialized "java/lang/IllegalStateException") ∈ lw_tbl := List.mem_of_getElem? (i := 80) (by decide +kernel)
theorem tw_14 : (Jvm.Cond.initialized "java/lang/Math") ∈ lw_tbl := List.mem_of_getElem? (i := 81) (by decide +kernel)
theorem tw_15 : (Jvm.Cond.initialized "java/lang/IllegalArgumentException") ∈ lw_tbl := List.mem_of_getElem? (i := 82) (by decide +kernel)
theorem tw_16 : (Jvm.Cond.initialized "java/lang/Integer") ∈ lw_tbl := List.mem_of_getElem? (i := 83) (by decide +kernel)
theorem tw_17 : (Jvm.Cond.classLink "FoundryNineLaw" (8 : Nat) "FoundryNine") ∈ lw_tbl := List.mem_of_getElem? (i := 84) (by decide +kernel)
theorem tw_18 : (Jvm.Cond.instantiable "FoundryNine" (7 : Nat)) ∈ lw_tbl := List.mem_of_getElem? (i := 85) (by decide +kernel)
theorem tw_19 : (Jvm.Cond.methodLink "FoundryNineLaw" (81 : Nat) ({ cls := "FoundryNine", name := "<init>", desc := "()V" } : Jvm.MethodName)) ∈ lw_tbl := List.mem_of_getElem? (i := 86) (by decide +kernel)
theorem tw_20 : (Jvm.Cond.instanceMethod ({ cls := "FoundryNine", name := "<init>", desc := "()V" } : Jvm.MethodName)) ∈ lw_tbl := List.mem_of_getElem? (i := 87) (by decide +kernel)
set_option maxRecDepth 20000 in
theorem tw_21 : (Jvm.Cond.code ({ cls := "FoundryNine", name := "<init>", desc := "()V" } : Jvm.MethodName) prog_1_method_1_code (1 : Nat) (Option.none : Option Jvm.ClassFile.FieldType)) ∈ lw_tbl := in_t1 (List.mem_of_getElem? (i := 21) rfl)
theorem tw_22 : (Jvm.Cond.methodLink "FoundryNine" (1 : Nat) ({ cls := "java/lang/Object", name := "<init>", desc := "()V" } : Jvm.MethodName)) ∈ lw_tbl := List.mem_of_getElem? (i := 89) (by decide +kernel)
theorem tw_23 : (Jvm.Cond.instanceMethod ({ cls := "java/lang/Object", name := "<init>", desc := "()V" } : Jvm.MethodName)) ∈ lw_tbl := List.mem_of_getElem? (i := 90) (by decide +kernel)
set_option maxRecDepth 20000 in
theorem tw_24 : (Jvm.Cond.code ({ cls := "java/lang/Object", name := "<init>", desc := "()V" } : Jvm.MethodName) object_method_1_code (1 : Nat) (Option.none : Option Jvm.ClassFile.FieldType)) ∈ lw_tbl := in_t1 (List.mem_of_getElem? (i := 24) rfl)
theorem tw_25 : (Jvm.Cond.classLink "FoundryNine" (7 : Nat) "FoundryNine$Circuit") ∈ lw_tbl := List.mem_of_getElem? (i := 92) (by decide +kernel)
theorem tw_26 : (Jvm.Cond.instantiable "FoundryNine$Circuit" (12 : Nat)) ∈ lw_tbl := List.mem_of_getElem? (i := 93) (by decide +kernel)
theorem tw_27 : (Jvm.Cond.methodLink "FoundryNine" (9 : Nat) ({ cls := "FoundryNine$Circuit", name := "<init>", desc := "()V" } : Jvm.MethodName)) ∈ lw_tbl := List.mem_of_getElem? (i := 94) (by decide +kernel)
theorem tw_28 : (Jvm.Cond.instanceMethod ({ cls := "FoundryNine$Circuit", name := "<init>", desc := "()V" } : Jvm.MethodName)) ∈ lw_tbl := List.mem_of_getElem? (i := 95) (by decide +kernel)
set_option maxRecDepth 20000 in
theorem tw_29 : (Jvm.Cond.code ({ cls := "FoundryNine$Circuit", name := "<init>", desc := "()V" } : Jvm.MethodName) prog_3_method_1_code (1 : Nat) (Option.none : Option Jvm.ClassFile.FieldType)) ∈ lw_tbl := in_t1 (List.mem_of_getElem? (i := 29) rfl)
theorem tw_30 : (Jvm.Cond.methodLink "FoundryNine$Circuit" (3 : Nat) ({ cls := "java/lang/Object", name := "<init>", desc := "()V" } : Jvm.MethodName)) ∈ lw_tbl := List.mem_of_getElem? (i := 97) (by decide +kernel)
theorem tw_31 : (Jvm.Cond.methodLink "FoundryNine$Circuit" (45 : Nat) ({ cls := "java/util/Arrays", name := "fill", desc := "([II)V" } : Jvm.MethodName)) ∈ lw_tbl := List.mem_of_getElem? (i := 98) (by decide +kernel)
theorem tw_32 : (Jvm.Cond.static ({ cls := "java/util/Arrays", name := "fill", desc := "([II)V" } : Jvm.MethodName)) ∈ lw_tbl := List.mem_of_getElem? (i := 99) (by decide +kernel)
set_option maxRecDepth 20000 in
theorem tw_33 : (Jvm.Cond.code ({ cls := "java/util/Arrays", name := "fill", desc := "([II)V" } : Jvm.MethodName) prog_18_method_103_code (4 : Nat) (Option.none : Option Jvm.ClassFile.FieldType)) ∈ lw_tbl := in_t1 (List.mem_of_getElem? (i := 33) rfl)
theorem tw_34 : (Jvm.Cond.fieldLink "FoundryNine$Circuit" (9 : Nat) "FoundryNine$Circuit" "kind" "[I") ∈ lw_tbl := List.mem_of_getElem? (i := 101) (by decide +kernel)
theorem tw_35 : (Jvm.Cond.fieldLinkNest "FoundryNine$Arrivals" (34 : Nat) "FoundryNine$Circuit" "kind" "[I" "FoundryNine") ∈ lw_tbl := List.mem_of_getElem? (i := 102) (by decide +kernel)
theorem tw_36 : (Jvm.Cond.fieldLinkNest "FoundryNine$Run" (94 : Nat) "FoundryNine$Circuit" "kind" "[I" "FoundryNine") ∈ lw_tbl := List.mem_of_getElem? (i := 103) (by decide +kernel)
theorem tw_37 : (Jvm.Cond.fieldLinkNest "FoundryNine" (73 : Nat) "FoundryNine$Circuit" "kind" "[I" "FoundryNine") ∈ lw_tbl := List.mem_of_getElem? (i := 104) (by decide +kernel)
theorem tw_38 : (Jvm.Cond.fieldLink "FoundryNine$Circuit" (15 : Nat) "FoundryNine$Circuit" "wire" "[I") ∈ lw_tbl := List.mem_of_getElem? (i := 105) (by decide +kernel)
theorem tw_39 : (Jvm.Cond.fieldLinkNest "FoundryNine$Flaws" (54 : Nat) "FoundryNine$Circuit" "wire" "[I" "FoundryNine") ∈ lw_tbl := List.mem_of_getElem? (i := 106) (by decide +kernel)
theorem tw_40 : (Jvm.Cond.fieldLinkNest "FoundryNine$Run" (97 : Nat) "FoundryNine$Circuit" "wire" "[I" "FoundryNine") ∈ lw_tbl := List.mem_of_getElem? (i := 107) (by decide +kernel)
theorem tw_41 : (Jvm.Cond.fieldLink "FoundryNine$Circuit" (18 : Nat) "FoundryNine$Circuit" "a" "[I") ∈ lw_tbl := List.mem_of_getElem? (i := 108) (by decide +kernel)
theorem tw_42 : (Jvm.Cond.fieldLinkNest "FoundryNine$Arrivals" (43 : Nat) "FoundryNine$Circuit" "a" "[I" "FoundryNine") ∈ lw_tbl := List.mem_of_getElem? (i := 109) (by decide +kernel)
theorem tw_43 : (Jvm.Cond.fieldLinkNest "FoundryNine$Run" (134 : Nat) "FoundryNine$Circuit" "a" "[I" "FoundryNine") ∈ lw_tbl := List.mem_of_getElem? (i := 110) (by decide +kernel)
theorem tw_44 : (Jvm.Cond.fieldLink "FoundryNine$Circuit" (21 : Nat) "FoundryNine$Circuit" "b" "[I") ∈ lw_tbl := List.mem_of_getElem? (i := 111) (by decide +kernel)
theorem tw_45 : (Jvm.Cond.fieldLinkNest "FoundryNine$Arrivals" (49 : Nat) "FoundryNine$Circuit" "b" "[I" "FoundryNine") ∈ lw_tbl := List.mem_of_getElem? (i := 112) (by decide +kernel)
theorem tw_46 : (Jvm.Cond.fieldLinkNest "FoundryNine$Run" (140 : Nat) "FoundryNine$Circuit" "b" "[I" "FoundryNine") ∈ lw_tbl := List.mem_of_getElem? (i := 113) (by decide +kernel)
theorem tw_47 : (Jvm.Cond.fieldLink "FoundryNine$Circuit" (24 : Nat) "FoundryNine$Circuit" "c" "[I") ∈ lw_tbl := List.mem_of_getElem? (i := 114) (by decide +kernel)
theorem tw_48 : (Jvm.Cond.fieldLinkNest "FoundryNine$Arrivals" (52 : Nat) "FoundryNine$Circuit" "c" "[I" "FoundryNine") ∈ lw_tbl := List.mem_of_getElem? (i := 115) (by decide +kernel)
theorem tw_49 : (Jvm.Cond.fieldLinkNest "FoundryNine$Run" (143 : Nat) "FoundryNine$Circuit" "c" "[I" "FoundryNine") ∈ lw_tbl := List.mem_of_getElem? (i := 116) (by decide +kernel)
theorem tw_50 : (Jvm.Cond.fieldLink "FoundryNine$Circuit" (27 : Nat) "FoundryNine$Circuit" "delay" "[I") ∈ lw_tbl := List.mem_of_getElem? (i := 117) (by decide +kernel)
theorem tw_51 : (Jvm.Cond.fieldLinkNest "FoundryNine$Arrivals" (27 : Nat) "FoundryNine$Circuit" "delay" "[I" "FoundryNine") ∈ lw_tbl := List.mem_of_getElem? (i := 118) (by decide +kernel)
theorem tw_52 : (Jvm.Cond.fieldLinkNest "FoundryNine" (94 : Nat) "FoundryNine$Circuit" "delay" "[I" "FoundryNine") ∈ lw_tbl := List.mem_of_getElem? (i := 119) (by decide +kernel)
theorem tw_53 : (Jvm.Cond.fieldLinkNest "FoundryNine$Run" (168 : Nat) "FoundryNine$Circuit" "delay" "[I" "FoundryNine") ∈ lw_tbl := List.mem_of_getElem? (i := 120) (by decide +kernel)
theorem tw_54 : (Jvm.Cond.fieldLink "FoundryNine$Circuit" (30 : Nat) "FoundryNine$Circuit" "setup" "[I") ∈ lw_tbl := List.mem_of_getElem? (i := 121) (by decide +kernel)
theorem tw_55 : (Jvm.Cond.fieldLinkNest "FoundryNine" (85 : Nat) "FoundryNine$Circuit" "setup" "[I" "FoundryNine") ∈ lw_tbl := List.mem_of_getElem? (i := 122) (by decide +kernel)
theorem tw_56 : (Jvm.Cond.fieldLinkNest "FoundryNine$Run" (165 : Nat) "FoundryNine$Circuit" "setup" "[I" "FoundryNine") ∈ lw_tbl := List.mem_of_getElem? (i := 123) (by decide +kernel)
theorem tw_57 : (Jvm.Cond.fieldLink "FoundryNine$Circuit" (33 : Nat) "FoundryNine$Circuit" "hold" "[I") ∈ lw_tbl := List.mem_of_getElem? (i := 124) (by decide +kernel)
theorem tw_58 : (Jvm.Cond.fieldLinkNest "FoundryNine" (88 : Nat) "FoundryNine$Circuit" "hold" "[I" "FoundryNine") ∈ lw_tbl := List.mem_of_getElem? (i := 125) (by decide +kernel)
theorem tw_59 : (Jvm.Cond.fieldLinkNest "FoundryNine$Run" (156 : Nat) "FoundryNine$Circuit" "hold" "[I" "FoundryNine") ∈ lw_tbl := List.mem_of_getElem? (i := 126) (by decide +kernel)
theorem tw_60 : (Jvm.Cond.fieldLink "FoundryNine$Circuit" (36 : Nat) "FoundryNine$Circuit" "users" "[I") ∈ lw_tbl := List.mem_of_getElem? (i := 127) (by decide +kernel)
theorem tw_61 : (Jvm.Cond.fieldLinkNest "FoundryNine$Flaws" (42 : Nat) "FoundryNine$Circuit" "users" "[I" "FoundryNine") ∈ lw_tbl := List.mem_of_getElem? (i := 128) (by decide +kernel)
theorem tw_62 : (Jvm.Cond.fieldLinkNest "FoundryNine" (134 : Nat) "FoundryNine$Circuit" "users" "[I" "FoundryNine") ∈ lw_tbl := List.mem_of_getElem? (i := 129) (by decide +kernel)
theorem tw_63 : (Jvm.Cond.fieldLink "FoundryNine$Circuit" (39 : Nat) "FoundryNine$Circuit" "drivers" "[I") ∈ lw_tbl := List.mem_of_getElem? (i := 130) (by decide +kernel)
theorem tw_64 : (Jvm.Cond.fieldLinkNest "FoundryNine$Flaws" (33 : Nat) "FoundryNine$Circuit" "drivers" "[I" "FoundryNine") ∈ lw_tbl := List.mem_of_getElem? (i := 131) (by decide +kernel)
theorem tw_65 : (Jvm.Cond.fieldLinkNest "FoundryNine$Arrivals" (65 : Nat) "FoundryNine$Circuit" "drivers" "[I" "FoundryNine") ∈ lw_tbl := List.mem_of_getElem? (i := 132) (by decide +kernel)
theorem tw_66 : (Jvm.Cond.fieldLinkNest "FoundryNine" (230 : Nat) "FoundryNine$Circuit" "drivers" "[I" "FoundryNine") ∈ lw_tbl := List.mem_of_getElem? (i := 133) (by decide +kernel)
theorem tw_67 : (Jvm.Cond.fieldLink "FoundryNine$Circuit" (42 : Nat) "FoundryNine$Circuit" "firstDriver" "[I") ∈ lw_tbl := List.mem_of_getElem? (i := 134) (by decide +kernel)
theorem tw_68 : (Jvm.Cond.fieldLink "FoundryNine$Circuit" (51 : Nat) "FoundryNine$Circuit" "count" "I") ∈ lw_tbl := List.mem_of_getElem? (i := 135) (by decide +kernel)
theorem tw_69 : (Jvm.Cond.fieldLinkNest "FoundryNine$Flaws" (49 : Nat) "FoundryNine$Circuit" "count" "I" "FoundryNine") ∈ lw_tbl := List.mem_of_getElem? (i := 136) (by decide +kernel)
theorem tw_70 : (Jvm.Cond.fieldLinkNest "FoundryNine$Run" (89 : Nat) "FoundryNine$Circuit" "count" "I" "FoundryNine") ∈ lw_tbl := List.mem_of_getElem? (i := 137) (by decide +kernel)
theorem tw_71 : (Jvm.Cond.fieldLinkNest "FoundryNine" (101 : Nat) "FoundryNine$Circuit" "count" "I" "FoundryNine") ∈ lw_tbl := List.mem_of_getElem? (i := 138) (by decide +kernel)
theorem tw_72 : (Jvm.Cond.laysFinal "FoundryNine$Circuit" "FoundryNine$Circuit" "kind" "[I") ∈ lw_tbl := List.mem_of_getElem? (i := 139) (by decide +kernel)
theorem tw_73 : (Jvm.Cond.soleField "FoundryNine$Circuit" "kind") ∈ lw_tbl := List.mem_of_getElem? (i := 140) (by decide +kernel)
theorem tw_74 : (Jvm.Cond.laysFinal "FoundryNine$Circuit" "FoundryNine$Circuit" "wire" "[I") ∈ lw_tbl := List.mem_of_getElem? (i := 141) (by decide +kernel)
theorem tw_75 : (Jvm.Cond.soleField "FoundryNine$Circuit" "wire") ∈ lw_tbl := List.mem_of_getElem? (i := 142) (by decide +kernel)
theorem tw_76 : (Jvm.Cond.laysFinal "FoundryNine$Circuit" "FoundryNine$Circuit" "a" "[I") ∈ lw_tbl := List.mem_of_getElem? (i := 143) (by decide +kernel)
theorem tw_77 : (Jvm.Cond.soleField "FoundryNine$Circuit" "a") ∈ lw_tbl := List.mem_of_getElem? (i := 144) (by decide +kernel)
theorem tw_78 : (Jvm.Cond.laysFinal "FoundryNine$Circuit" "FoundryNine$Circuit" "b" "[I") ∈ lw_tbl := List.mem_of_getElem? (i := 145) (by decide +kernel)
theorem tw_79 : (Jvm.Cond.soleField "FoundryNine$Circuit" "b") ∈ lw_tbl := List.mem_of_getElem? (i := 146) (by decide +kernel)
theorem tw_80 : (Jvm.Cond.laysFinal "FoundryNine$Circuit" "FoundryNine$Circuit" "c" "[I") ∈ lw_tbl := List.mem_of_getElem? (i := 147) (by decide +kernel)
theorem tw_81 : (Jvm.Cond.soleField "FoundryNine$Circuit" "c") ∈ lw_tbl := List.mem_of_getElem? (i := 148) (by decide +kernel)
theorem tw_82 : (Jvm.Cond.laysFinal "FoundryNine$Circuit" "FoundryNine$Circuit" "delay" "[I") ∈ lw_tbl := List.mem_of_getElem? (i := 149) (by decide +kernel)
theorem tw_83 : (Jvm.Cond.soleField "FoundryNine$Circuit" "delay") ∈ lw_tbl := List.mem_of_getElem? (i := 150) (by decide +kernel)
theorem tw_84 : (Jvm.Cond.laysFinal "FoundryNine$Circuit" "FoundryNine$Circuit" "setup" "[I") ∈ lw_tbl := List.mem_of_getElem? (i := 151) (by decide +kernel)
theorem tw_85 : (Jvm.Cond.soleField "FoundryNine$Circuit" "setup") ∈ lw_tbl := List.mem_of_getElem? (i := 152) (by decide +kernel)
theorem tw_86 : (Jvm.Cond.laysFinal "FoundryNine$Circuit" "FoundryNine$Circuit" "hold" "[I") ∈ lw_tbl := List.mem_of_getElem? (i := 153) (by decide +kernel)
theorem tw_87 : (Jvm.Cond.soleField "FoundryNine$Circuit" "hold") ∈ lw_tbl := List.mem_of_getElem? (i := 154) (by decide +kernel)
theorem tw_88 : (Jvm.Cond.laysFinal "FoundryNine$Circuit" "FoundryNine$Circuit" "users" "[I") ∈ lw_tbl := List.mem_of_getElem? (i := 155) (by decide +kernel)
theorem tw_89 : (Jvm.Cond.soleField "FoundryNine$Circuit" "users") ∈ lw_tbl := List.mem_of_getElem? (i := 156) (by decide +kernel)
theorem tw_90 : (Jvm.Cond.laysFinal "FoundryNine$Circuit" "FoundryNine$Circuit" "drivers" "[I") ∈ lw_tbl := List.mem_of_getElem? (i := 157) (by decide +kernel)
theorem tw_91 : (Jvm.Cond.soleField "FoundryNine$Circuit" "drivers") ∈ lw_tbl := List.mem_of_getElem? (i := 158) (by decide +kernel)
theorem tw_92 : (Jvm.Cond.laysFinal "FoundryNine$Circuit" "FoundryNine$Circuit" "firstDriver" "[I") ∈ lw_tbl := List.mem_of_getElem? (i := 159) (by decide +kernel)
theorem tw_93 : (Jvm.Cond.soleField "FoundryNine$Circuit" "firstDriver") ∈ lw_tbl := List.mem_of_getElem? (i := 160) (by decide +kernel)
theorem tw_94 : (Jvm.Cond.lays "FoundryNine$Circuit" "FoundryNine$Circuit" "count" "I") ∈ lw_tbl := List.mem_of_getElem? (i := 161) (by decide +kernel)
theorem tw_95 : (Jvm.Cond.soleField "FoundryNine$Circuit" "count") ∈ lw_tbl := List.mem_of_getElem? (i := 162) (by decide +kernel)
theorem tw_96 : (Jvm.Cond.superclass "FoundryNine$Circuit" "java/lang/Object") ∈ lw_tbl := List.mem_of_getElem? (i := 163) (by decide +kernel)
theorem tw_97 : (Jvm.Cond.arrayClass Jvm.ClassFile.FieldType.int) ∈ lw_tbl := List.mem_of_getElem? (i := 164) (by decide +kernel)
theorem tw_98 : (Jvm.Cond.classLink "FoundryNine" (16 : Nat) "FoundryNine$Flaws") ∈ lw_tbl := List.mem_of_getElem? (i := 165) (by decide +kernel)
theorem tw_99 : (Jvm.Cond.instantiable "FoundryNine$Flaws" (6 : Nat)) ∈ lw_tbl := List.mem_of_getElem? (i := 166) (by decide +kernel)
theorem tw_100 : (Jvm.Cond.methodLink "FoundryNine" (18 : Nat) ({ cls := "FoundryNine$Flaws", name := "<init>", desc := "()V" } : Jvm.MethodName)) ∈ lw_tbl := List.mem_of_getElem? (i := 167) (by decide +kernel)
theorem tw_101 : (Jvm.Cond.instanceMethod ({ cls := "FoundryNine$Flaws", name := "<init>", desc := "()V" } : Jvm.MethodName)) ∈ lw_tbl := List.mem_of_getElem? (i := 168) (by decide +kernel)
set_option maxRecDepth 20000 in
theorem tw_102 : (Jvm.Cond.code ({ cls := "FoundryNine$Flaws", name := "<init>", desc := "()V" } : Jvm.MethodName) prog_4_method_1_code (1 : Nat) (Option.none : Option Jvm.ClassFile.FieldType)) ∈ lw_tbl := in_t1 (List.mem_of_getElem? (i := 102) rfl)
theorem tw_103 : (Jvm.Cond.methodLink "FoundryNine$Flaws" (3 : Nat) ({ cls := "java/lang/Object", name := "<init>", desc := "()V" } : Jvm.MethodName)) ∈ lw_tbl := List.mem_of_getElem? (i := 170) (by decide +kernel)
theorem tw_104 : (Jvm.Cond.fieldLink "FoundryNine$Flaws" (9 : Nat) "FoundryNine$Flaws" "code" "[I") ∈ lw_tbl := List.mem_of_getElem? (i := 171) (by decide +kernel)
theorem tw_105 : (Jvm.Cond.fieldLinkNest "FoundryNine" (111 : Nat) "FoundryNine$Flaws" "code" "[I" "FoundryNine") ∈ lw_tbl := List.mem_of_getElem? (i := 172) (by decide +kernel)
theorem tw_106 : (Jvm.Cond.fieldLink "FoundryNine$Flaws" (15 : Nat) "FoundryNine$Flaws" "place" "[I") ∈ lw_tbl := List.mem_of_getElem? (i := 173) (by decide +kernel)
theorem tw_107 : (Jvm.Cond.fieldLinkNest "FoundryNine" (114 : Nat) "FoundryNine$Flaws" "place" "[I" "FoundryNine") ∈ lw_tbl := List.mem_of_getElem? (i := 174) (by decide +kernel)
theorem tw_108 : (Jvm.Cond.fieldLink "FoundryNine$Flaws" (18 : Nat) "FoundryNine$Flaws" "inRing" "[Z") ∈ lw_tbl := List.mem_of_getElem? (i := 175) (by decide +kernel)
theorem tw_109 : (Jvm.Cond.fieldLinkNest "FoundryNine$Arrivals" (37 : Nat) "FoundryNine$Flaws" "inRing" "[Z" "FoundryNine") ∈ lw_tbl := List.mem_of_getElem? (i := 176) (by decide +kernel)
theorem tw_110 : (Jvm.Cond.fieldLink "FoundryNine$Flaws" (22 : Nat) "FoundryNine$Flaws" "reach" "[I") ∈ lw_tbl := List.mem_of_getElem? (i := 177) (by decide +kernel)
theorem tw_111 : (Jvm.Cond.fieldLink "FoundryNine$Flaws" (25 : Nat) "FoundryNine$Flaws" "count" "I") ∈ lw_tbl := List.mem_of_getElem? (i := 178) (by decide +kernel)
theorem tw_112 : (Jvm.Cond.fieldLinkNest "FoundryNine" (105 : Nat) "FoundryNine$Flaws" "count" "I" "FoundryNine") ∈ lw_tbl := List.mem_of_getElem? (i := 179) (by decide +kernel)
theorem tw_113 : (Jvm.Cond.fieldLink "FoundryNine$Flaws" (29 : Nat) "FoundryNine$Flaws" "forbidRunning" "Z") ∈ lw_tbl := List.mem_of_getElem? (i := 180) (by decide +kernel)
theorem tw_114 : (Jvm.Cond.fieldLinkNest "FoundryNine" (143 : Nat) "FoundryNine$Flaws" "forbidRunning" "Z" "FoundryNine") ∈ lw_tbl := List.mem_of_getElem? (i := 181) (by decide +kernel)
theorem tw_115 : (Jvm.Cond.laysFinal "FoundryNine$Flaws" "FoundryNine$Flaws" "code" "[I") ∈ lw_tbl := List.mem_of_getElem? (i := 182) (by decide +kernel)
theorem tw_116 : (Jvm.Cond.soleField "FoundryNine$Flaws" "code") ∈ lw_tbl := List.mem_of_getElem? (i := 183) (by decide +kernel)
theorem tw_117 : (Jvm.Cond.laysFinal "FoundryNine$Flaws" "FoundryNine$Flaws" "place" "[I") ∈ lw_tbl := List.mem_of_getElem? (i := 184) (by decide +kernel)
theorem tw_118 : (Jvm.Cond.soleField "FoundryNine$Flaws" "place") ∈ lw_tbl := List.mem_of_getElem? (i := 185) (by decide +kernel)
theorem tw_119 : (Jvm.Cond.laysFinal "FoundryNine$Flaws" "FoundryNine$Flaws" "inRing" "[Z") ∈ lw_tbl := List.mem_of_getElem? (i := 186) (by decide +kernel)
theorem tw_120 : (Jvm.Cond.soleField "FoundryNine$Flaws" "inRing") ∈ lw_tbl := List.mem_of_getElem? (i := 187) (by decide +kernel)
theorem tw_121 : (Jvm.Cond.laysFinal "FoundryNine$Flaws" "FoundryNine$Flaws" "reach" "[I") ∈ lw_tbl := List.mem_of_getElem? (i := 188) (by decide +kernel)
theorem tw_122 : (Jvm.Cond.soleField "FoundryNine$Flaws" "reach") ∈ lw_tbl := List.mem_of_getElem? (i := 189) (by decide +kernel)
theorem tw_123 : (Jvm.Cond.lays "FoundryNine$Flaws" "FoundryNine$Flaws" "count" "I") ∈ lw_tbl := List.mem_of_getElem? (i := 190) (by decide +kernel)
theorem tw_124 : (Jvm.Cond.soleField "FoundryNine$Flaws" "count") ∈ lw_tbl := List.mem_of_getElem? (i := 191) (by decide +kernel)
theorem tw_125 : (Jvm.Cond.lays "FoundryNine$Flaws" "FoundryNine$Flaws" "forbidRunning" "Z") ∈ lw_tbl := List.mem_of_getElem? (i := 192) (by decide +kernel)
theorem tw_126 : (Jvm.Cond.soleField "FoundryNine$Flaws" "forbidRunning") ∈ lw_tbl := List.mem_of_getElem? (i := 193) (by decide +kernel)
theorem tw_127 : (Jvm.Cond.superclass "FoundryNine$Flaws" "java/lang/Object") ∈ lw_tbl := List.mem_of_getElem? (i := 194) (by decide +kernel)
theorem tw_128 : (Jvm.Cond.arrayClass Jvm.ClassFile.FieldType.boolean) ∈ lw_tbl := List.mem_of_getElem? (i := 195) (by decide +kernel)
theorem tw_129 : (Jvm.Cond.classLink "FoundryNine" (23 : Nat) "FoundryNine$Arrivals") ∈ lw_tbl := List.mem_of_getElem? (i := 196) (by decide +kernel)
theorem tw_130 : (Jvm.Cond.instantiable "FoundryNine$Arrivals" (1 : Nat)) ∈ lw_tbl := List.mem_of_getElem? (i := 197) (by decide +kernel)
theorem tw_131 : (Jvm.Cond.methodLinkNest "FoundryNine" (25 : Nat) ({ cls := "FoundryNine$Arrivals", name := "<init>", desc := "()V" } : Jvm.MethodName) "FoundryNine") ∈ lw_tbl := List.mem_of_getElem? (i := 198) (by decide +kernel)
theorem tw_132 : (Jvm.Cond.instanceMethod ({ cls := "FoundryNine$Arrivals", name := "<init>", desc := "()V" } : Jvm.MethodName)) ∈ lw_tbl := List.mem_of_getElem? (i := 199) (by decide +kernel)
set_option maxRecDepth 20000 in
theorem tw_133 : (Jvm.Cond.code ({ cls := "FoundryNine$Arrivals", name := "<init>", desc := "()V" } : Jvm.MethodName) prog_2_method_1_code (1 : Nat) (Option.none : Option Jvm.ClassFile.FieldType)) ∈ lw_tbl := in_t1 (List.mem_of_getElem? (i := 133) rfl)
theorem tw_134 : (Jvm.Cond.methodLink "FoundryNine$Arrivals" (3 : Nat) ({ cls := "java/lang/Object", name := "<init>", desc := "()V" } : Jvm.MethodName)) ∈ lw_tbl := List.mem_of_getElem? (i := 201) (by decide +kernel)
theorem tw_135 : (Jvm.Cond.fieldLink "FoundryNine$Arrivals" (9 : Nat) "FoundryNine$Arrivals" "arrival" "[I") ∈ lw_tbl := List.mem_of_getElem? (i := 202) (by decide +kernel)
theorem tw_136 : (Jvm.Cond.fieldLinkNest "FoundryNine" (119 : Nat) "FoundryNine$Arrivals" "arrival" "[I" "FoundryNine") ∈ lw_tbl := List.mem_of_getElem? (i := 203) (by decide +kernel)
theorem tw_137 : (Jvm.Cond.laysFinal "FoundryNine$Arrivals" "FoundryNine$Arrivals" "arrival" "[I") ∈ lw_tbl := List.mem_of_getElem? (i := 204) (by decide +kernel)
theorem tw_138 : (Jvm.Cond.soleField "FoundryNine$Arrivals" "arrival") ∈ lw_tbl := List.mem_of_getElem? (i := 205) (by decide +kernel)
theorem tw_139 : (Jvm.Cond.superclass "FoundryNine$Arrivals" "java/lang/Object") ∈ lw_tbl := List.mem_of_getElem? (i := 206) (by decide +kernel)
theorem tw_140 : (Jvm.Cond.classLink "FoundryNine" (33 : Nat) "FoundryNine$Run") ∈ lw_tbl := List.mem_of_getElem? (i := 207) (by decide +kernel)
theorem tw_141 : (Jvm.Cond.instantiable "FoundryNine$Run" (18 : Nat)) ∈ lw_tbl := List.mem_of_getElem? (i := 208) (by decide +kernel)
theorem tw_142 : (Jvm.Cond.methodLink "FoundryNine" (35 : Nat) ({ cls := "FoundryNine$Run", name := "<init>", desc := "(LFoundryNine$Circuit;)V" } : Jvm.MethodName)) ∈ lw_tbl := List.mem_of_getElem? (i := 209) (by decide +kernel)
theorem tw_143 : (Jvm.Cond.instanceMethod ({ cls := "FoundryNine$Run", name := "<init>", desc := "(LFoundryNine$Circuit;)V" } : Jvm.MethodName)) ∈ lw_tbl := List.mem_of_getElem? (i := 210) (by decide +kernel)
set_option maxRecDepth 20000 in
theorem tw_144 : (Jvm.Cond.code ({ cls := "FoundryNine$Run", name := "<init>", desc := "(LFoundryNine$Circuit;)V" } : Jvm.MethodName) prog_5_method_1_code (2 : Nat) (Option.none : Option Jvm.ClassFile.FieldType)) ∈ lw_tbl := in_t1 (List.mem_of_getElem? (i := 144) rfl)
theorem tw_145 : (Jvm.Cond.methodLink "FoundryNine$Run" (3 : Nat) ({ cls := "java/lang/Object", name := "<init>", desc := "()V" } : Jvm.MethodName)) ∈ lw_tbl := List.mem_of_getElem? (i := 212) (by decide +kernel)
theorem tw_146 : (Jvm.Cond.methodLink "FoundryNine$Run" (49 : Nat) ({ cls := "FoundryNine$Run", name := "clear", desc := "()V" } : Jvm.MethodName)) ∈ lw_tbl := List.mem_of_getElem? (i := 213) (by decide +kernel)
theorem tw_147 : (Jvm.Cond.privateMethod ({ cls := "FoundryNine$Run", name := "clear", desc := "()V" } : Jvm.MethodName)) ∈ lw_tbl := List.mem_of_getElem? (i := 214) (by decide +kernel)
theorem tw_148 : (Jvm.Cond.instanceMethod ({ cls := "FoundryNine$Run", name := "clear", desc := "()V" } : Jvm.MethodName)) ∈ lw_tbl := List.mem_of_getElem? (i := 215) (by decide +kernel)
set_option maxRecDepth 20000 in
theorem tw_149 : (Jvm.Cond.code ({ cls := "FoundryNine$Run", name := "clear", desc := "()V" } : Jvm.MethodName) prog_5_method_2_code (1 : Nat) (Option.none : Option Jvm.ClassFile.FieldType)) ∈ lw_tbl := in_t1 (List.mem_of_getElem? (i := 149) rfl)
theorem tw_150 : (Jvm.Cond.methodLink "FoundryNine$Run" (52 : Nat) ({ cls := "java/util/Arrays", name := "fill", desc := "([II)V" } : Jvm.MethodName)) ∈ lw_tbl := List.mem_of_getElem? (i := 217) (by decide +kernel)
theorem tw_151 : (Jvm.Cond.methodLink "FoundryNine$Run" (58 : Nat) ({ cls := "FoundryNine$Run", name := "giveUpAll", desc := "()V" } : Jvm.MethodName)) ∈ lw_tbl := List.mem_of_getElem? (i := 218) (by decide +kernel)
theorem tw_152 : (Jvm.Cond.privateMethod ({ cls := "FoundryNine$Run", name := "giveUpAll", desc := "()V" } : Jvm.MethodName)) ∈ lw_tbl := List.mem_of_getElem? (i := 219) (by decide +kernel)
theorem tw_153 : (Jvm.Cond.instanceMethod ({ cls := "FoundryNine$Run", name := "giveUpAll", desc := "()V" } : Jvm.MethodName)) ∈ lw_tbl := List.mem_of_getElem? (i := 220) (by decide +kernel)
set_option maxRecDepth 20000 in
theorem tw_154 : (Jvm.Cond.code ({ cls := "FoundryNine$Run", name := "giveUpAll", desc := "()V" } : Jvm.MethodName) prog_5_method_12_code (1 : Nat) (Option.none : Option Jvm.ClassFile.FieldType)) ∈ lw_tbl := in_t1 (List.mem_of_getElem? (i := 154) rfl)
theorem tw_155 : (Jvm.Cond.methodLink "FoundryNine$Run" (61 : Nat) ({ cls := "FoundryNine$Run", name := "beginCounting", desc := "()V" } : Jvm.MethodName)) ∈ lw_tbl := List.mem_of_getElem? (i := 222) (by decide +kernel)
theorem tw_156 : (Jvm.Cond.privateMethod ({ cls := "FoundryNine$Run", name := "beginCounting", desc := "()V" } : Jvm.MethodName)) ∈ lw_tbl := List.mem_of_getElem? (i := 223) (by decide +kernel)
theorem tw_157 : (Jvm.Cond.instanceMethod ({ cls := "FoundryNine$Run", name := "beginCounting", desc := "()V" } : Jvm.MethodName)) ∈ lw_tbl := List.mem_of_getElem? (i := 224) (by decide +kernel)
set_option maxRecDepth 20000 in
theorem tw_158 : (Jvm.Cond.code ({ cls := "FoundryNine$Run", name := "beginCounting", desc := "()V" } : Jvm.MethodName) prog_5_method_13_code (1 : Nat) (Option.none : Option Jvm.ClassFile.FieldType)) ∈ lw_tbl := in_t1 (List.mem_of_getElem? (i := 158) rfl)
theorem tw_159 : (Jvm.Cond.methodLink "FoundryNine$Run" (83 : Nat) ({ cls := "java/lang/System", name := "arraycopy", desc := "(Ljava/lang/Object;ILjava/lang/Object;II)V" } : Jvm.MethodName)) ∈ lw_tbl := List.mem_of_getElem? (i := 226) (by decide +kernel)
theorem tw_160 : (Jvm.Cond.static ({ cls := "java/lang/System", name := "arraycopy", desc := "(Ljava/lang/Object;ILjava/lang/Object;II)V" } : Jvm.MethodName)) ∈ lw_tbl := List.mem_of_getElem? (i := 227) (by decide +kernel)
theorem tw_161 : (Jvm.Cond.native ({ cls := "java/lang/System", name := "arraycopy", desc := "(Ljava/lang/Object;ILjava/lang/Object;II)V" } : Jvm.MethodName)) ∈ lw_tbl := List.mem_of_getElem? (i := 228) (by decide +kernel)
theorem tw_162 : (Jvm.Cond.fieldLink "FoundryNine$Run" (45 : Nat) "FoundryNine$Run" "circuit" "LFoundryNine$Circuit;") ∈ lw_tbl := List.mem_of_getElem? (i := 229) (by decide +kernel)
theorem tw_163 : (Jvm.Cond.fieldLink "FoundryNine$Run" (9 : Nat) "FoundryNine$Run" "value" "[I") ∈ lw_tbl := List.mem_of_getElem? (i := 230) (by decide +kernel)
theorem tw_164 : (Jvm.Cond.fieldLinkNest "FoundryNine" (164 : Nat) "FoundryNine$Run" "value" "[I" "FoundryNine") ∈ lw_tbl := List.mem_of_getElem? (i := 231) (by decide +kernel)
theorem tw_165 : (Jvm.Cond.fieldLink "FoundryNine$Run" (15 : Nat) "FoundryNine$Run" "changedAt" "[I") ∈ lw_tbl := List.mem_of_getElem? (i := 232) (by decide +kernel)
theorem tw_166 : (Jvm.Cond.fieldLinkNest "FoundryNine" (195 : Nat) "FoundryNine$Run" "changedAt" "[I" "FoundryNine") ∈ lw_tbl := List.mem_of_getElem? (i := 233) (by decide +kernel)
theorem tw_167 : (Jvm.Cond.fieldLink "FoundryNine$Run" (18 : Nat) "FoundryNine$Run" "timesChanged" "[I") ∈ lw_tbl := List.mem_of_getElem? (i := 234) (by decide +kernel)
theorem tw_168 : (Jvm.Cond.fieldLinkNest "FoundryNine" (198 : Nat) "FoundryNine$Run" "timesChanged" "[I" "FoundryNine") ∈ lw_tbl := List.mem_of_getElem? (i := 235) (by decide +kernel)
theorem tw_169 : (Jvm.Cond.fieldLink "FoundryNine$Run" (21 : Nat) "FoundryNine$Run" "countedFrom" "[I") ∈ lw_tbl := List.mem_of_getElem? (i := 236) (by decide +kernel)
theorem tw_170 : (Jvm.Cond.fieldLinkNest "FoundryNine" (201 : Nat) "FoundryNine$Run" "countedFrom" "[I" "FoundryNine") ∈ lw_tbl := List.mem_of_getElem? (i := 237) (by decide +kernel)
theorem tw_171 : (Jvm.Cond.fieldLink "FoundryNine$Run" (24 : Nat) "FoundryNine$Run" "pendingValue" "[I") ∈ lw_tbl := List.mem_of_getElem? (i := 238) (by decide +kernel)
theorem tw_172 : (Jvm.Cond.fieldLinkNest "FoundryNine" (206 : Nat) "FoundryNine$Run" "pendingValue" "[I" "FoundryNine") ∈ lw_tbl := List.mem_of_getElem? (i := 239) (by decide +kernel)
theorem tw_173 : (Jvm.Cond.fieldLink "FoundryNine$Run" (27 : Nat) "FoundryNine$Run" "pendingTime" "[I") ∈ lw_tbl := List.mem_of_getElem? (i := 240) (by decide +kernel)
theorem tw_174 : (Jvm.Cond.fieldLink "FoundryNine$Run" (30 : Nat) "FoundryNine$Run" "pendingTurn" "[I") ∈ lw_tbl := List.mem_of_getElem? (i := 241) (by decide +kernel)
theorem tw_175 : (Jvm.Cond.fieldLink "FoundryNine$Run" (33 : Nat) "FoundryNine$Run" "riseAt" "[I") ∈ lw_tbl := List.mem_of_getElem? (i := 242) (by decide +kernel)
theorem tw_176 : (Jvm.Cond.fieldLink "FoundryNine$Run" (36 : Nat) "FoundryNine$Run" "hazardCode" "[I") ∈ lw_tbl := List.mem_of_getElem? (i := 243) (by decide +kernel)
theorem tw_177 : (Jvm.Cond.fieldLinkNest "FoundryNine" (214 : Nat) "FoundryNine$Run" "hazardCode" "[I" "FoundryNine") ∈ lw_tbl := List.mem_of_getElem? (i := 244) (by decide +kernel)
theorem tw_178 : (Jvm.Cond.fieldLink "FoundryNine$Run" (39 : Nat) "FoundryNine$Run" "hazardWire" "[I") ∈ lw_tbl := List.mem_of_getElem? (i := 245) (by decide +kernel)
theorem tw_179 : (Jvm.Cond.fieldLinkNest "FoundryNine" (217 : Nat) "FoundryNine$Run" "hazardWire" "[I" "FoundryNine") ∈ lw_tbl := List.mem_of_getElem? (i := 246) (by decide +kernel)
theorem tw_180 : (Jvm.Cond.fieldLink "FoundryNine$Run" (42 : Nat) "FoundryNine$Run" "hazardTime" "[I") ∈ lw_tbl := List.mem_of_getElem? (i := 247) (by decide +kernel)
theorem tw_181 : (Jvm.Cond.fieldLinkNest "FoundryNine" (220 : Nat) "FoundryNine$Run" "hazardTime" "[I" "FoundryNine") ∈ lw_tbl := List.mem_of_getElem? (i := 248) (by decide +kernel)
theorem tw_182 : (Jvm.Cond.fieldLink "FoundryNine$Run" (64 : Nat) "FoundryNine$Run" "hazardCount" "I") ∈ lw_tbl := List.mem_of_getElem? (i := 249) (by decide +kernel)
theorem tw_183 : (Jvm.Cond.fieldLinkNest "FoundryNine" (209 : Nat) "FoundryNine$Run" "hazardCount" "I" "FoundryNine") ∈ lw_tbl := List.mem_of_getElem? (i := 250) (by decide +kernel)
theorem tw_184 : (Jvm.Cond.fieldLink "FoundryNine$Run" (68 : Nat) "FoundryNine$Run" "now" "I") ∈ lw_tbl := List.mem_of_getElem? (i := 251) (by decide +kernel)
theorem tw_185 : (Jvm.Cond.fieldLinkNest "FoundryNine" (172 : Nat) "FoundryNine$Run" "now" "I" "FoundryNine") ∈ lw_tbl := List.mem_of_getElem? (i := 252) (by decide +kernel)
theorem tw_186 : (Jvm.Cond.fieldLink "FoundryNine$Run" (71 : Nat) "FoundryNine$Run" "turns" "I") ∈ lw_tbl := List.mem_of_getElem? (i := 253) (by decide +kernel)
theorem tw_187 : (Jvm.Cond.fieldLink "FoundryNine$Run" (74 : Nat) "FoundryNine$Run" "swallowed" "I") ∈ lw_tbl := List.mem_of_getElem? (i := 254) (by decide +kernel)
theorem tw_188 : (Jvm.Cond.fieldLinkNest "FoundryNine" (184 : Nat) "FoundryNine$Run" "swallowed" "I" "FoundryNine") ∈ lw_tbl := List.mem_of_getElem? (i := 255) (by decide +kernel)
theorem tw_189 : (Jvm.Cond.fieldLink "FoundryNine$Run" (77 : Nat) "FoundryNine$Run" "restless" "I") ∈ lw_tbl := List.mem_of_getElem? (i := 256) (by decide +kernel)
theorem tw_190 : (Jvm.Cond.fieldLinkNest "FoundryNine" (187 : Nat) "FoundryNine$Run" "restless" "I" "FoundryNine") ∈ lw_tbl := List.mem_of_getElem? (i := 257) (by decide +kernel)
theorem tw_191 : (Jvm.Cond.fieldLink "FoundryNine$Run" (80 : Nat) "FoundryNine$Run" "changes" "I") ∈ lw_tbl := List.mem_of_getElem? (i := 258) (by decide +kernel)
theorem tw_192 : (Jvm.Cond.fieldLinkNest "FoundryNine" (190 : Nat) "FoundryNine$Run" "changes" "I" "FoundryNine") ∈ lw_tbl := List.mem_of_getElem? (i := 259) (by decide +kernel)
theorem tw_193 : (Jvm.Cond.laysFinal "FoundryNine$Run" "FoundryNine$Run" "circuit" "LFoundryNine$Circuit;") ∈ lw_tbl := List.mem_of_getElem? (i := 260) (by decide +kernel)
theorem tw_194 : (Jvm.Cond.soleField "FoundryNine$Run" "circuit") ∈ lw_tbl := List.mem_of_getElem? (i := 261) (by decide +kernel)
theorem tw_195 : (Jvm.Cond.laysFinal "FoundryNine$Run" "FoundryNine$Run" "value" "[I") ∈ lw_tbl := List.mem_of_getElem? (i := 262) (by decide +kernel)
theorem tw_196 : (Jvm.Cond.soleField "FoundryNine$Run" "value") ∈ lw_tbl := List.mem_of_getElem? (i := 263) (by decide +kernel)
theorem tw_197 : (Jvm.Cond.laysFinal "FoundryNine$Run" "FoundryNine$Run" "changedAt" "[I") ∈ lw_tbl := List.mem_of_getElem? (i := 264) (by decide +kernel)
theorem tw_198 : (Jvm.Cond.soleField "FoundryNine$Run" "changedAt") ∈ lw_tbl := List.mem_of_getElem? (i := 265) (by decide +kernel)
theorem tw_199 : (Jvm.Cond.laysFinal "FoundryNine$Run" "FoundryNine$Run" "timesChanged" "[I") ∈ lw_tbl := List.mem_of_getElem? (i := 266) (by decide +kernel)
theorem tw_200 : (Jvm.Cond.soleField "FoundryNine$Run" "timesChanged") ∈ lw_tbl := List.mem_of_getElem? (i := 267) (by decide +kernel)
theorem tw_201 : (Jvm.Cond.laysFinal "FoundryNine$Run" "FoundryNine$Run" "countedFrom" "[I") ∈ lw_tbl := List.mem_of_getElem? (i := 268) (by decide +kernel)
theorem tw_202 : (Jvm.Cond.soleField "FoundryNine$Run" "countedFrom") ∈ lw_tbl := List.mem_of_getElem? (i := 269) (by decide +kernel)
theorem tw_203 : (Jvm.Cond.laysFinal "FoundryNine$Run" "FoundryNine$Run" "pendingValue" "[I") ∈ lw_tbl := List.mem_of_getElem? (i := 270) (by decide +kernel)
theorem tw_204 : (Jvm.Cond.soleField "FoundryNine$Run" "pendingValue") ∈ lw_tbl := List.mem_of_getElem? (i := 271) (by decide +kernel)
theorem tw_205 : (Jvm.Cond.laysFinal "FoundryNine$Run" "FoundryNine$Run" "pendingTime" "[I") ∈ lw_tbl := List.mem_of_getElem? (i := 272) (by decide +kernel)
theorem tw_206 : (Jvm.Cond.soleField "FoundryNine$Run" "pendingTime") ∈ lw_tbl := List.mem_of_getElem? (i := 273) (by decide +kernel)
theorem tw_207 : (Jvm.Cond.laysFinal "FoundryNine$Run" "FoundryNine$Run" "pendingTurn" "[I") ∈ lw_tbl := List.mem_of_getElem? (i := 274) (by decide +kernel)
theorem tw_208 : (Jvm.Cond.soleField "FoundryNine$Run" "pendingTurn") ∈ lw_tbl := List.mem_of_getElem? (i := 275) (by decide +kernel)
theorem tw_209 : (Jvm.Cond.laysFinal "FoundryNine$Run" "FoundryNine$Run" "riseAt" "[I") ∈ lw_tbl := List.mem_of_getElem? (i := 276) (by decide +kernel)
theorem tw_210 : (Jvm.Cond.soleField "FoundryNine$Run" "riseAt") ∈ lw_tbl := List.mem_of_getElem? (i := 277) (by decide +kernel)
theorem tw_211 : (Jvm.Cond.laysFinal "FoundryNine$Run" "FoundryNine$Run" "hazardCode" "[I") ∈ lw_tbl := List.mem_of_getElem? (i := 278) (by decide +kernel)
theorem tw_212 : (Jvm.Cond.soleField "FoundryNine$Run" "hazardCode") ∈ lw_tbl := List.mem_of_getElem? (i := 279) (by decide +kernel)
theorem tw_213 : (Jvm.Cond.laysFinal "FoundryNine$Run" "FoundryNine$Run" "hazardWire" "[I") ∈ lw_tbl := List.mem_of_getElem? (i := 280) (by decide +kernel)
theorem tw_214 : (Jvm.Cond.soleField "FoundryNine$Run" "hazardWire") ∈ lw_tbl := List.mem_of_getElem? (i := 281) (by decide +kernel)
theorem tw_215 : (Jvm.Cond.laysFinal "FoundryNine$Run" "FoundryNine$Run" "hazardTime" "[I") ∈ lw_tbl := List.mem_of_getElem? (i := 282) (by decide +kernel)
theorem tw_216 : (Jvm.Cond.soleField "FoundryNine$Run" "hazardTime") ∈ lw_tbl := List.mem_of_getElem? (i := 283) (by decide +kernel)
theorem tw_217 : (Jvm.Cond.lays "FoundryNine$Run" "FoundryNine$Run" "hazardCount" "I") ∈ lw_tbl := List.mem_of_getElem? (i := 284) (by decide +kernel)
theorem tw_218 : (Jvm.Cond.soleField "FoundryNine$Run" "hazardCount") ∈ lw_tbl := List.mem_of_getElem? (i := 285) (by decide +kernel)
theorem tw_219 : (Jvm.Cond.lays "FoundryNine$Run" "FoundryNine$Run" "now" "I") ∈ lw_tbl := List.mem_of_getElem? (i := 286) (by decide +kernel)
theorem tw_220 : (Jvm.Cond.soleField "FoundryNine$Run" "now") ∈ lw_tbl := List.mem_of_getElem? (i := 287) (by decide +kernel)
theorem tw_221 : (Jvm.Cond.lays "FoundryNine$Run" "FoundryNine$Run" "turns" "I") ∈ lw_tbl := List.mem_of_getElem? (i := 288) (by decide +kernel)
theorem tw_222 : (Jvm.Cond.soleField "FoundryNine$Run" "turns") ∈ lw_tbl := List.mem_of_getElem? (i := 289) (by decide +kernel)
theorem tw_223 : (Jvm.Cond.lays "FoundryNine$Run" "FoundryNine$Run" "swallowed" "I") ∈ lw_tbl := List.mem_of_getElem? (i := 290) (by decide +kernel)
theorem tw_224 : (Jvm.Cond.soleField "FoundryNine$Run" "swallowed") ∈ lw_tbl := List.mem_of_getElem? (i := 291) (by decide +kernel)
theorem tw_225 : (Jvm.Cond.lays "FoundryNine$Run" "FoundryNine$Run" "restless" "I") ∈ lw_tbl := List.mem_of_getElem? (i := 292) (by decide +kernel)
theorem tw_226 : (Jvm.Cond.soleField "FoundryNine$Run" "restless") ∈ lw_tbl := List.mem_of_getElem? (i := 293) (by decide +kernel)
theorem tw_227 : (Jvm.Cond.lays "FoundryNine$Run" "FoundryNine$Run" "changes" "I") ∈ lw_tbl := List.mem_of_getElem? (i := 294) (by decide +kernel)
theorem tw_228 : (Jvm.Cond.soleField "FoundryNine$Run" "changes") ∈ lw_tbl := List.mem_of_getElem? (i := 295) (by decide +kernel)
theorem tw_229 : (Jvm.Cond.superclass "FoundryNine$Run" "java/lang/Object") ∈ lw_tbl := List.mem_of_getElem? (i := 296) (by decide +kernel)
theorem tw_230 : (Jvm.Cond.fieldLink "FoundryNine" (10 : Nat) "FoundryNine" "circuit" "LFoundryNine$Circuit;") ∈ lw_tbl := List.mem_of_getElem? (i := 297) (by decide +kernel)
theorem tw_231 : (Jvm.Cond.fieldLink "FoundryNine" (19 : Nat) "FoundryNine" "noted" "LFoundryNine$Flaws;") ∈ lw_tbl := List.mem_of_getElem? (i := 298) (by decide +kernel)
theorem tw_232 : (Jvm.Cond.fieldLink "FoundryNine" (26 : Nat) "FoundryNine" "arrivals" "LFoundryNine$Arrivals;") ∈ lw_tbl := List.mem_of_getElem? (i := 299) (by decide +kernel)
theorem tw_233 : (Jvm.Cond.fieldLink "FoundryNine" (30 : Nat) "FoundryNine" "arrivalsWith" "LFoundryNine$Arrivals;") ∈ lw_tbl := List.mem_of_getElem? (i := 300) (by decide +kernel)
theorem tw_234 : (Jvm.Cond.fieldLink "FoundryNine" (38 : Nat) "FoundryNine" "run" "LFoundryNine$Run;") ∈ lw_tbl := List.mem_of_getElem? (i := 301) (by decide +kernel)
theorem tw_235 : (Jvm.Cond.fieldLink "FoundryNine" (42 : Nat) "FoundryNine" "trial" "LFoundryNine$Run;") ∈ lw_tbl := List.mem_of_getElem? (i := 302) (by decide +kernel)
theorem tw_236 : (Jvm.Cond.fieldLink "FoundryNine" (45 : Nat) "FoundryNine" "running" "Z") ∈ lw_tbl := List.mem_of_getElem? (i := 303) (by decide +kernel)
theorem tw_237 : (Jvm.Cond.laysFinal "FoundryNine" "FoundryNine" "circuit" "LFoundryNine$Circuit;") ∈ lw_tbl := List.mem_of_getElem? (i := 304) (by decide +kernel)
theorem tw_238 : (Jvm.Cond.soleField "FoundryNine" "circuit") ∈ lw_tbl := List.mem_of_getElem? (i := 305) (by decide +kernel)
theorem tw_239 : (Jvm.Cond.laysFinal "FoundryNine" "FoundryNine" "noted" "LFoundryNine$Flaws;") ∈ lw_tbl := List.mem_of_getElem? (i := 306) (by decide +kernel)
theorem tw_240 : (Jvm.Cond.soleField "FoundryNine" "noted") ∈ lw_tbl := List.mem_of_getElem? (i := 307) (by decide +kernel)
theorem tw_241 : (Jvm.Cond.laysFinal "FoundryNine" "FoundryNine" "arrivals" "LFoundryNine$Arrivals;") ∈ lw_tbl := List.mem_of_getElem? (i := 308) (by decide +kernel)
theorem tw_242 : (Jvm.Cond.soleField "FoundryNine" "arrivals") ∈ lw_tbl := List.mem_of_getElem? (i := 309) (by decide +kernel)
theorem tw_243 : (Jvm.Cond.laysFinal "FoundryNine" "FoundryNine" "arrivalsWith" "LFoundryNine$Arrivals;") ∈ lw_tbl := List.mem_of_getElem? (i := 310) (by decide +kernel)
theorem tw_244 : (Jvm.Cond.soleField "FoundryNine" "arrivalsWith") ∈ lw_tbl := List.mem_of_getElem? (i := 311) (by decide +kernel)
theorem tw_245 : (Jvm.Cond.laysFinal "FoundryNine" "FoundryNine" "run" "LFoundryNine$Run;") ∈ lw_tbl := List.mem_of_getElem? (i := 312) (by decide +kernel)
theorem tw_246 : (Jvm.Cond.soleField "FoundryNine" "run") ∈ lw_tbl := List.mem_of_getElem? (i := 313) (by decide +kernel)
theorem tw_247 : (Jvm.Cond.laysFinal "FoundryNine" "FoundryNine" "trial" "LFoundryNine$Run;") ∈ lw_tbl := List.mem_of_getElem? (i := 314) (by decide +kernel)
theorem tw_248 : (Jvm.Cond.soleField "FoundryNine" "trial") ∈ lw_tbl := List.mem_of_getElem? (i := 315) (by decide +kernel)
theorem tw_249 : (Jvm.Cond.lays "FoundryNine" "FoundryNine" "running" "Z") ∈ lw_tbl := List.mem_of_getElem? (i := 316) (by decide +kernel)
theorem tw_250 : (Jvm.Cond.soleField "FoundryNine" "running") ∈ lw_tbl := List.mem_of_getElem? (i := 317) (by decide +kernel)
theorem tw_251 : (Jvm.Cond.superclass "FoundryNine" "java/lang/Object") ∈ lw_tbl := List.mem_of_getElem? (i := 318) (by decide +kernel)
theorem tw_252 : (Jvm.Cond.methodLink "FoundryNineLaw" (110 : Nat) ({ cls := "FoundryNine", name := "lines", desc := "()I" } : Jvm.MethodName)) ∈ lw_tbl := List.mem_of_getElem? (i := 319) (by decide +kernel)
theorem tw_253 : (Jvm.Cond.instanceMethod ({ cls := "FoundryNine", name := "lines", desc := "()I" } : Jvm.MethodName)) ∈ lw_tbl := List.mem_of_getElem? (i := 320) (by decide +kernel)
theorem tw_254 : (Jvm.Cond.selects "FoundryNine" ({ cls := "FoundryNine", name := "lines", desc := "()I" } : Jvm.MethodName) ({ cls := "FoundryNine", name := "lines", desc := "()I" } : Jvm.MethodName)) ∈ lw_tbl := List.mem_of_getElem? (i := 321) (by decide +kernel)
set_option maxRecDepth 20000 in
theorem tw_255 : (Jvm.Cond.code ({ cls := "FoundryNine", name := "lines", desc := "()I" } : Jvm.MethodName) prog_1_method_7_code (1 : Nat) (Option.some Jvm.ClassFile.FieldType.int)) ∈ lw_tbl := in_t2 (List.mem_of_getElem? (i := 15) rfl)
theorem tw_256 : (Jvm.Cond.methodLink "FoundryNineLaw" (114 : Nat) ({ cls := "FoundryNine", name := "flaws", desc := "()I" } : Jvm.MethodName)) ∈ lw_tbl := List.mem_of_getElem? (i := 323) (by decide +kernel)
theorem tw_257 : (Jvm.Cond.instanceMethod ({ cls := "FoundryNine", name := "flaws", desc := "()I" } : Jvm.MethodName)) ∈ lw_tbl := List.mem_of_getElem? (i := 324) (by decide +kernel)
theorem tw_258 : (Jvm.Cond.selects "FoundryNine" ({ cls := "FoundryNine", name := "flaws", desc := "()I" } : Jvm.MethodName) ({ cls := "FoundryNine", name := "flaws", desc := "()I" } : Jvm.MethodName)) ∈ lw_tbl := List.mem_of_getElem? (i := 325) (by decide +kernel)
set_option maxRecDepth 20000 in
theorem tw_259 : (Jvm.Cond.code ({ cls := "FoundryNine", name := "flaws", desc := "()I" } : Jvm.MethodName) prog_1_method_8_code (1 : Nat) (Option.some Jvm.ClassFile.FieldType.int)) ∈ lw_tbl := in_t2 (List.mem_of_getElem? (i := 19) rfl)
theorem tw_260 : (Jvm.Cond.methodLink "FoundryNineLaw" (124 : Nat) ({ cls := "FoundryNine", name := "longest", desc := "()I" } : Jvm.MethodName)) ∈ lw_tbl := List.mem_of_getElem? (i := 327) (by decide +kernel)
theorem tw_261 : (Jvm.Cond.instanceMethod ({ cls := "FoundryNine", name := "longest", desc := "()I" } : Jvm.MethodName)) ∈ lw_tbl := List.mem_of_getElem? (i := 328) (by decide +kernel)
theorem tw_262 : (Jvm.Cond.selects "FoundryNine" ({ cls := "FoundryNine", name := "longest", desc := "()I" } : Jvm.MethodName) ({ cls := "FoundryNine", name := "longest", desc := "()I" } : Jvm.MethodName)) ∈ lw_tbl := List.mem_of_getElem? (i := 329) (by decide +kernel)
set_option maxRecDepth 20000 in
theorem tw_263 : (Jvm.Cond.code ({ cls := "FoundryNine", name := "longest", desc := "()I" } : Jvm.MethodName) prog_1_method_11_code (1 : Nat) (Option.some Jvm.ClassFile.FieldType.int)) ∈ lw_tbl := in_t2 (List.mem_of_getElem? (i := 23) rfl)
theorem tw_264 : (Jvm.Cond.methodLink "FoundryNine" (122 : Nat) ({ cls := "FoundryNine$Arrivals", name := "greatest", desc := "()I" } : Jvm.MethodName)) ∈ lw_tbl := List.mem_of_getElem? (i := 331) (by decide +kernel)
theorem tw_265 : (Jvm.Cond.instanceMethod ({ cls := "FoundryNine$Arrivals", name := "greatest", desc := "()I" } : Jvm.MethodName)) ∈ lw_tbl := List.mem_of_getElem? (i := 332) (by decide +kernel)
theorem tw_266 : (Jvm.Cond.selects "FoundryNine$Arrivals" ({ cls := "FoundryNine$Arrivals", name := "greatest", desc := "()I" } : Jvm.MethodName) ({ cls := "FoundryNine$Arrivals", name := "greatest", desc := "()I" } : Jvm.MethodName)) ∈ lw_tbl := List.mem_of_getElem? (i := 333) (by decide +kernel)
set_option maxRecDepth 20000 in
theorem tw_267 : (Jvm.Cond.code ({ cls := "FoundryNine$Arrivals", name := "greatest", desc := "()I" } : Jvm.MethodName) prog_2_method_5_code (3 : Nat) (Option.some Jvm.ClassFile.FieldType.int)) ∈ lw_tbl := in_t2 (List.mem_of_getElem? (i := 27) rfl)
theorem tw_268 : (Jvm.Cond.methodLink "FoundryNine$Arrivals" (55 : Nat) ({ cls := "java/lang/Math", name := "max", desc := "(II)I" } : Jvm.MethodName)) ∈ lw_tbl := List.mem_of_getElem? (i := 335) (by decide +kernel)
theorem tw_269 : (Jvm.Cond.static ({ cls := "java/lang/Math", name := "max", desc := "(II)I" } : Jvm.MethodName)) ∈ lw_tbl := List.mem_of_getElem? (i := 336) (by decide +kernel)
set_option maxRecDepth 20000 in
theorem tw_270 : (Jvm.Cond.code ({ cls := "java/lang/Math", name := "max", desc := "(II)I" } : Jvm.MethodName) prog_13_method_65_code (2 : Nat) (Option.some Jvm.ClassFile.FieldType.int)) ∈ lw_tbl := in_t2 (List.mem_of_getElem? (i := 30) rfl)
theorem tw_271 : (Jvm.Cond.methodLink "FoundryNineLaw" (128 : Nat) ({ cls := "FoundryNine", name := "way", desc := "(I)I" } : Jvm.MethodName)) ∈ lw_tbl := List.mem_of_getElem? (i := 338) (by decide +kernel)
theorem tw_272 : (Jvm.Cond.instanceMethod ({ cls := "FoundryNine", name := "way", desc := "(I)I" } : Jvm.MethodName)) ∈ lw_tbl := List.mem_of_getElem? (i := 339) (by decide +kernel)
theorem tw_273 : (Jvm.Cond.selects "FoundryNine" ({ cls := "FoundryNine", name := "way", desc := "(I)I" } : Jvm.MethodName) ({ cls := "FoundryNine", name := "way", desc := "(I)I" } : Jvm.MethodName)) ∈ lw_tbl := List.mem_of_getElem? (i := 340) (by decide +kernel)
set_option maxRecDepth 20000 in
theorem tw_274 : (Jvm.Cond.code ({ cls := "FoundryNine", name := "way", desc := "(I)I" } : Jvm.MethodName) prog_1_method_12_code (4 : Nat) (Option.some Jvm.ClassFile.FieldType.int)) ∈ lw_tbl := in_t2 (List.mem_of_getElem? (i := 34) rfl)
theorem tw_275 : (Jvm.Cond.methodLink "FoundryNine" (126 : Nat) ({ cls := "FoundryNine$Arrivals", name := "latestDriven", desc := "(LFoundryNine$Circuit;)I" } : Jvm.MethodName)) ∈ lw_tbl := List.mem_of_getElem? (i := 342) (by decide +kernel)
theorem tw_276 : (Jvm.Cond.instanceMethod ({ cls := "FoundryNine$Arrivals", name := "latestDriven", desc := "(LFoundryNine$Circuit;)I" } : Jvm.MethodName)) ∈ lw_tbl := List.mem_of_getElem? (i := 343) (by decide +kernel)
theorem tw_277 : (Jvm.Cond.selects "FoundryNine$Arrivals" ({ cls := "FoundryNine$Arrivals", name := "latestDriven", desc := "(LFoundryNine$Circuit;)I" } : Jvm.MethodName) ({ cls := "FoundryNine$Arrivals", name := "latestDriven", desc := "(LFoundryNine$Circuit;)I" } : Jvm.MethodName)) ∈ lw_tbl := List.mem_of_getElem? (i := 344) (by decide +kernel)
set_option maxRecDepth 20000 in
theorem tw_278 : (Jvm.Cond.code ({ cls := "FoundryNine$Arrivals", name := "latestDriven", desc := "(LFoundryNine$Circuit;)I" } : Jvm.MethodName) prog_2_method_6_code (5 : Nat) (Option.some Jvm.ClassFile.FieldType.int)) ∈ lw_tbl := in_t2 (List.mem_of_getElem? (i := 38) rfl)
theorem tw_279 : (Jvm.Cond.methodLink "FoundryNine" (130 : Nat) ({ cls := "FoundryNine$Arrivals", name := "wireBehind", desc := "(LFoundryNine$Circuit;I)I" } : Jvm.MethodName)) ∈ lw_tbl := List.mem_of_getElem? (i := 346) (by decide +kernel)
theorem tw_280 : (Jvm.Cond.instanceMethod ({ cls := "FoundryNine$Arrivals", name := "wireBehind", desc := "(LFoundryNine$Circuit;I)I" } : Jvm.MethodName)) ∈ lw_tbl := List.mem_of_getElem? (i := 347) (by decide +kernel)
theorem tw_281 : (Jvm.Cond.selects "FoundryNine$Arrivals" ({ cls := "FoundryNine$Arrivals", name := "wireBehind", desc := "(LFoundryNine$Circuit;I)I" } : Jvm.MethodName) ({ cls := "FoundryNine$Arrivals", name := "wireBehind", desc := "(LFoundryNine$Circuit;I)I" } : Jvm.MethodName)) ∈ lw_tbl := List.mem_of_getElem? (i := 348) (by decide +kernel)
set_option maxRecDepth 20000 in
theorem tw_282 : (Jvm.Cond.code ({ cls := "FoundryNine$Arrivals", name := "wireBehind", desc := "(LFoundryNine$Circuit;I)I" } : Jvm.MethodName) prog_2_method_7_code (5 : Nat) (Option.some Jvm.ClassFile.FieldType.int)) ∈ lw_tbl := in_t2 (List.mem_of_getElem? (i := 42) rfl)
theorem tw_283 : (Jvm.Cond.methodLink "FoundryNine$Arrivals" (21 : Nat) ({ cls := "FoundryNine$Circuit", name := "firstLineOf", desc := "(I)I" } : Jvm.MethodName)) ∈ lw_tbl := List.mem_of_getElem? (i := 350) (by decide +kernel)
theorem tw_284 : (Jvm.Cond.instanceMethod ({ cls := "FoundryNine$Circuit", name := "firstLineOf", desc := "(I)I" } : Jvm.MethodName)) ∈ lw_tbl := List.mem_of_getElem? (i := 351) (by decide +kernel)
theorem tw_285 : (Jvm.Cond.selects "FoundryNine$Circuit" ({ cls := "FoundryNine$Circuit", name := "firstLineOf", desc := "(I)I" } : Jvm.MethodName) ({ cls := "FoundryNine$Circuit", name := "firstLineOf", desc := "(I)I" } : Jvm.MethodName)) ∈ lw_tbl := List.mem_of_getElem? (i := 352) (by decide +kernel)
set_option maxRecDepth 20000 in
theorem tw_286 : (Jvm.Cond.code ({ cls := "FoundryNine$Circuit", name := "firstLineOf", desc := "(I)I" } : Jvm.MethodName) prog_3_method_7_code (3 : Nat) (Option.some Jvm.ClassFile.FieldType.int)) ∈ lw_tbl := in_t2 (List.mem_of_getElem? (i := 46) rfl)
theorem tw_287 : (Jvm.Cond.methodLinkNest "FoundryNine$Circuit" (55 : Nat) ({ cls := "FoundryNine", name := "isWire", desc := "(I)Z" } : Jvm.MethodName) "FoundryNine") ∈ lw_tbl := List.mem_of_getElem? (i := 354) (by decide +kernel)
theorem tw_288 : (Jvm.Cond.static ({ cls := "FoundryNine", name := "isWire", desc := "(I)Z" } : Jvm.MethodName)) ∈ lw_tbl := List.mem_of_getElem? (i := 355) (by decide +kernel)
set_option maxRecDepth 20000 in
theorem tw_289 : (Jvm.Cond.code ({ cls := "FoundryNine", name := "isWire", desc := "(I)Z" } : Jvm.MethodName) prog_1_method_35_code (1 : Nat) (Option.some Jvm.ClassFile.FieldType.boolean)) ∈ lw_tbl := in_t2 (List.mem_of_getElem? (i := 49) rfl)
theorem tw_290 : (Jvm.Cond.methodLink "FoundryNine$Arrivals" (68 : Nat) ({ cls := "FoundryNine$Circuit", name := "isGate", desc := "(I)Z" } : Jvm.MethodName)) ∈ lw_tbl := List.mem_of_getElem? (i := 357) (by decide +kernel)
theorem tw_291 : (Jvm.Cond.instanceMethod ({ cls := "FoundryNine$Circuit", name := "isGate", desc := "(I)Z" } : Jvm.MethodName)) ∈ lw_tbl := List.mem_of_getElem? (i := 358) (by decide +kernel)
theorem tw_292 : (Jvm.Cond.selects "FoundryNine$Circuit" ({ cls := "FoundryNine$Circuit", name := "isGate", desc := "(I)Z" } : Jvm.MethodName) ({ cls := "FoundryNine$Circuit", name := "isGate", desc := "(I)Z" } : Jvm.MethodName)) ∈ lw_tbl := List.mem_of_getElem? (i := 359) (by decide +kernel)
set_option maxRecDepth 20000 in
theorem tw_293 : (Jvm.Cond.code ({ cls := "FoundryNine$Circuit", name := "isGate", desc := "(I)Z" } : Jvm.MethodName) prog_3_method_4_code (2 : Nat) (Option.some Jvm.ClassFile.FieldType.boolean)) ∈ lw_tbl := in_t2 (List.mem_of_getElem? (i := 53) rfl)
theorem tw_294 : (Jvm.Cond.methodLink "FoundryNine$Arrivals" (46 : Nat) ({ cls := "FoundryNine$Arrivals", name := "arrivalOf", desc := "(I)I" } : Jvm.MethodName)) ∈ lw_tbl := List.mem_of_getElem? (i := 361) (by decide +kernel)
theorem tw_295 : (Jvm.Cond.privateMethod ({ cls := "FoundryNine$Arrivals", name := "arrivalOf", desc := "(I)I" } : Jvm.MethodName)) ∈ lw_tbl := List.mem_of_getElem? (i := 362) (by decide +kernel)
theorem tw_296 : (Jvm.Cond.instanceMethod ({ cls := "FoundryNine$Arrivals", name := "arrivalOf", desc := "(I)I" } : Jvm.MethodName)) ∈ lw_tbl := List.mem_of_getElem? (i := 363) (by decide +kernel)
set_option maxRecDepth 20000 in
theorem tw_297 : (Jvm.Cond.code ({ cls := "FoundryNine$Arrivals", name := "arrivalOf", desc := "(I)I" } : Jvm.MethodName) prog_2_method_4_code (2 : Nat) (Option.some Jvm.ClassFile.FieldType.int)) ∈ lw_tbl := in_t2 (List.mem_of_getElem? (i := 57) rfl)
theorem tw_298 : (Jvm.Cond.methodLinkNest "FoundryNine$Arrivals" (61 : Nat) ({ cls := "FoundryNine", name := "isWire", desc := "(I)Z" } : Jvm.MethodName) "FoundryNine") ∈ lw_tbl := List.mem_of_getElem? (i := 365) (by decide +kernel)
theorem tw_299 : (Jvm.Cond.methodLink "FoundryNineLaw" (148 : Nat) ({ cls := "FoundryNine", name := "isRunning", desc := "()Z" } : Jvm.MethodName)) ∈ lw_tbl := List.mem_of_getElem? (i := 366) (by decide +kernel)
theorem tw_300 : (Jvm.Cond.instanceMethod ({ cls := "FoundryNine", name := "isRunning", desc := "()Z" } : Jvm.MethodName)) ∈ lw_tbl := List.mem_of_getElem? (i := 367) (by decide +kernel)
theorem tw_301 : (Jvm.Cond.selects "FoundryNine" ({ cls := "FoundryNine", name := "isRunning", desc := "()Z" } : Jvm.MethodName) ({ cls := "FoundryNine", name := "isRunning", desc := "()Z" } : Jvm.MethodName)) ∈ lw_tbl := List.mem_of_getElem? (i := 368) (by decide +kernel)
set_option maxRecDepth 20000 in
theorem tw_302 : (Jvm.Cond.code ({ cls := "FoundryNine", name := "isRunning", desc := "()Z" } : Jvm.MethodName) prog_1_method_18_code (1 : Nat) (Option.some Jvm.ClassFile.FieldType.boolean)) ∈ lw_tbl := in_t2 (List.mem_of_getElem? (i := 62) rfl)
theorem tw_303 : (Jvm.Cond.methodLink "FoundryNineLaw" (162 : Nat) ({ cls := "FoundryNine", name := "hazards", desc := "()I" } : Jvm.MethodName)) ∈ lw_tbl := List.mem_of_getElem? (i := 370) (by decide +kernel)
theorem tw_304 : (Jvm.Cond.instanceMethod ({ cls := "FoundryNine", name := "hazards", desc := "()I" } : Jvm.MethodName)) ∈ lw_tbl := List.mem_of_getElem? (i := 371) (by decide +kernel)
theorem tw_305 : (Jvm.Cond.selects "FoundryNine" ({ cls := "FoundryNine", name := "hazards", desc := "()I" } : Jvm.MethodName) ({ cls := "FoundryNine", name := "hazards", desc := "()I" } : Jvm.MethodName)) ∈ lw_tbl := List.mem_of_getElem? (i := 372) (by decide +kernel)
set_option maxRecDepth 20000 in
theorem tw_306 : (Jvm.Cond.code ({ cls := "FoundryNine", name := "hazards", desc := "()I" } : Jvm.MethodName) prog_1_method_22_code (1 : Nat) (Option.some Jvm.ClassFile.FieldType.int)) ∈ lw_tbl := in_t2 (List.mem_of_getElem? (i := 66) rfl)
theorem tw_307 : (Jvm.Cond.methodLink "FoundryNineLaw" (181 : Nat) ({ cls := "FoundryNine", name := "meanArrival", desc := "()D" } : Jvm.MethodName)) ∈ lw_tbl := List.mem_of_getElem? (i := 374) (by decide +kernel)
theorem tw_308 : (Jvm.Cond.instanceMethod ({ cls := "FoundryNine", name := "meanArrival", desc := "()D" } : Jvm.MethodName)) ∈ lw_tbl := List.mem_of_getElem? (i := 375) (by decide +kernel)
theorem tw_309 : (Jvm.Cond.selects "FoundryNine" ({ cls := "FoundryNine", name := "meanArrival", desc := "()D" } : Jvm.MethodName) ({ cls := "FoundryNine", name := "meanArrival", desc := "()D" } : Jvm.MethodName)) ∈ lw_tbl := List.mem_of_getElem? (i := 376) (by decide +kernel)
set_option maxRecDepth 20000 in
theorem tw_310 : (Jvm.Cond.code ({ cls := "FoundryNine", name := "meanArrival", desc := "()D" } : Jvm.MethodName) prog_1_method_28_code (4 : Nat) (Option.some Jvm.ClassFile.FieldType.double)) ∈ lw_tbl := in_t2 (List.mem_of_getElem? (i := 70) rfl)
theorem tw_311 : (Jvm.Cond.methodLink "FoundryNineLaw" (186 : Nat) ({ cls := "FoundryNine", name := "digest", desc := "()J" } : Jvm.MethodName)) ∈ lw_tbl := List.mem_of_getElem? (i := 378) (by decide +kernel)
theorem tw_312 : (Jvm.Cond.instanceMethod ({ cls := "FoundryNine", name := "digest", desc := "()J" } : Jvm.MethodName)) ∈ lw_tbl := List.mem_of_getElem? (i := 379) (by decide +kernel)
theorem tw_313 : (Jvm.Cond.selects "FoundryNine" ({ cls := "FoundryNine", name := "digest", desc := "()J" } : Jvm.MethodName) ({ cls := "FoundryNine", name := "digest", desc := "()J" } : Jvm.MethodName)) ∈ lw_tbl := List.mem_of_getElem? (i := 380) (by decide +kernel)
set_option maxRecDepth 20000 in
theorem tw_314 : (Jvm.Cond.code ({ cls := "FoundryNine", name := "digest", desc := "()J" } : Jvm.MethodName) prog_1_method_29_code (3 : Nat) (Option.some Jvm.ClassFile.FieldType.long)) ∈ lw_tbl := in_t2 (List.mem_of_getElem? (i := 74) rfl)
theorem tw_315 : (Jvm.Cond.constantLong "FoundryNine" (233 : Nat) (58070 : Int64)) ∈ lw_tbl := List.mem_of_getElem? (i := 382) (by decide +kernel)
theorem tw_316 : (Jvm.Cond.constantLong "FoundryNine" (235 : Nat) (31 : Int64)) ∈ lw_tbl := List.mem_of_getElem? (i := 383) (by decide +kernel)
theorem tw_317 : (Jvm.Cond.methodLink "FoundryNine" (237 : Nat) ({ cls := "FoundryNine", name := "lines", desc := "()I" } : Jvm.MethodName)) ∈ lw_tbl := List.mem_of_getElem? (i := 384) (by decide +kernel)
theorem tw_318 : (Jvm.Cond.methodLink "FoundryNine" (240 : Nat) ({ cls := "FoundryNine", name := "flaws", desc := "()I" } : Jvm.MethodName)) ∈ lw_tbl := List.mem_of_getElem? (i := 385) (by decide +kernel)
theorem tw_319 : (Jvm.Cond.methodLink "FoundryNine" (243 : Nat) ({ cls := "FoundryNine", name := "longest", desc := "()I" } : Jvm.MethodName)) ∈ lw_tbl := List.mem_of_getElem? (i := 386) (by decide +kernel)
theorem tw_320 : (Jvm.Cond.methodLink "FoundryNine" (246 : Nat) ({ cls := "FoundryNine", name := "isRunning", desc := "()Z" } : Jvm.MethodName)) ∈ lw_tbl := List.mem_of_getElem? (i := 387) (by decide +kernel)
theorem tw_321 : (Jvm.Cond.methodLink "FoundryNine" (250 : Nat) ({ cls := "FoundryNine", name := "digestOfTimes", desc := "(J)J" } : Jvm.MethodName)) ∈ lw_tbl := List.mem_of_getElem? (i := 388) (by decide +kernel)
theorem tw_322 : (Jvm.Cond.privateMethod ({ cls := "FoundryNine", name := "digestOfTimes", desc := "(J)J" } : Jvm.MethodName)) ∈ lw_tbl := List.mem_of_getElem? (i := 389) (by decide +kernel)
theorem tw_323 : (Jvm.Cond.instanceMethod ({ cls := "FoundryNine", name := "digestOfTimes", desc := "(J)J" } : Jvm.MethodName)) ∈ lw_tbl := List.mem_of_getElem? (i := 390) (by decide +kernel)
set_option maxRecDepth 20000 in
theorem tw_324 : (Jvm.Cond.code ({ cls := "FoundryNine", name := "digestOfTimes", desc := "(J)J" } : Jvm.MethodName) prog_1_method_30_code (6 : Nat) (Option.some Jvm.ClassFile.FieldType.long)) ∈ lw_tbl := in_t2 (List.mem_of_getElem? (i := 84) rfl)
theorem tw_325 : (Jvm.Cond.methodLink "FoundryNine" (266 : Nat) ({ cls := "FoundryNine", name := "told", desc := "(I)I" } : Jvm.MethodName)) ∈ lw_tbl := List.mem_of_getElem? (i := 392) (by decide +kernel)
theorem tw_326 : (Jvm.Cond.instanceMethod ({ cls := "FoundryNine", name := "told", desc := "(I)I" } : Jvm.MethodName)) ∈ lw_tbl := List.mem_of_getElem? (i := 393) (by decide +kernel)
theorem tw_327 : (Jvm.Cond.selects "FoundryNine" ({ cls := "FoundryNine", name := "told", desc := "(I)I" } : Jvm.MethodName) ({ cls := "FoundryNine", name := "told", desc := "(I)I" } : Jvm.MethodName)) ∈ lw_tbl := List.mem_of_getElem? (i := 394) (by decide +kernel)
set_option maxRecDepth 20000 in
theorem tw_328 : (Jvm.Cond.code ({ cls := "FoundryNine", name := "told", desc := "(I)I" } : Jvm.MethodName) prog_1_method_19_code (2 : Nat) (Option.some Jvm.ClassFile.FieldType.int)) ∈ lw_tbl := in_t2 (List.mem_of_getElem? (i := 88) rfl)
theorem tw_329 : (Jvm.Cond.methodLink "FoundryNine" (154 : Nat) ({ cls := "FoundryNine$Run", name := "linesPending", desc := "()I" } : Jvm.MethodName)) ∈ lw_tbl := List.mem_of_getElem? (i := 396) (by decide +kernel)
theorem tw_330 : (Jvm.Cond.instanceMethod ({ cls := "FoundryNine$Run", name := "linesPending", desc := "()I" } : Jvm.MethodName)) ∈ lw_tbl := List.mem_of_getElem? (i := 397) (by decide +kernel)
theorem tw_331 : (Jvm.Cond.selects "FoundryNine$Run" ({ cls := "FoundryNine$Run", name := "linesPending", desc := "()I" } : Jvm.MethodName) ({ cls := "FoundryNine$Run", name := "linesPending", desc := "()I" } : Jvm.MethodName)) ∈ lw_tbl := List.mem_of_getElem? (i := 398) (by decide +kernel)
set_option maxRecDepth 20000 in
theorem tw_332 : (Jvm.Cond.code ({ cls := "FoundryNine$Run", name := "linesPending", desc := "()I" } : Jvm.MethodName) prog_5_method_11_code (3 : Nat) (Option.some Jvm.ClassFile.FieldType.int)) ∈ lw_tbl := in_t2 (List.mem_of_getElem? (i := 92) rfl)
theorem tw_333 : (Jvm.Cond.methodLink "FoundryNine" (181 : Nat) ({ cls := "FoundryNine$Run", name := "nextTime", desc := "()I" } : Jvm.MethodName)) ∈ lw_tbl := List.mem_of_getElem? (i := 400) (by decide +kernel)
theorem tw_334 : (Jvm.Cond.instanceMethod ({ cls := "FoundryNine$Run", name := "nextTime", desc := "()I" } : Jvm.MethodName)) ∈ lw_tbl := List.mem_of_getElem? (i := 401) (by decide +kernel)
theorem tw_335 : (Jvm.Cond.selects "FoundryNine$Run" ({ cls := "FoundryNine$Run", name := "nextTime", desc := "()I" } : Jvm.MethodName) ({ cls := "FoundryNine$Run", name := "nextTime", desc := "()I" } : Jvm.MethodName)) ∈ lw_tbl := List.mem_of_getElem? (i := 402) (by decide +kernel)
set_option maxRecDepth 20000 in
theorem tw_336 : (Jvm.Cond.code ({ cls := "FoundryNine$Run", name := "nextTime", desc := "()I" } : Jvm.MethodName) prog_5_method_10_code (2 : Nat) (Option.some Jvm.ClassFile.FieldType.int)) ∈ lw_tbl := in_t2 (List.mem_of_getElem? (i := 96) rfl)
theorem tw_337 : (Jvm.Cond.constant "FoundryNine$Run" (104 : Nat) (2147483647 : Int32)) ∈ lw_tbl := List.mem_of_getElem? (i := 404) (by decide +kernel)
theorem tw_338 : (Jvm.Cond.methodLink "FoundryNine$Run" (112 : Nat) ({ cls := "FoundryNine$Run", name := "nextLine", desc := "(I)I" } : Jvm.MethodName)) ∈ lw_tbl := List.mem_of_getElem? (i := 405) (by decide +kernel)
theorem tw_339 : (Jvm.Cond.privateMethod ({ cls := "FoundryNine$Run", name := "nextLine", desc := "(I)I" } : Jvm.MethodName)) ∈ lw_tbl := List.mem_of_getElem? (i := 406) (by decide +kernel)
theorem tw_340 : (Jvm.Cond.instanceMethod ({ cls := "FoundryNine$Run", name := "nextLine", desc := "(I)I" } : Jvm.MethodName)) ∈ lw_tbl := List.mem_of_getElem? (i := 407) (by decide +kernel)
set_option maxRecDepth 20000 in
theorem tw_341 : (Jvm.Cond.code ({ cls := "FoundryNine$Run", name := "nextLine", desc := "(I)I" } : Jvm.MethodName) prog_5_method_8_code (4 : Nat) (Option.some Jvm.ClassFile.FieldType.int)) ∈ lw_tbl := in_t2 (List.mem_of_getElem? (i := 101) rfl)
theorem tw_342 : (Jvm.Cond.methodLink "FoundryNine$Run" (115 : Nat) ({ cls := "FoundryNine$Run", name := "comesAheadOf", desc := "(II)Z" } : Jvm.MethodName)) ∈ lw_tbl := List.mem_of_getElem? (i := 409) (by decide +kernel)
theorem tw_343 : (Jvm.Cond.privateMethod ({ cls := "FoundryNine$Run", name := "comesAheadOf", desc := "(II)Z" } : Jvm.MethodName)) ∈ lw_tbl := List.mem_of_getElem? (i := 410) (by decide +kernel)
theorem tw_344 : (Jvm.Cond.instanceMethod ({ cls := "FoundryNine$Run", name := "comesAheadOf", desc := "(II)Z" } : Jvm.MethodName)) ∈ lw_tbl := List.mem_of_getElem? (i := 411) (by decide +kernel)
set_option maxRecDepth 20000 in
theorem tw_345 : (Jvm.Cond.code ({ cls := "FoundryNine$Run", name := "comesAheadOf", desc := "(II)Z" } : Jvm.MethodName) prog_5_method_9_code (3 : Nat) (Option.some Jvm.ClassFile.FieldType.boolean)) ∈ lw_tbl := in_t2 (List.mem_of_getElem? (i := 105) rfl)
theorem tw_346 : (Jvm.Cond.classLink "FoundryNine" (60 : Nat) "java/lang/IllegalArgumentException") ∈ lw_tbl := List.mem_of_getElem? (i := 413) (by decide +kernel)
theorem tw_347 : (Jvm.Cond.instantiable "java/lang/IllegalArgumentException" (6 : Nat)) ∈ lw_tbl := List.mem_of_getElem? (i := 414) (by decide +kernel)
theorem tw_348 : (Jvm.Cond.castable "java/lang/IllegalArgumentException" "java/lang/IllegalArgumentException") ∈ lw_tbl := List.mem_of_getElem? (i := 415) (by decide +kernel)
theorem tw_349 : (Jvm.Cond.declares ({ cls := "java/lang/RuntimeException", name := "<init>", desc := "()V" } : Jvm.MethodName)) ∈ lw_tbl := List.mem_of_getElem? (i := 416) (by decide +kernel)
theorem tw_350 : (Jvm.Cond.declares ({ cls := "java/lang/RuntimeException", name := "<init>", desc := "(Ljava/lang/String;)V" } : Jvm.MethodName)) ∈ lw_tbl := List.mem_of_getElem? (i := 417) (by decide +kernel)
theorem tw_351 : (Jvm.Cond.declares ({ cls := "java/lang/Exception", name := "<init>", desc := "()V" } : Jvm.MethodName)) ∈ lw_tbl := List.mem_of_getElem? (i := 418) (by decide +kernel)
theorem tw_352 : (Jvm.Cond.declares ({ cls := "java/lang/Exception", name := "<init>", desc := "(Ljava/lang/String;)V" } : Jvm.MethodName)) ∈ lw_tbl := List.mem_of_getElem? (i := 419) (by decide +kernel)
theorem tw_353 : (Jvm.Cond.declares ({ cls := "java/lang/Throwable", name := "<init>", desc := "()V" } : Jvm.MethodName)) ∈ lw_tbl := List.mem_of_getElem? (i := 420) (by decide +kernel)
theorem tw_354 : (Jvm.Cond.declares ({ cls := "java/lang/Throwable", name := "<init>", desc := "(Ljava/lang/String;)V" } : Jvm.MethodName)) ∈ lw_tbl := List.mem_of_getElem? (i := 421) (by decide +kernel)
theorem tw_355 : (Jvm.Cond.selects "java/lang/IllegalArgumentException" ({ cls := "java/lang/Throwable", name := "fillInStackTrace", desc := "(I)Ljava/lang/Throwable;" } : Jvm.MethodName) ({ cls := "java/lang/Throwable", name := "fillInStackTrace", desc := "(I)Ljava/lang/Throwable;" } : Jvm.MethodName)) ∈ lw_tbl := List.mem_of_getElem? (i := 422) (by decide +kernel)
theorem tw_356 : (Jvm.Cond.selects "java/lang/IllegalArgumentException" ({ cls := "java/lang/Throwable", name := "fillInStackTrace", desc := "()Ljava/lang/Throwable;" } : Jvm.MethodName) ({ cls := "java/lang/Throwable", name := "fillInStackTrace", desc := "()Ljava/lang/Throwable;" } : Jvm.MethodName)) ∈ lw_tbl := List.mem_of_getElem? (i := 423) (by decide +kernel)
theorem tw_357 : (Jvm.Cond.lays "java/lang/IllegalArgumentException" "java/lang/Throwable" "cause" "Ljava/lang/Throwable;") ∈ lw_tbl := List.mem_of_getElem? (i := 424) (by decide +kernel)
theorem tw_358 : (Jvm.Cond.lays "java/lang/Throwable" "java/lang/Throwable" "cause" "Ljava/lang/Throwable;") ∈ lw_tbl := List.mem_of_getElem? (i := 425) (by decide +kernel)
theorem tw_359 : (Jvm.Cond.lays "java/lang/IllegalArgumentException" "java/lang/Throwable" "stackTrace" "[Ljava/lang/StackTraceElement;") ∈ lw_tbl := List.mem_of_getElem? (i := 426) (by decide +kernel)
theorem tw_360 : (Jvm.Cond.lays "java/lang/Throwable" "java/lang/Throwable" "stackTrace" "[Ljava/lang/StackTraceElement;") ∈ lw_tbl := List.mem_of_getElem? (i := 427) (by decide +kernel)
theorem tw_361 : (Jvm.Cond.lays "java/lang/IllegalArgumentException" "java/lang/Throwable" "suppressedExceptions" "Ljava/util/List;") ∈ lw_tbl := List.mem_of_getElem? (i := 428) (by decide +kernel)
theorem tw_362 : (Jvm.Cond.lays "java/lang/Throwable" "java/lang/Throwable" "suppressedExceptions" "Ljava/util/List;") ∈ lw_tbl := List.mem_of_getElem? (i := 429) (by decide +kernel)
theorem tw_363 : (Jvm.Cond.lays "java/lang/IllegalArgumentException" "java/lang/Throwable" "detailMessage" "Ljava/lang/String;") ∈ lw_tbl := List.mem_of_getElem? (i := 430) (by decide +kernel)
theorem tw_364 : (Jvm.Cond.lays "java/lang/Throwable" "java/lang/Throwable" "detailMessage" "Ljava/lang/String;") ∈ lw_tbl := List.mem_of_getElem? (i := 431) (by decide +kernel)
theorem tw_365 : (Jvm.Cond.lays "java/lang/IllegalArgumentException" "java/lang/Throwable" "backtrace" "Ljava/lang/Object;") ∈ lw_tbl := List.mem_of_getElem? (i := 432) (by decide +kernel)
theorem tw_366 : (Jvm.Cond.lays "java/lang/Throwable" "java/lang/Throwable" "backtrace" "Ljava/lang/Object;") ∈ lw_tbl := List.mem_of_getElem? (i := 433) (by decide +kernel)
theorem tw_367 : (Jvm.Cond.fieldLink "java/lang/Throwable" (198 : Nat) "java/lang/Throwable" "backtrace" "Ljava/lang/Object;") ∈ lw_tbl := List.mem_of_getElem? (i := 434) (by decide +kernel)
theorem tw_368 : (Jvm.Cond.superclass "java/lang/Throwable" "java/lang/Object") ∈ lw_tbl := List.mem_of_getElem? (i := 435) (by decide +kernel)
theorem tw_369 : (Jvm.Cond.instanceMethod ({ cls := "java/lang/Throwable", name := "<init>", desc := "()V" } : Jvm.MethodName)) ∈ lw_tbl := List.mem_of_getElem? (i := 436) (by decide +kernel)
set_option maxRecDepth 20000 in
theorem tw_370 : (Jvm.Cond.code ({ cls := "java/lang/Throwable", name := "<init>", desc := "()V" } : Jvm.MethodName) prog_17_method_1_code (1 : Nat) (Option.none : Option Jvm.ClassFile.FieldType)) ∈ lw_tbl := in_t2 (List.mem_of_getElem? (i := 130) rfl)
theorem tw_371 : (Jvm.Cond.methodLink "java/lang/Throwable" (1 : Nat) ({ cls := "java/lang/Object", name := "<init>", desc := "()V" } : Jvm.MethodName)) ∈ lw_tbl := List.mem_of_getElem? (i := 438) (by decide +kernel)
theorem tw_372 : (Jvm.Cond.fieldLink "java/lang/Throwable" (13 : Nat) "java/lang/Throwable" "UNASSIGNED_STACK" "[Ljava/lang/StackTraceElement;") ∈ lw_tbl := List.mem_of_getElem? (i := 439) (by decide +kernel)
theorem tw_373 : (Jvm.Cond.laysStatic "java/lang/Throwable" "UNASSIGNED_STACK" "[Ljava/lang/StackTraceElement;") ∈ lw_tbl := List.mem_of_getElem? (i := 440) (by decide +kernel)
theorem tw_374 : (Jvm.Cond.fieldLink "java/lang/Throwable" (20 : Nat) "java/lang/Throwable" "SUPPRESSED_SENTINEL" "Ljava/util/List;") ∈ lw_tbl := List.mem_of_getElem? (i := 441) (by decide +kernel)
theorem tw_375 : (Jvm.Cond.laysStatic "java/lang/Throwable" "SUPPRESSED_SENTINEL" "Ljava/util/List;") ∈ lw_tbl := List.mem_of_getElem? (i := 442) (by decide +kernel)
theorem tw_376 : (Jvm.Cond.methodLink "java/lang/Throwable" (27 : Nat) ({ cls := "java/lang/Throwable", name := "fillInStackTrace", desc := "()Ljava/lang/Throwable;" } : Jvm.MethodName)) ∈ lw_tbl := List.mem_of_getElem? (i := 443) (by decide +kernel)
theorem tw_377 : (Jvm.Cond.instanceMethod ({ cls := "java/lang/Throwable", name := "fillInStackTrace", desc := "()Ljava/lang/Throwable;" } : Jvm.MethodName)) ∈ lw_tbl := List.mem_of_getElem? (i := 444) (by decide +kernel)
theorem tw_378 : (Jvm.Cond.sameMethod "java/lang/Throwable" "java/lang/Throwable" "fillInStackTrace" "()Ljava/lang/Throwable;") ∈ lw_tbl := List.mem_of_getElem? (i := 445) (by decide +kernel)
theorem tw_379 : (Jvm.Cond.selects "java/lang/IllegalStateException" ({ cls := "java/lang/Throwable", name := "fillInStackTrace", desc := "()Ljava/lang/Throwable;" } : Jvm.MethodName) ({ cls := "java/lang/Throwable", name := "fillInStackTrace", desc := "()Ljava/lang/Throwable;" } : Jvm.MethodName)) ∈ lw_tbl := List.mem_of_getElem? (i := 446) (by decide +kernel)
theorem tw_380 : (Jvm.Cond.selects "java/lang/IndexOutOfBoundsException" ({ cls := "java/lang/Throwable", name := "fillInStackTrace", desc := "()Ljava/lang/Throwable;" } : Jvm.MethodName) ({ cls := "java/lang/Throwable", name := "fillInStackTrace", desc := "()Ljava/lang/Throwable;" } : Jvm.MethodName)) ∈ lw_tbl := List.mem_of_getElem? (i := 447) (by decide +kernel)
set_option maxRecDepth 20000 in
theorem tw_381 : (Jvm.Cond.codeSync ({ cls := "java/lang/Throwable", name := "fillInStackTrace", desc := "()Ljava/lang/Throwable;" } : Jvm.MethodName) prog_17_method_18_code (1 : Nat) (Option.some (Jvm.ClassFile.FieldType.object "java/lang/Throwable"))) ∈ lw_tbl := in_t2 (List.mem_of_getElem? (i := 141) rfl)
theorem tw_382 : (Jvm.Cond.methodLink "java/lang/Throwable" (202 : Nat) ({ cls := "java/lang/Throwable", name := "fillInStackTrace", desc := "(I)Ljava/lang/Throwable;" } : Jvm.MethodName)) ∈ lw_tbl := List.mem_of_getElem? (i := 449) (by decide +kernel)
theorem tw_383 : (Jvm.Cond.privateMethod ({ cls := "java/lang/Throwable", name := "fillInStackTrace", desc := "(I)Ljava/lang/Throwable;" } : Jvm.MethodName)) ∈ lw_tbl := List.mem_of_getElem? (i := 450) (by decide +kernel)
theorem tw_384 : (Jvm.Cond.instanceMethod ({ cls := "java/lang/Throwable", name := "fillInStackTrace", desc := "(I)Ljava/lang/Throwable;" } : Jvm.MethodName)) ∈ lw_tbl := List.mem_of_getElem? (i := 451) (by decide +kernel)
theorem tw_385 : (Jvm.Cond.instantiable "java/lang/Throwable" (6 : Nat)) ∈ lw_tbl := List.mem_of_getElem? (i := 452) (by decide +kernel)
theorem tw_386 : (Jvm.Cond.native ({ cls := "java/lang/Throwable", name := "fillInStackTrace", desc := "(I)Ljava/lang/Throwable;" } : Jvm.MethodName)) ∈ lw_tbl := List.mem_of_getElem? (i := 453) (by decide +kernel)
theorem tw_387 : (Jvm.Cond.stringRef "FoundryNine" (193 : Nat) "nothing of that number is told") ∈ lw_tbl := List.mem_of_getElem? (i := 454) (by decide +kernel)
theorem tw_388 : (Jvm.Cond.methodLink "FoundryNine" (64 : Nat) ({ cls := "java/lang/IllegalArgumentException", name := "<init>", desc := "(Ljava/lang/String;)V" } : Jvm.MethodName)) ∈ lw_tbl := List.mem_of_getElem? (i := 455) (by decide +kernel)
theorem tw_389 : (Jvm.Cond.instanceMethod ({ cls := "java/lang/IllegalArgumentException", name := "<init>", desc := "(Ljava/lang/String;)V" } : Jvm.MethodName)) ∈ lw_tbl := List.mem_of_getElem? (i := 456) (by decide +kernel)
set_option maxRecDepth 20000 in
theorem tw_390 : (Jvm.Cond.code ({ cls := "java/lang/IllegalArgumentException", name := "<init>", desc := "(Ljava/lang/String;)V" } : Jvm.MethodName) prog_9_method_2_code (2 : Nat) (Option.none : Option Jvm.ClassFile.FieldType)) ∈ lw_tbl := in_t2 (List.mem_of_getElem? (i := 150) rfl)
theorem tw_391 : (Jvm.Cond.methodLink "java/lang/IllegalArgumentException" (7 : Nat) ({ cls := "java/lang/RuntimeException", name := "<init>", desc := "(Ljava/lang/String;)V" } : Jvm.MethodName)) ∈ lw_tbl := List.mem_of_getElem? (i := 458) (by decide +kernel)
theorem tw_392 : (Jvm.Cond.instanceMethod ({ cls := "java/lang/RuntimeException", name := "<init>", desc := "(Ljava/lang/String;)V" } : Jvm.MethodName)) ∈ lw_tbl := List.mem_of_getElem? (i := 459) (by decide +kernel)
set_option maxRecDepth 20000 in
theorem tw_393 : (Jvm.Cond.code ({ cls := "java/lang/RuntimeException", name := "<init>", desc := "(Ljava/lang/String;)V" } : Jvm.MethodName) prog_14_method_2_code (2 : Nat) (Option.none : Option Jvm.ClassFile.FieldType)) ∈ lw_tbl := in_t2 (List.mem_of_getElem? (i := 153) rfl)
theorem tw_394 : (Jvm.Cond.methodLink "java/lang/RuntimeException" (7 : Nat) ({ cls := "java/lang/Exception", name := "<init>", desc := "(Ljava/lang/String;)V" } : Jvm.MethodName)) ∈ lw_tbl := List.mem_of_getElem? (i := 461) (by decide +kernel)
theorem tw_395 : (Jvm.Cond.instanceMethod ({ cls := "java/lang/Exception", name := "<init>", desc := "(Ljava/lang/String;)V" } : Jvm.MethodName)) ∈ lw_tbl := List.mem_of_getElem? (i := 462) (by decide +kernel)
set_option maxRecDepth 20000 in
theorem tw_396 : (Jvm.Cond.code ({ cls := "java/lang/Exception", name := "<init>", desc := "(Ljava/lang/String;)V" } : Jvm.MethodName) prog_8_method_2_code (2 : Nat) (Option.none : Option Jvm.ClassFile.FieldType)) ∈ lw_tbl := in_t2 (List.mem_of_getElem? (i := 156) rfl)
theorem tw_397 : (Jvm.Cond.methodLink "java/lang/Exception" (7 : Nat) ({ cls := "java/lang/Throwable", name := "<init>", desc := "(Ljava/lang/String;)V" } : Jvm.MethodName)) ∈ lw_tbl := List.mem_of_getElem? (i := 464) (by decide +kernel)
theorem tw_398 : (Jvm.Cond.instanceMethod ({ cls := "java/lang/Throwable", name := "<init>", desc := "(Ljava/lang/String;)V" } : Jvm.MethodName)) ∈ lw_tbl := List.mem_of_getElem? (i := 465) (by decide +kernel)
set_option maxRecDepth 20000 in
theorem tw_399 : (Jvm.Cond.code ({ cls := "java/lang/Throwable", name := "<init>", desc := "(Ljava/lang/String;)V" } : Jvm.MethodName) prog_17_method_2_code (2 : Nat) (Option.none : Option Jvm.ClassFile.FieldType)) ∈ lw_tbl := in_t2 (List.mem_of_getElem? (i := 159) rfl)
theorem tw_400 : (Jvm.Cond.fieldLink "java/lang/Throwable" (198 : Nat) "java/lang/Throwable" "backtrace" "Ljava/lang/Object;") ∈ lw_tbl := List.mem_of_getElem? (i := 467) (by decide +kernel)
theorem tw_401 : (Jvm.Cond.fieldLink "java/lang/Throwable" (31 : Nat) "java/lang/Throwable" "detailMessage" "Ljava/lang/String;") ∈ lw_tbl := List.mem_of_getElem? (i := 468) (by decide +kernel)
theorem tw_402 : (Jvm.Cond.fieldLink "java/lang/Throwable" (7 : Nat) "java/lang/Throwable" "cause" "Ljava/lang/Throwable;") ∈ lw_tbl := List.mem_of_getElem? (i := 469) (by decide +kernel)
theorem tw_403 : (Jvm.Cond.fieldLink "java/lang/Throwable" (17 : Nat) "java/lang/Throwable" "stackTrace" "[Ljava/lang/StackTraceElement;") ∈ lw_tbl := List.mem_of_getElem? (i := 470) (by decide +kernel)
theorem tw_404 : (Jvm.Cond.fieldLink "java/lang/Throwable" (24 : Nat) "java/lang/Throwable" "suppressedExceptions" "Ljava/util/List;") ∈ lw_tbl := List.mem_of_getElem? (i := 471) (by decide +kernel)
theorem tw_405 : (Jvm.Cond.soleField "java/lang/Throwable" "backtrace") ∈ lw_tbl := List.mem_of_getElem? (i := 472) (by decide +kernel)
theorem tw_406 : (Jvm.Cond.soleField "java/lang/Throwable" "detailMessage") ∈ lw_tbl := List.mem_of_getElem? (i := 473) (by decide +kernel)
theorem tw_407 : (Jvm.Cond.soleField "java/lang/Throwable" "cause") ∈ lw_tbl := List.mem_of_getElem? (i := 474) (by decide +kernel)
theorem tw_408 : (Jvm.Cond.soleField "java/lang/Throwable" "stackTrace") ∈ lw_tbl := List.mem_of_getElem? (i := 475) (by decide +kernel)
theorem tw_409 : (Jvm.Cond.lays "java/lang/IllegalArgumentException" "java/lang/Throwable" "depth" "I") ∈ lw_tbl := List.mem_of_getElem? (i := 476) (by decide +kernel)
theorem tw_410 : (Jvm.Cond.soleField "java/lang/Throwable" "depth") ∈ lw_tbl := List.mem_of_getElem? (i := 477) (by decide +kernel)
theorem tw_411 : (Jvm.Cond.soleField "java/lang/Throwable" "suppressedExceptions") ∈ lw_tbl := List.mem_of_getElem? (i := 478) (by decide +kernel)
theorem tw_412 : (Jvm.Cond.superclass "java/lang/IllegalArgumentException" "java/lang/RuntimeException") ∈ lw_tbl := List.mem_of_getElem? (i := 479) (by decide +kernel)
theorem tw_413 : (Jvm.Cond.arrayClass Jvm.ClassFile.FieldType.byte) ∈ lw_tbl := List.mem_of_getElem? (i := 480) (by decide +kernel)
theorem tw_414 : (Jvm.Cond.methodLink "FoundryNine" (254 : Nat) ({ cls := "FoundryNine", name := "digestOfCircuit", desc := "(J)J" } : Jvm.MethodName)) ∈ lw_tbl := List.mem_of_getElem? (i := 481) (by decide +kernel)
theorem tw_415 : (Jvm.Cond.privateMethod ({ cls := "FoundryNine", name := "digestOfCircuit", desc := "(J)J" } : Jvm.MethodName)) ∈ lw_tbl := List.mem_of_getElem? (i := 482) (by decide +kernel)
theorem tw_416 : (Jvm.Cond.instanceMethod ({ cls := "FoundryNine", name := "digestOfCircuit", desc := "(J)J" } : Jvm.MethodName)) ∈ lw_tbl := List.mem_of_getElem? (i := 483) (by decide +kernel)
set_option maxRecDepth 20000 in
theorem tw_417 : (Jvm.Cond.code ({ cls := "FoundryNine", name := "digestOfCircuit", desc := "(J)J" } : Jvm.MethodName) prog_1_method_31_code (6 : Nat) (Option.some Jvm.ClassFile.FieldType.long)) ∈ lw_tbl := in_t2 (List.mem_of_getElem? (i := 177) rfl)
theorem tw_418 : (Jvm.Cond.methodLink "FoundryNine" (269 : Nat) ({ cls := "FoundryNine", name := "ofFlaw", desc := "(II)I" } : Jvm.MethodName)) ∈ lw_tbl := List.mem_of_getElem? (i := 485) (by decide +kernel)
theorem tw_419 : (Jvm.Cond.instanceMethod ({ cls := "FoundryNine", name := "ofFlaw", desc := "(II)I" } : Jvm.MethodName)) ∈ lw_tbl := List.mem_of_getElem? (i := 486) (by decide +kernel)
theorem tw_420 : (Jvm.Cond.selects "FoundryNine" ({ cls := "FoundryNine", name := "ofFlaw", desc := "(II)I" } : Jvm.MethodName) ({ cls := "FoundryNine", name := "ofFlaw", desc := "(II)I" } : Jvm.MethodName)) ∈ lw_tbl := List.mem_of_getElem? (i := 487) (by decide +kernel)
set_option maxRecDepth 20000 in
theorem tw_421 : (Jvm.Cond.code ({ cls := "FoundryNine", name := "ofFlaw", desc := "(II)I" } : Jvm.MethodName) prog_1_method_9_code (3 : Nat) (Option.some Jvm.ClassFile.FieldType.int)) ∈ lw_tbl := in_t2 (List.mem_of_getElem? (i := 181) rfl)
theorem tw_422 : (Jvm.Cond.classLink "FoundryNine" (106 : Nat) "java/lang/IndexOutOfBoundsException") ∈ lw_tbl := List.mem_of_getElem? (i := 489) (by decide +kernel)
theorem tw_423 : (Jvm.Cond.instantiable "java/lang/IndexOutOfBoundsException" (6 : Nat)) ∈ lw_tbl := List.mem_of_getElem? (i := 490) (by decide +kernel)
theorem tw_424 : (Jvm.Cond.castable "java/lang/IndexOutOfBoundsException" "java/lang/IndexOutOfBoundsException") ∈ lw_tbl := List.mem_of_getElem? (i := 491) (by decide +kernel)
theorem tw_425 : (Jvm.Cond.selects "java/lang/IndexOutOfBoundsException" ({ cls := "java/lang/Throwable", name := "fillInStackTrace", desc := "(I)Ljava/lang/Throwable;" } : Jvm.MethodName) ({ cls := "java/lang/Throwable", name := "fillInStackTrace", desc := "(I)Ljava/lang/Throwable;" } : Jvm.MethodName)) ∈ lw_tbl := List.mem_of_getElem? (i := 492) (by decide +kernel)
theorem tw_426 : (Jvm.Cond.lays "java/lang/IndexOutOfBoundsException" "java/lang/Throwable" "cause" "Ljava/lang/Throwable;") ∈ lw_tbl := List.mem_of_getElem? (i := 493) (by decide +kernel)
theorem tw_427 : (Jvm.Cond.lays "java/lang/IndexOutOfBoundsException" "java/lang/Throwable" "stackTrace" "[Ljava/lang/StackTraceElement;") ∈ lw_tbl := List.mem_of_getElem? (i := 494) (by decide +kernel)
theorem tw_428 : (Jvm.Cond.lays "java/lang/IndexOutOfBoundsException" "java/lang/Throwable" "suppressedExceptions" "Ljava/util/List;") ∈ lw_tbl := List.mem_of_getElem? (i := 495) (by decide +kernel)
theorem tw_429 : (Jvm.Cond.lays "java/lang/IndexOutOfBoundsException" "java/lang/Throwable" "detailMessage" "Ljava/lang/String;") ∈ lw_tbl := List.mem_of_getElem? (i := 496) (by decide +kernel)
theorem tw_430 : (Jvm.Cond.lays "java/lang/IndexOutOfBoundsException" "java/lang/Throwable" "backtrace" "Ljava/lang/Object;") ∈ lw_tbl := List.mem_of_getElem? (i := 497) (by decide +kernel)
theorem tw_431 : (Jvm.Cond.stringRef "FoundryNine" (108 : Nat) "no such flaw") ∈ lw_tbl := List.mem_of_getElem? (i := 498) (by decide +kernel)
theorem tw_432 : (Jvm.Cond.methodLink "FoundryNine" (110 : Nat) ({ cls := "java/lang/IndexOutOfBoundsException", name := "<init>", desc := "(Ljava/lang/String;)V" } : Jvm.MethodName)) ∈ lw_tbl := List.mem_of_getElem? (i := 499) (by decide +kernel)
theorem tw_433 : (Jvm.Cond.instanceMethod ({ cls := "java/lang/IndexOutOfBoundsException", name := "<init>", desc := "(Ljava/lang/String;)V" } : Jvm.MethodName)) ∈ lw_tbl := List.mem_of_getElem? (i := 500) (by decide +kernel)
set_option maxRecDepth 20000 in
theorem tw_434 : (Jvm.Cond.code ({ cls := "java/lang/IndexOutOfBoundsException", name := "<init>", desc := "(Ljava/lang/String;)V" } : Jvm.MethodName) prog_11_method_2_code (2 : Nat) (Option.none : Option Jvm.ClassFile.FieldType)) ∈ lw_tbl := in_t2 (List.mem_of_getElem? (i := 194) rfl)
theorem tw_435 : (Jvm.Cond.methodLink "java/lang/IndexOutOfBoundsException" (7 : Nat) ({ cls := "java/lang/RuntimeException", name := "<init>", desc := "(Ljava/lang/String;)V" } : Jvm.MethodName)) ∈ lw_tbl := List.mem_of_getElem? (i := 502) (by decide +kernel)
theorem tw_436 : (Jvm.Cond.lays "java/lang/IndexOutOfBoundsException" "java/lang/Throwable" "depth" "I") ∈ lw_tbl := List.mem_of_getElem? (i := 503) (by decide +kernel)
theorem tw_437 : (Jvm.Cond.superclass "java/lang/IndexOutOfBoundsException" "java/lang/RuntimeException") ∈ lw_tbl := List.mem_of_getElem? (i := 504) (by decide +kernel)
theorem tw_438 : (Jvm.Cond.stringRef "FoundryNine" (117 : Nat) "neither code nor place") ∈ lw_tbl := List.mem_of_getElem? (i := 505) (by decide +kernel)
theorem tw_439 : (Jvm.Cond.methodLink "FoundryNine" (273 : Nat) ({ cls := "FoundryNine", name := "way", desc := "(I)I" } : Jvm.MethodName)) ∈ lw_tbl := List.mem_of_getElem? (i := 506) (by decide +kernel)
theorem tw_440 : (Jvm.Cond.methodLink "FoundryNine" (257 : Nat) ({ cls := "FoundryNine", name := "digestOfWires", desc := "(J)J" } : Jvm.MethodName)) ∈ lw_tbl := List.mem_of_getElem? (i := 507) (by decide +kernel)
theorem tw_441 : (Jvm.Cond.privateMethod ({ cls := "FoundryNine", name := "digestOfWires", desc := "(J)J" } : Jvm.MethodName)) ∈ lw_tbl := List.mem_of_getElem? (i := 508) (by decide +kernel)
theorem tw_442 : (Jvm.Cond.instanceMethod ({ cls := "FoundryNine", name := "digestOfWires", desc := "(J)J" } : Jvm.MethodName)) ∈ lw_tbl := List.mem_of_getElem? (i := 509) (by decide +kernel)
set_option maxRecDepth 20000 in
theorem tw_443 : (Jvm.Cond.code ({ cls := "FoundryNine", name := "digestOfWires", desc := "(J)J" } : Jvm.MethodName) prog_1_method_32_code (7 : Nat) (Option.some Jvm.ClassFile.FieldType.long)) ∈ lw_tbl := in_t2 (List.mem_of_getElem? (i := 203) rfl)
theorem tw_444 : (Jvm.Cond.methodLink "FoundryNine" (276 : Nat) ({ cls := "FoundryNine", name := "arrival", desc := "(I)I" } : Jvm.MethodName)) ∈ lw_tbl := List.mem_of_getElem? (i := 511) (by decide +kernel)
theorem tw_445 : (Jvm.Cond.instanceMethod ({ cls := "FoundryNine", name := "arrival", desc := "(I)I" } : Jvm.MethodName)) ∈ lw_tbl := List.mem_of_getElem? (i := 512) (by decide +kernel)
theorem tw_446 : (Jvm.Cond.selects "FoundryNine" ({ cls := "FoundryNine", name := "arrival", desc := "(I)I" } : Jvm.MethodName) ({ cls := "FoundryNine", name := "arrival", desc := "(I)I" } : Jvm.MethodName)) ∈ lw_tbl := List.mem_of_getElem? (i := 513) (by decide +kernel)
set_option maxRecDepth 20000 in
theorem tw_447 : (Jvm.Cond.code ({ cls := "FoundryNine", name := "arrival", desc := "(I)I" } : Jvm.MethodName) prog_1_method_10_code (2 : Nat) (Option.some Jvm.ClassFile.FieldType.int)) ∈ lw_tbl := in_t2 (List.mem_of_getElem? (i := 207) rfl)
theorem tw_448 : (Jvm.Cond.methodLink "FoundryNine" (49 : Nat) ({ cls := "FoundryNine", name := "checkWire", desc := "(I)V" } : Jvm.MethodName)) ∈ lw_tbl := List.mem_of_getElem? (i := 515) (by decide +kernel)
theorem tw_449 : (Jvm.Cond.static ({ cls := "FoundryNine", name := "checkWire", desc := "(I)V" } : Jvm.MethodName)) ∈ lw_tbl := List.mem_of_getElem? (i := 516) (by decide +kernel)
set_option maxRecDepth 20000 in
theorem tw_450 : (Jvm.Cond.code ({ cls := "FoundryNine", name := "checkWire", desc := "(I)V" } : Jvm.MethodName) prog_1_method_37_code (1 : Nat) (Option.none : Option Jvm.ClassFile.FieldType)) ∈ lw_tbl := in_t2 (List.mem_of_getElem? (i := 210) rfl)
theorem tw_451 : (Jvm.Cond.methodLink "FoundryNine" (298 : Nat) ({ cls := "FoundryNine", name := "isWire", desc := "(I)Z" } : Jvm.MethodName)) ∈ lw_tbl := List.mem_of_getElem? (i := 518) (by decide +kernel)
theorem tw_452 : (Jvm.Cond.stringRef "FoundryNine" (302 : Nat) "no such wire") ∈ lw_tbl := List.mem_of_getElem? (i := 519) (by decide +kernel)
theorem tw_453 : (Jvm.Cond.methodLink "FoundryNine" (278 : Nat) ({ cls := "FoundryNine", name := "users", desc := "(I)I" } : Jvm.MethodName)) ∈ lw_tbl := List.mem_of_getElem? (i := 520) (by decide +kernel)
theorem tw_454 : (Jvm.Cond.instanceMethod ({ cls := "FoundryNine", name := "users", desc := "(I)I" } : Jvm.MethodName)) ∈ lw_tbl := List.mem_of_getElem? (i := 521) (by decide +kernel)
theorem tw_455 : (Jvm.Cond.selects "FoundryNine" ({ cls := "FoundryNine", name := "users", desc := "(I)I" } : Jvm.MethodName) ({ cls := "FoundryNine", name := "users", desc := "(I)I" } : Jvm.MethodName)) ∈ lw_tbl := List.mem_of_getElem? (i := 522) (by decide +kernel)
set_option maxRecDepth 20000 in
theorem tw_456 : (Jvm.Cond.code ({ cls := "FoundryNine", name := "users", desc := "(I)I" } : Jvm.MethodName) prog_1_method_13_code (2 : Nat) (Option.some Jvm.ClassFile.FieldType.int)) ∈ lw_tbl := in_t2 (List.mem_of_getElem? (i := 216) rfl)
theorem tw_457 : (Jvm.Cond.methodLink "FoundryNine" (137 : Nat) ({ cls := "java/lang/Integer", name := "bitCount", desc := "(I)I" } : Jvm.MethodName)) ∈ lw_tbl := List.mem_of_getElem? (i := 524) (by decide +kernel)
theorem tw_458 : (Jvm.Cond.static ({ cls := "java/lang/Integer", name := "bitCount", desc := "(I)I" } : Jvm.MethodName)) ∈ lw_tbl := List.mem_of_getElem? (i := 525) (by decide +kernel)
set_option maxRecDepth 20000 in
theorem tw_459 : (Jvm.Cond.code ({ cls := "java/lang/Integer", name := "bitCount", desc := "(I)I" } : Jvm.MethodName) prog_12_method_49_code (1 : Nat) (Option.some Jvm.ClassFile.FieldType.int)) ∈ lw_tbl := in_t2 (List.mem_of_getElem? (i := 219) rfl)
theorem tw_460 : (Jvm.Cond.constant "java/lang/Integer" (265 : Nat) (1431655765 : Int32)) ∈ lw_tbl := List.mem_of_getElem? (i := 527) (by decide +kernel)
theorem tw_461 : (Jvm.Cond.constant "java/lang/Integer" (266 : Nat) (858993459 : Int32)) ∈ lw_tbl := List.mem_of_getElem? (i := 528) (by decide +kernel)
theorem tw_462 : (Jvm.Cond.constant "java/lang/Integer" (267 : Nat) (252645135 : Int32)) ∈ lw_tbl := List.mem_of_getElem? (i := 529) (by decide +kernel)
theorem tw_463 : (Jvm.Cond.methodLink "FoundryNine" (280 : Nat) ({ cls := "FoundryNine", name := "ofWire", desc := "(II)I" } : Jvm.MethodName)) ∈ lw_tbl := List.mem_of_getElem? (i := 530) (by decide +kernel)
theorem tw_464 : (Jvm.Cond.instanceMethod ({ cls := "FoundryNine", name := "ofWire", desc := "(II)I" } : Jvm.MethodName)) ∈ lw_tbl := List.mem_of_getElem? (i := 531) (by decide +kernel)
theorem tw_465 : (Jvm.Cond.selects "FoundryNine" ({ cls := "FoundryNine", name := "ofWire", desc := "(II)I" } : Jvm.MethodName) ({ cls := "FoundryNine", name := "ofWire", desc := "(II)I" } : Jvm.MethodName)) ∈ lw_tbl := List.mem_of_getElem? (i := 532) (by decide +kernel)
set_option maxRecDepth 20000 in
theorem tw_466 : (Jvm.Cond.code ({ cls := "FoundryNine", name := "ofWire", desc := "(II)I" } : Jvm.MethodName) prog_1_method_20_code (3 : Nat) (Option.some Jvm.ClassFile.FieldType.int)) ∈ lw_tbl := in_t2 (List.mem_of_getElem? (i := 226) rfl)
theorem tw_467 : (Jvm.Cond.stringRef "FoundryNine" (204 : Nat) "nothing of that number is known of a wire") ∈ lw_tbl := List.mem_of_getElem? (i := 534) (by decide +kernel)
theorem tw_468 : (Jvm.Cond.methodLink "FoundryNine" (260 : Nat) ({ cls := "FoundryNine", name := "digestOfRun", desc := "(J)J" } : Jvm.MethodName)) ∈ lw_tbl := List.mem_of_getElem? (i := 535) (by decide +kernel)
theorem tw_469 : (Jvm.Cond.privateMethod ({ cls := "FoundryNine", name := "digestOfRun", desc := "(J)J" } : Jvm.MethodName)) ∈ lw_tbl := List.mem_of_getElem? (i := 536) (by decide +kernel)
theorem tw_470 : (Jvm.Cond.instanceMethod ({ cls := "FoundryNine", name := "digestOfRun", desc := "(J)J" } : Jvm.MethodName)) ∈ lw_tbl := List.mem_of_getElem? (i := 537) (by decide +kernel)
set_option maxRecDepth 20000 in
theorem tw_471 : (Jvm.Cond.code ({ cls := "FoundryNine", name := "digestOfRun", desc := "(J)J" } : Jvm.MethodName) prog_1_method_33_code (7 : Nat) (Option.some Jvm.ClassFile.FieldType.long)) ∈ lw_tbl := in_t2 (List.mem_of_getElem? (i := 231) rfl)
theorem tw_472 : (Jvm.Cond.methodLink "FoundryNine" (283 : Nat) ({ cls := "FoundryNine", name := "pending", desc := "(I)I" } : Jvm.MethodName)) ∈ lw_tbl := List.mem_of_getElem? (i := 539) (by decide +kernel)
theorem tw_473 : (Jvm.Cond.instanceMethod ({ cls := "FoundryNine", name := "pending", desc := "(I)I" } : Jvm.MethodName)) ∈ lw_tbl := List.mem_of_getElem? (i := 540) (by decide +kernel)
theorem tw_474 : (Jvm.Cond.selects "FoundryNine" ({ cls := "FoundryNine", name := "pending", desc := "(I)I" } : Jvm.MethodName) ({ cls := "FoundryNine", name := "pending", desc := "(I)I" } : Jvm.MethodName)) ∈ lw_tbl := List.mem_of_getElem? (i := 541) (by decide +kernel)
set_option maxRecDepth 20000 in
theorem tw_475 : (Jvm.Cond.code ({ cls := "FoundryNine", name := "pending", desc := "(I)I" } : Jvm.MethodName) prog_1_method_21_code (2 : Nat) (Option.some Jvm.ClassFile.FieldType.int)) ∈ lw_tbl := in_t2 (List.mem_of_getElem? (i := 235) rfl)
theorem tw_476 : (Jvm.Cond.methodLink "FoundryNine" (70 : Nat) ({ cls := "FoundryNine", name := "checkLine", desc := "(I)V" } : Jvm.MethodName)) ∈ lw_tbl := List.mem_of_getElem? (i := 543) (by decide +kernel)
theorem tw_477 : (Jvm.Cond.privateMethod ({ cls := "FoundryNine", name := "checkLine", desc := "(I)V" } : Jvm.MethodName)) ∈ lw_tbl := List.mem_of_getElem? (i := 544) (by decide +kernel)
theorem tw_478 : (Jvm.Cond.instanceMethod ({ cls := "FoundryNine", name := "checkLine", desc := "(I)V" } : Jvm.MethodName)) ∈ lw_tbl := List.mem_of_getElem? (i := 545) (by decide +kernel)
set_option maxRecDepth 20000 in
theorem tw_479 : (Jvm.Cond.code ({ cls := "FoundryNine", name := "checkLine", desc := "(I)V" } : Jvm.MethodName) prog_1_method_40_code (2 : Nat) (Option.none : Option Jvm.ClassFile.FieldType)) ∈ lw_tbl := in_t2 (List.mem_of_getElem? (i := 239) rfl)
theorem tw_480 : (Jvm.Cond.stringRef "FoundryNine" (308 : Nat) "no such line") ∈ lw_tbl := List.mem_of_getElem? (i := 547) (by decide +kernel)
theorem tw_481 : (Jvm.Cond.methodLink "FoundryNine" (286 : Nat) ({ cls := "FoundryNine", name := "hazards", desc := "()I" } : Jvm.MethodName)) ∈ lw_tbl := List.mem_of_getElem? (i := 548) (by decide +kernel)
theorem tw_482 : (Jvm.Cond.methodLink "FoundryNine" (289 : Nat) ({ cls := "FoundryNine", name := "ofHazard", desc := "(II)I" } : Jvm.MethodName)) ∈ lw_tbl := List.mem_of_getElem? (i := 549) (by decide +kernel)
theorem tw_483 : (Jvm.Cond.instanceMethod ({ cls := "FoundryNine", name := "ofHazard", desc := "(II)I" } : Jvm.MethodName)) ∈ lw_tbl := List.mem_of_getElem? (i := 550) (by decide +kernel)
theorem tw_484 : (Jvm.Cond.selects "FoundryNine" ({ cls := "FoundryNine", name := "ofHazard", desc := "(II)I" } : Jvm.MethodName) ({ cls := "FoundryNine", name := "ofHazard", desc := "(II)I" } : Jvm.MethodName)) ∈ lw_tbl := List.mem_of_getElem? (i := 551) (by decide +kernel)
set_option maxRecDepth 20000 in
theorem tw_485 : (Jvm.Cond.code ({ cls := "FoundryNine", name := "ofHazard", desc := "(II)I" } : Jvm.MethodName) prog_1_method_23_code (3 : Nat) (Option.some Jvm.ClassFile.FieldType.int)) ∈ lw_tbl := in_t3 (List.mem_of_getElem? (i := 5) rfl)
theorem tw_486 : (Jvm.Cond.stringRef "FoundryNine" (212 : Nat) "no such hazard") ∈ lw_tbl := List.mem_of_getElem? (i := 553) (by decide +kernel)
theorem tw_487 : (Jvm.Cond.stringRef "FoundryNine" (223 : Nat) "nothing of that number is kept of a hazard") ∈ lw_tbl := List.mem_of_getElem? (i := 554) (by decide +kernel)
theorem tw_488 : (Jvm.Cond.methodLink "FoundryNine" (263 : Nat) ({ cls := "FoundryNine", name := "settlesIn", desc := "()I" } : Jvm.MethodName)) ∈ lw_tbl := List.mem_of_getElem? (i := 555) (by decide +kernel)
theorem tw_489 : (Jvm.Cond.instanceMethod ({ cls := "FoundryNine", name := "settlesIn", desc := "()I" } : Jvm.MethodName)) ∈ lw_tbl := List.mem_of_getElem? (i := 556) (by decide +kernel)
theorem tw_490 : (Jvm.Cond.selects "FoundryNine" ({ cls := "FoundryNine", name := "settlesIn", desc := "()I" } : Jvm.MethodName) ({ cls := "FoundryNine", name := "settlesIn", desc := "()I" } : Jvm.MethodName)) ∈ lw_tbl := List.mem_of_getElem? (i := 557) (by decide +kernel)
set_option maxRecDepth 20000 in
theorem tw_491 : (Jvm.Cond.code ({ cls := "FoundryNine", name := "settlesIn", desc := "()I" } : Jvm.MethodName) prog_1_method_26_code (1 : Nat) (Option.some Jvm.ClassFile.FieldType.int)) ∈ lw_tbl := in_t3 (List.mem_of_getElem? (i := 11) rfl)
theorem tw_492 : (Jvm.Cond.methodLink "FoundryNine" (157 : Nat) ({ cls := "FoundryNine", name := "checkRunning", desc := "()V" } : Jvm.MethodName)) ∈ lw_tbl := List.mem_of_getElem? (i := 559) (by decide +kernel)
theorem tw_493 : (Jvm.Cond.privateMethod ({ cls := "FoundryNine", name := "checkRunning", desc := "()V" } : Jvm.MethodName)) ∈ lw_tbl := List.mem_of_getElem? (i := 560) (by decide +kernel)
theorem tw_494 : (Jvm.Cond.instanceMethod ({ cls := "FoundryNine", name := "checkRunning", desc := "()V" } : Jvm.MethodName)) ∈ lw_tbl := List.mem_of_getElem? (i := 561) (by decide +kernel)
set_option maxRecDepth 20000 in
theorem tw_495 : (Jvm.Cond.code ({ cls := "FoundryNine", name := "checkRunning", desc := "()V" } : Jvm.MethodName) prog_1_method_42_code (1 : Nat) (Option.none : Option Jvm.ClassFile.FieldType)) ∈ lw_tbl := in_t3 (List.mem_of_getElem? (i := 15) rfl)
theorem tw_496 : (Jvm.Cond.classLink "FoundryNine" (146 : Nat) "java/lang/IllegalStateException") ∈ lw_tbl := List.mem_of_getElem? (i := 563) (by decide +kernel)
theorem tw_497 : (Jvm.Cond.instantiable "java/lang/IllegalStateException" (6 : Nat)) ∈ lw_tbl := List.mem_of_getElem? (i := 564) (by decide +kernel)
theorem tw_498 : (Jvm.Cond.castable "java/lang/IllegalStateException" "java/lang/IllegalStateException") ∈ lw_tbl := List.mem_of_getElem? (i := 565) (by decide +kernel)
theorem tw_499 : (Jvm.Cond.selects "java/lang/IllegalStateException" ({ cls := "java/lang/Throwable", name := "fillInStackTrace", desc := "(I)Ljava/lang/Throwable;" } : Jvm.MethodName) ({ cls := "java/lang/Throwable", name := "fillInStackTrace", desc := "(I)Ljava/lang/Throwable;" } : Jvm.MethodName)) ∈ lw_tbl := List.mem_of_getElem? (i := 566) (by decide +kernel)
theorem tw_500 : (Jvm.Cond.lays "java/lang/IllegalStateException" "java/lang/Throwable" "cause" "Ljava/lang/Throwable;") ∈ lw_tbl := List.mem_of_getElem? (i := 567) (by decide +kernel)
theorem tw_501 : (Jvm.Cond.lays "java/lang/IllegalStateException" "java/lang/Throwable" "stackTrace" "[Ljava/lang/StackTraceElement;") ∈ lw_tbl := List.mem_of_getElem? (i := 568) (by decide +kernel)
theorem tw_502 : (Jvm.Cond.lays "java/lang/IllegalStateException" "java/lang/Throwable" "suppressedExceptions" "Ljava/util/List;") ∈ lw_tbl := List.mem_of_getElem? (i := 569) (by decide +kernel)
theorem tw_503 : (Jvm.Cond.lays "java/lang/IllegalStateException" "java/lang/Throwable" "detailMessage" "Ljava/lang/String;") ∈ lw_tbl := List.mem_of_getElem? (i := 570) (by decide +kernel)
theorem tw_504 : (Jvm.Cond.lays "java/lang/IllegalStateException" "java/lang/Throwable" "backtrace" "Ljava/lang/Object;") ∈ lw_tbl := List.mem_of_getElem? (i := 571) (by decide +kernel)
theorem tw_505 : (Jvm.Cond.stringRef "FoundryNine" (312 : Nat) "it does not run") ∈ lw_tbl := List.mem_of_getElem? (i := 572) (by decide +kernel)
theorem tw_506 : (Jvm.Cond.methodLink "FoundryNine" (150 : Nat) ({ cls := "java/lang/IllegalStateException", name := "<init>", desc := "(Ljava/lang/String;)V" } : Jvm.MethodName)) ∈ lw_tbl := List.mem_of_getElem? (i := 573) (by decide +kernel)
theorem tw_507 : (Jvm.Cond.instanceMethod ({ cls := "java/lang/IllegalStateException", name := "<init>", desc := "(Ljava/lang/String;)V" } : Jvm.MethodName)) ∈ lw_tbl := List.mem_of_getElem? (i := 574) (by decide +kernel)
set_option maxRecDepth 20000 in
theorem tw_508 : (Jvm.Cond.code ({ cls := "java/lang/IllegalStateException", name := "<init>", desc := "(Ljava/lang/String;)V" } : Jvm.MethodName) prog_10_method_2_code (2 : Nat) (Option.none : Option Jvm.ClassFile.FieldType)) ∈ lw_tbl := in_t3 (List.mem_of_getElem? (i := 28) rfl)
theorem tw_509 : (Jvm.Cond.methodLink "java/lang/IllegalStateException" (7 : Nat) ({ cls := "java/lang/RuntimeException", name := "<init>", desc := "(Ljava/lang/String;)V" } : Jvm.MethodName)) ∈ lw_tbl := List.mem_of_getElem? (i := 576) (by decide +kernel)
theorem tw_510 : (Jvm.Cond.lays "java/lang/IllegalStateException" "java/lang/Throwable" "depth" "I") ∈ lw_tbl := List.mem_of_getElem? (i := 577) (by decide +kernel)
theorem tw_511 : (Jvm.Cond.superclass "java/lang/IllegalStateException" "java/lang/RuntimeException") ∈ lw_tbl := List.mem_of_getElem? (i := 578) (by decide +kernel)
theorem tw_512 : (Jvm.Cond.methodLink "FoundryNine" (225 : Nat) ({ cls := "FoundryNine$Run", name := "copyFrom", desc := "(LFoundryNine$Run;)V" } : Jvm.MethodName)) ∈ lw_tbl := List.mem_of_getElem? (i := 579) (by decide +kernel)
theorem tw_513 : (Jvm.Cond.instanceMethod ({ cls := "FoundryNine$Run", name := "copyFrom", desc := "(LFoundryNine$Run;)V" } : Jvm.MethodName)) ∈ lw_tbl := List.mem_of_getElem? (i := 580) (by decide +kernel)
theorem tw_514 : (Jvm.Cond.selects "FoundryNine$Run" ({ cls := "FoundryNine$Run", name := "copyFrom", desc := "(LFoundryNine$Run;)V" } : Jvm.MethodName) ({ cls := "FoundryNine$Run", name := "copyFrom", desc := "(LFoundryNine$Run;)V" } : Jvm.MethodName)) ∈ lw_tbl := List.mem_of_getElem? (i := 581) (by decide +kernel)
set_option maxRecDepth 20000 in
theorem tw_515 : (Jvm.Cond.code ({ cls := "FoundryNine$Run", name := "copyFrom", desc := "(LFoundryNine$Run;)V" } : Jvm.MethodName) prog_5_method_3_code (2 : Nat) (Option.none : Option Jvm.ClassFile.FieldType)) ∈ lw_tbl := in_t3 (List.mem_of_getElem? (i := 35) rfl)
theorem tw_516 : (Jvm.Cond.constant "FoundryNine" (229 : Nat) (2147483647 : Int32)) ∈ lw_tbl := List.mem_of_getElem? (i := 583) (by decide +kernel)
theorem tw_517 : (Jvm.Cond.methodLink "FoundryNine" (175 : Nat) ({ cls := "FoundryNine$Run", name := "letCome", desc := "(I)I" } : Jvm.MethodName)) ∈ lw_tbl := List.mem_of_getElem? (i := 584) (by decide +kernel)
theorem tw_518 : (Jvm.Cond.instanceMethod ({ cls := "FoundryNine$Run", name := "letCome", desc := "(I)I" } : Jvm.MethodName)) ∈ lw_tbl := List.mem_of_getElem? (i := 585) (by decide +kernel)
theorem tw_519 : (Jvm.Cond.selects "FoundryNine$Run" ({ cls := "FoundryNine$Run", name := "letCome", desc := "(I)I" } : Jvm.MethodName) ({ cls := "FoundryNine$Run", name := "letCome", desc := "(I)I" } : Jvm.MethodName)) ∈ lw_tbl := List.mem_of_getElem? (i := 586) (by decide +kernel)
set_option maxRecDepth 20000 in
theorem tw_520 : (Jvm.Cond.code ({ cls := "FoundryNine$Run", name := "letCome", desc := "(I)I" } : Jvm.MethodName) prog_5_method_7_code (6 : Nat) (Option.some Jvm.ClassFile.FieldType.int)) ∈ lw_tbl := in_t3 (List.mem_of_getElem? (i := 40) rfl)
theorem tw_521 : (Jvm.Cond.methodLink "FoundryNine$Run" (100 : Nat) ({ cls := "FoundryNine$Run", name := "change", desc := "(II)V" } : Jvm.MethodName)) ∈ lw_tbl := List.mem_of_getElem? (i := 588) (by decide +kernel)
theorem tw_522 : (Jvm.Cond.privateMethod ({ cls := "FoundryNine$Run", name := "change", desc := "(II)V" } : Jvm.MethodName)) ∈ lw_tbl := List.mem_of_getElem? (i := 589) (by decide +kernel)
theorem tw_523 : (Jvm.Cond.instanceMethod ({ cls := "FoundryNine$Run", name := "change", desc := "(II)V" } : Jvm.MethodName)) ∈ lw_tbl := List.mem_of_getElem? (i := 590) (by decide +kernel)
set_option maxRecDepth 20000 in
theorem tw_524 : (Jvm.Cond.code ({ cls := "FoundryNine$Run", name := "change", desc := "(II)V" } : Jvm.MethodName) prog_5_method_14_code (5 : Nat) (Option.none : Option Jvm.ClassFile.FieldType)) ∈ lw_tbl := in_t3 (List.mem_of_getElem? (i := 44) rfl)
theorem tw_525 : (Jvm.Cond.methodLinkNest "FoundryNine$Run" (119 : Nat) ({ cls := "FoundryNine", name := "isWire", desc := "(I)Z" } : Jvm.MethodName) "FoundryNine") ∈ lw_tbl := List.mem_of_getElem? (i := 592) (by decide +kernel)
theorem tw_526 : (Jvm.Cond.methodLink "FoundryNine$Run" (123 : Nat) ({ cls := "FoundryNine$Circuit", name := "isUsedBy", desc := "(II)Z" } : Jvm.MethodName)) ∈ lw_tbl := List.mem_of_getElem? (i := 593) (by decide +kernel)
theorem tw_527 : (Jvm.Cond.instanceMethod ({ cls := "FoundryNine$Circuit", name := "isUsedBy", desc := "(II)Z" } : Jvm.MethodName)) ∈ lw_tbl := List.mem_of_getElem? (i := 594) (by decide +kernel)
theorem tw_528 : (Jvm.Cond.selects "FoundryNine$Circuit" ({ cls := "FoundryNine$Circuit", name := "isUsedBy", desc := "(II)Z" } : Jvm.MethodName) ({ cls := "FoundryNine$Circuit", name := "isUsedBy", desc := "(II)Z" } : Jvm.MethodName)) ∈ lw_tbl := List.mem_of_getElem? (i := 595) (by decide +kernel)
set_option maxRecDepth 20000 in
theorem tw_529 : (Jvm.Cond.code ({ cls := "FoundryNine$Circuit", name := "isUsedBy", desc := "(II)Z" } : Jvm.MethodName) prog_3_method_6_code (3 : Nat) (Option.some Jvm.ClassFile.FieldType.boolean)) ∈ lw_tbl := in_t3 (List.mem_of_getElem? (i := 49) rfl)
theorem tw_530 : (Jvm.Cond.methodLink "FoundryNine$Run" (126 : Nat) ({ cls := "FoundryNine$Run", name := "askRegister", desc := "(III)V" } : Jvm.MethodName)) ∈ lw_tbl := List.mem_of_getElem? (i := 597) (by decide +kernel)
theorem tw_531 : (Jvm.Cond.privateMethod ({ cls := "FoundryNine$Run", name := "askRegister", desc := "(III)V" } : Jvm.MethodName)) ∈ lw_tbl := List.mem_of_getElem? (i := 598) (by decide +kernel)
theorem tw_532 : (Jvm.Cond.instanceMethod ({ cls := "FoundryNine$Run", name := "askRegister", desc := "(III)V" } : Jvm.MethodName)) ∈ lw_tbl := List.mem_of_getElem? (i := 599) (by decide +kernel)
set_option maxRecDepth 20000 in
theorem tw_533 : (Jvm.Cond.code ({ cls := "FoundryNine$Run", name := "askRegister", desc := "(III)V" } : Jvm.MethodName) prog_5_method_16_code (7 : Nat) (Option.none : Option Jvm.ClassFile.FieldType)) ∈ lw_tbl := in_t3 (List.mem_of_getElem? (i := 53) rfl)
theorem tw_534 : (Jvm.Cond.methodLink "FoundryNine$Run" (137 : Nat) ({ cls := "FoundryNine$Run", name := "valueOf", desc := "(I)I" } : Jvm.MethodName)) ∈ lw_tbl := List.mem_of_getElem? (i := 601) (by decide +kernel)
theorem tw_535 : (Jvm.Cond.privateMethod ({ cls := "FoundryNine$Run", name := "valueOf", desc := "(I)I" } : Jvm.MethodName)) ∈ lw_tbl := List.mem_of_getElem? (i := 602) (by decide +kernel)
theorem tw_536 : (Jvm.Cond.instanceMethod ({ cls := "FoundryNine$Run", name := "valueOf", desc := "(I)I" } : Jvm.MethodName)) ∈ lw_tbl := List.mem_of_getElem? (i := 603) (by decide +kernel)
set_option maxRecDepth 20000 in
theorem tw_537 : (Jvm.Cond.code ({ cls := "FoundryNine$Run", name := "valueOf", desc := "(I)I" } : Jvm.MethodName) prog_5_method_20_code (2 : Nat) (Option.some Jvm.ClassFile.FieldType.int)) ∈ lw_tbl := in_t3 (List.mem_of_getElem? (i := 57) rfl)
theorem tw_538 : (Jvm.Cond.methodLink "FoundryNine$Run" (150 : Nat) ({ cls := "FoundryNine$Run", name := "makePending", desc := "(II)V" } : Jvm.MethodName)) ∈ lw_tbl := List.mem_of_getElem? (i := 605) (by decide +kernel)
theorem tw_539 : (Jvm.Cond.privateMethod ({ cls := "FoundryNine$Run", name := "makePending", desc := "(II)V" } : Jvm.MethodName)) ∈ lw_tbl := List.mem_of_getElem? (i := 606) (by decide +kernel)
theorem tw_540 : (Jvm.Cond.instanceMethod ({ cls := "FoundryNine$Run", name := "makePending", desc := "(II)V" } : Jvm.MethodName)) ∈ lw_tbl := List.mem_of_getElem? (i := 607) (by decide +kernel)
set_option maxRecDepth 20000 in
theorem tw_541 : (Jvm.Cond.code ({ cls := "FoundryNine$Run", name := "makePending", desc := "(II)V" } : Jvm.MethodName) prog_5_method_19_code (3 : Nat) (Option.none : Option Jvm.ClassFile.FieldType)) ∈ lw_tbl := in_t3 (List.mem_of_getElem? (i := 61) rfl)
theorem tw_542 : (Jvm.Cond.methodLink "FoundryNine$Run" (153 : Nat) ({ cls := "FoundryNine$Run", name := "rise", desc := "(I)V" } : Jvm.MethodName)) ∈ lw_tbl := List.mem_of_getElem? (i := 609) (by decide +kernel)
theorem tw_543 : (Jvm.Cond.privateMethod ({ cls := "FoundryNine$Run", name := "rise", desc := "(I)V" } : Jvm.MethodName)) ∈ lw_tbl := List.mem_of_getElem? (i := 610) (by decide +kernel)
theorem tw_544 : (Jvm.Cond.instanceMethod ({ cls := "FoundryNine$Run", name := "rise", desc := "(I)V" } : Jvm.MethodName)) ∈ lw_tbl := List.mem_of_getElem? (i := 611) (by decide +kernel)
set_option maxRecDepth 20000 in
theorem tw_545 : (Jvm.Cond.code ({ cls := "FoundryNine$Run", name := "rise", desc := "(I)V" } : Jvm.MethodName) prog_5_method_17_code (4 : Nat) (Option.none : Option Jvm.ClassFile.FieldType)) ∈ lw_tbl := in_t3 (List.mem_of_getElem? (i := 65) rfl)
theorem tw_546 : (Jvm.Cond.methodLink "FoundryNine$Run" (159 : Nat) ({ cls := "FoundryNine$Run", name := "isRecent", desc := "(II)Z" } : Jvm.MethodName)) ∈ lw_tbl := List.mem_of_getElem? (i := 613) (by decide +kernel)
theorem tw_547 : (Jvm.Cond.privateMethod ({ cls := "FoundryNine$Run", name := "isRecent", desc := "(II)Z" } : Jvm.MethodName)) ∈ lw_tbl := List.mem_of_getElem? (i := 614) (by decide +kernel)
theorem tw_548 : (Jvm.Cond.instanceMethod ({ cls := "FoundryNine$Run", name := "isRecent", desc := "(II)Z" } : Jvm.MethodName)) ∈ lw_tbl := List.mem_of_getElem? (i := 615) (by decide +kernel)
set_option maxRecDepth 20000 in
theorem tw_549 : (Jvm.Cond.code ({ cls := "FoundryNine$Run", name := "isRecent", desc := "(II)Z" } : Jvm.MethodName) prog_5_method_18_code (3 : Nat) (Option.some Jvm.ClassFile.FieldType.boolean)) ∈ lw_tbl := in_t3 (List.mem_of_getElem? (i := 69) rfl)
theorem tw_550 : (Jvm.Cond.methodLink "FoundryNine$Run" (162 : Nat) ({ cls := "FoundryNine$Run", name := "noteHazard", desc := "(II)V" } : Jvm.MethodName)) ∈ lw_tbl := List.mem_of_getElem? (i := 617) (by decide +kernel)
theorem tw_551 : (Jvm.Cond.privateMethod ({ cls := "FoundryNine$Run", name := "noteHazard", desc := "(II)V" } : Jvm.MethodName)) ∈ lw_tbl := List.mem_of_getElem? (i := 618) (by decide +kernel)
theorem tw_552 : (Jvm.Cond.instanceMethod ({ cls := "FoundryNine$Run", name := "noteHazard", desc := "(II)V" } : Jvm.MethodName)) ∈ lw_tbl := List.mem_of_getElem? (i := 619) (by decide +kernel)
set_option maxRecDepth 20000 in
theorem tw_553 : (Jvm.Cond.code ({ cls := "FoundryNine$Run", name := "noteHazard", desc := "(II)V" } : Jvm.MethodName) prog_5_method_22_code (3 : Nat) (Option.none : Option Jvm.ClassFile.FieldType)) ∈ lw_tbl := in_t3 (List.mem_of_getElem? (i := 73) rfl)
theorem tw_554 : (Jvm.Cond.methodLink "FoundryNine$Run" (130 : Nat) ({ cls := "FoundryNine$Run", name := "askGate", desc := "(I)V" } : Jvm.MethodName)) ∈ lw_tbl := List.mem_of_getElem? (i := 621) (by decide +kernel)
theorem tw_555 : (Jvm.Cond.privateMethod ({ cls := "FoundryNine$Run", name := "askGate", desc := "(I)V" } : Jvm.MethodName)) ∈ lw_tbl := List.mem_of_getElem? (i := 622) (by decide +kernel)
theorem tw_556 : (Jvm.Cond.instanceMethod ({ cls := "FoundryNine$Run", name := "askGate", desc := "(I)V" } : Jvm.MethodName)) ∈ lw_tbl := List.mem_of_getElem? (i := 623) (by decide +kernel)
set_option maxRecDepth 20000 in
theorem tw_557 : (Jvm.Cond.code ({ cls := "FoundryNine$Run", name := "askGate", desc := "(I)V" } : Jvm.MethodName) prog_5_method_15_code (3 : Nat) (Option.none : Option Jvm.ClassFile.FieldType)) ∈ lw_tbl := in_t3 (List.mem_of_getElem? (i := 77) rfl)
theorem tw_558 : (Jvm.Cond.methodLink "FoundryNine$Run" (146 : Nat) ({ cls := "FoundryNine$Run", name := "worked", desc := "(IIII)I" } : Jvm.MethodName)) ∈ lw_tbl := List.mem_of_getElem? (i := 625) (by decide +kernel)
theorem tw_559 : (Jvm.Cond.static ({ cls := "FoundryNine$Run", name := "worked", desc := "(IIII)I" } : Jvm.MethodName)) ∈ lw_tbl := List.mem_of_getElem? (i := 626) (by decide +kernel)
set_option maxRecDepth 20000 in
theorem tw_560 : (Jvm.Cond.code ({ cls := "FoundryNine$Run", name := "worked", desc := "(IIII)I" } : Jvm.MethodName) prog_5_method_23_code (4 : Nat) (Option.some Jvm.ClassFile.FieldType.int)) ∈ lw_tbl := in_t3 (List.mem_of_getElem? (i := 80) rfl)
theorem tw_561 : (Jvm.Cond.methodLink "FoundryNine$Run" (177 : Nat) ({ cls := "FoundryNine$Run", name := "turned", desc := "(I)I" } : Jvm.MethodName)) ∈ lw_tbl := List.mem_of_getElem? (i := 628) (by decide +kernel)
theorem tw_562 : (Jvm.Cond.static ({ cls := "FoundryNine$Run", name := "turned", desc := "(I)I" } : Jvm.MethodName)) ∈ lw_tbl := List.mem_of_getElem? (i := 629) (by decide +kernel)
set_option maxRecDepth 20000 in
theorem tw_563 : (Jvm.Cond.code ({ cls := "FoundryNine$Run", name := "turned", desc := "(I)I" } : Jvm.MethodName) prog_5_method_24_code (1 : Nat) (Option.some Jvm.ClassFile.FieldType.int)) ∈ lw_tbl := in_t3 (List.mem_of_getElem? (i := 83) rfl)
theorem tw_564 : (Jvm.Cond.methodLink "FoundryNine$Run" (180 : Nat) ({ cls := "FoundryNine$Run", name := "both", desc := "(II)I" } : Jvm.MethodName)) ∈ lw_tbl := List.mem_of_getElem? (i := 631) (by decide +kernel)
theorem tw_565 : (Jvm.Cond.static ({ cls := "FoundryNine$Run", name := "both", desc := "(II)I" } : Jvm.MethodName)) ∈ lw_tbl := List.mem_of_getElem? (i := 632) (by decide +kernel)
set_option maxRecDepth 20000 in
theorem tw_566 : (Jvm.Cond.code ({ cls := "FoundryNine$Run", name := "both", desc := "(II)I" } : Jvm.MethodName) prog_5_method_25_code (2 : Nat) (Option.some Jvm.ClassFile.FieldType.int)) ∈ lw_tbl := in_t3 (List.mem_of_getElem? (i := 86) rfl)
theorem tw_567 : (Jvm.Cond.methodLink "FoundryNine$Run" (184 : Nat) ({ cls := "FoundryNine$Run", name := "either", desc := "(II)I" } : Jvm.MethodName)) ∈ lw_tbl := List.mem_of_getElem? (i := 634) (by decide +kernel)
theorem tw_568 : (Jvm.Cond.static ({ cls := "FoundryNine$Run", name := "either", desc := "(II)I" } : Jvm.MethodName)) ∈ lw_tbl := List.mem_of_getElem? (i := 635) (by decide +kernel)
set_option maxRecDepth 20000 in
theorem tw_569 : (Jvm.Cond.code ({ cls := "FoundryNine$Run", name := "either", desc := "(II)I" } : Jvm.MethodName) prog_5_method_26_code (2 : Nat) (Option.some Jvm.ClassFile.FieldType.int)) ∈ lw_tbl := in_t3 (List.mem_of_getElem? (i := 89) rfl)
theorem tw_570 : (Jvm.Cond.methodLink "FoundryNine$Run" (187 : Nat) ({ cls := "FoundryNine$Run", name := "chosen", desc := "(III)I" } : Jvm.MethodName)) ∈ lw_tbl := List.mem_of_getElem? (i := 637) (by decide +kernel)
theorem tw_571 : (Jvm.Cond.static ({ cls := "FoundryNine$Run", name := "chosen", desc := "(III)I" } : Jvm.MethodName)) ∈ lw_tbl := List.mem_of_getElem? (i := 638) (by decide +kernel)
set_option maxRecDepth 20000 in
theorem tw_572 : (Jvm.Cond.code ({ cls := "FoundryNine$Run", name := "chosen", desc := "(III)I" } : Jvm.MethodName) prog_5_method_27_code (3 : Nat) (Option.some Jvm.ClassFile.FieldType.int)) ∈ lw_tbl := in_t3 (List.mem_of_getElem? (i := 92) rfl)
theorem tw_573 : (Jvm.Cond.methodLink "FoundryNineLaw" (85 : Nat) ({ cls := "FoundryNineLaw", name := "input", desc := "(LFoundryNine;I[J)I" } : Jvm.MethodName)) ∈ lw_tbl := List.mem_of_getElem? (i := 640) (by decide +kernel)
theorem tw_574 : (Jvm.Cond.static ({ cls := "FoundryNineLaw", name := "input", desc := "(LFoundryNine;I[J)I" } : Jvm.MethodName)) ∈ lw_tbl := List.mem_of_getElem? (i := 641) (by decide +kernel)
set_option maxRecDepth 20000 in
theorem tw_575 : (Jvm.Cond.codeWith ({ cls := "FoundryNineLaw", name := "input", desc := "(LFoundryNine;I[J)I" } : Jvm.MethodName) method_3_code (4 : Nat) (Option.some Jvm.ClassFile.FieldType.int) [((0 : Nat), (9 : Nat), (12 : Nat), (13 : Nat)), ((0 : Nat), (9 : Nat), (15 : Nat), (15 : Nat))]) ∈ lw_tbl := in_t3 (List.mem_of_getElem? (i := 95) rfl)
theorem tw_576 : (Jvm.Cond.classLink "FoundryNineLaw" (13 : Nat) "java/lang/IndexOutOfBoundsException") ∈ lw_tbl := List.mem_of_getElem? (i := 643) (by decide +kernel)
theorem tw_577 : (Jvm.Cond.classLink "FoundryNineLaw" (15 : Nat) "java/lang/IllegalStateException") ∈ lw_tbl := List.mem_of_getElem? (i := 644) (by decide +kernel)
theorem tw_578 : (Jvm.Cond.methodLink "FoundryNineLaw" (7 : Nat) ({ cls := "FoundryNine", name := "input", desc := "(I)I" } : Jvm.MethodName)) ∈ lw_tbl := List.mem_of_getElem? (i := 645) (by decide +kernel)
theorem tw_579 : (Jvm.Cond.instanceMethod ({ cls := "FoundryNine", name := "input", desc := "(I)I" } : Jvm.MethodName)) ∈ lw_tbl := List.mem_of_getElem? (i := 646) (by decide +kernel)
theorem tw_580 : (Jvm.Cond.selects "FoundryNine" ({ cls := "FoundryNine", name := "input", desc := "(I)I" } : Jvm.MethodName) ({ cls := "FoundryNine", name := "input", desc := "(I)I" } : Jvm.MethodName)) ∈ lw_tbl := List.mem_of_getElem? (i := 647) (by decide +kernel)
set_option maxRecDepth 20000 in
theorem tw_581 : (Jvm.Cond.code ({ cls := "FoundryNine", name := "input", desc := "(I)I" } : Jvm.MethodName) prog_1_method_2_code (2 : Nat) (Option.some Jvm.ClassFile.FieldType.int)) ∈ lw_tbl := in_t3 (List.mem_of_getElem? (i := 101) rfl)
theorem tw_582 : (Jvm.Cond.methodLink "FoundryNine" (53 : Nat) ({ cls := "FoundryNine", name := "checkRoom", desc := "()V" } : Jvm.MethodName)) ∈ lw_tbl := List.mem_of_getElem? (i := 649) (by decide +kernel)
theorem tw_583 : (Jvm.Cond.privateMethod ({ cls := "FoundryNine", name := "checkRoom", desc := "()V" } : Jvm.MethodName)) ∈ lw_tbl := List.mem_of_getElem? (i := 650) (by decide +kernel)
theorem tw_584 : (Jvm.Cond.instanceMethod ({ cls := "FoundryNine", name := "checkRoom", desc := "()V" } : Jvm.MethodName)) ∈ lw_tbl := List.mem_of_getElem? (i := 651) (by decide +kernel)
set_option maxRecDepth 20000 in
theorem tw_585 : (Jvm.Cond.code ({ cls := "FoundryNine", name := "checkRoom", desc := "()V" } : Jvm.MethodName) prog_1_method_39_code (1 : Nat) (Option.none : Option Jvm.ClassFile.FieldType)) ∈ lw_tbl := in_t3 (List.mem_of_getElem? (i := 105) rfl)
theorem tw_586 : (Jvm.Cond.stringRef "FoundryNine" (306 : Nat) "there is no room for a line") ∈ lw_tbl := List.mem_of_getElem? (i := 653) (by decide +kernel)
theorem tw_587 : (Jvm.Cond.methodLink "FoundryNine" (56 : Nat) ({ cls := "FoundryNine", name := "addLine", desc := "(IIIIII)I" } : Jvm.MethodName)) ∈ lw_tbl := List.mem_of_getElem? (i := 654) (by decide +kernel)
theorem tw_588 : (Jvm.Cond.privateMethod ({ cls := "FoundryNine", name := "addLine", desc := "(IIIIII)I" } : Jvm.MethodName)) ∈ lw_tbl := List.mem_of_getElem? (i := 655) (by decide +kernel)
theorem tw_589 : (Jvm.Cond.instanceMethod ({ cls := "FoundryNine", name := "addLine", desc := "(IIIIII)I" } : Jvm.MethodName)) ∈ lw_tbl := List.mem_of_getElem? (i := 656) (by decide +kernel)
set_option maxRecDepth 20000 in
theorem tw_590 : (Jvm.Cond.code ({ cls := "FoundryNine", name := "addLine", desc := "(IIIIII)I" } : Jvm.MethodName) prog_1_method_34_code (8 : Nat) (Option.some Jvm.ClassFile.FieldType.int)) ∈ lw_tbl := in_t3 (List.mem_of_getElem? (i := 110) rfl)
theorem tw_591 : (Jvm.Cond.methodLink "FoundryNine" (292 : Nat) ({ cls := "FoundryNine$Circuit", name := "add", desc := "(IIIIII)I" } : Jvm.MethodName)) ∈ lw_tbl := List.mem_of_getElem? (i := 658) (by decide +kernel)
theorem tw_592 : (Jvm.Cond.instanceMethod ({ cls := "FoundryNine$Circuit", name := "add", desc := "(IIIIII)I" } : Jvm.MethodName)) ∈ lw_tbl := List.mem_of_getElem? (i := 659) (by decide +kernel)
theorem tw_593 : (Jvm.Cond.selects "FoundryNine$Circuit" ({ cls := "FoundryNine$Circuit", name := "add", desc := "(IIIIII)I" } : Jvm.MethodName) ({ cls := "FoundryNine$Circuit", name := "add", desc := "(IIIIII)I" } : Jvm.MethodName)) ∈ lw_tbl := List.mem_of_getElem? (i := 660) (by decide +kernel)
set_option maxRecDepth 20000 in
theorem tw_594 : (Jvm.Cond.code ({ cls := "FoundryNine$Circuit", name := "add", desc := "(IIIIII)I" } : Jvm.MethodName) prog_3_method_2_code (8 : Nat) (Option.some Jvm.ClassFile.FieldType.int)) ∈ lw_tbl := in_t3 (List.mem_of_getElem? (i := 114) rfl)
theorem tw_595 : (Jvm.Cond.methodLink "FoundryNine$Circuit" (59 : Nat) ({ cls := "FoundryNine$Circuit", name := "noteUse", desc := "(II)V" } : Jvm.MethodName)) ∈ lw_tbl := List.mem_of_getElem? (i := 662) (by decide +kernel)
theorem tw_596 : (Jvm.Cond.privateMethod ({ cls := "FoundryNine$Circuit", name := "noteUse", desc := "(II)V" } : Jvm.MethodName)) ∈ lw_tbl := List.mem_of_getElem? (i := 663) (by decide +kernel)
theorem tw_597 : (Jvm.Cond.instanceMethod ({ cls := "FoundryNine$Circuit", name := "noteUse", desc := "(II)V" } : Jvm.MethodName)) ∈ lw_tbl := List.mem_of_getElem? (i := 664) (by decide +kernel)
set_option maxRecDepth 20000 in
theorem tw_598 : (Jvm.Cond.code ({ cls := "FoundryNine$Circuit", name := "noteUse", desc := "(II)V" } : Jvm.MethodName) prog_3_method_3_code (3 : Nat) (Option.none : Option Jvm.ClassFile.FieldType)) ∈ lw_tbl := in_t3 (List.mem_of_getElem? (i := 118) rfl)
theorem tw_599 : (Jvm.Cond.methodLink "FoundryNine" (295 : Nat) ({ cls := "FoundryNine$Flaws", name := "find", desc := "(LFoundryNine$Circuit;)V" } : Jvm.MethodName)) ∈ lw_tbl := List.mem_of_getElem? (i := 666) (by decide +kernel)
theorem tw_600 : (Jvm.Cond.instanceMethod ({ cls := "FoundryNine$Flaws", name := "find", desc := "(LFoundryNine$Circuit;)V" } : Jvm.MethodName)) ∈ lw_tbl := List.mem_of_getElem? (i := 667) (by decide +kernel)
theorem tw_601 : (Jvm.Cond.selects "FoundryNine$Flaws" ({ cls := "FoundryNine$Flaws", name := "find", desc := "(LFoundryNine$Circuit;)V" } : Jvm.MethodName) ({ cls := "FoundryNine$Flaws", name := "find", desc := "(LFoundryNine$Circuit;)V" } : Jvm.MethodName)) ∈ lw_tbl := List.mem_of_getElem? (i := 668) (by decide +kernel)
set_option maxRecDepth 20000 in
theorem tw_602 : (Jvm.Cond.code ({ cls := "FoundryNine$Flaws", name := "find", desc := "(LFoundryNine$Circuit;)V" } : Jvm.MethodName) prog_4_method_2_code (3 : Nat) (Option.none : Option Jvm.ClassFile.FieldType)) ∈ lw_tbl := in_t3 (List.mem_of_getElem? (i := 122) rfl)
theorem tw_603 : (Jvm.Cond.methodLink "FoundryNine$Flaws" (38 : Nat) ({ cls := "FoundryNine$Flaws", name := "note", desc := "(II)V" } : Jvm.MethodName)) ∈ lw_tbl := List.mem_of_getElem? (i := 670) (by decide +kernel)
theorem tw_604 : (Jvm.Cond.privateMethod ({ cls := "FoundryNine$Flaws", name := "note", desc := "(II)V" } : Jvm.MethodName)) ∈ lw_tbl := List.mem_of_getElem? (i := 671) (by decide +kernel)
theorem tw_605 : (Jvm.Cond.instanceMethod ({ cls := "FoundryNine$Flaws", name := "note", desc := "(II)V" } : Jvm.MethodName)) ∈ lw_tbl := List.mem_of_getElem? (i := 672) (by decide +kernel)
set_option maxRecDepth 20000 in
theorem tw_606 : (Jvm.Cond.code ({ cls := "FoundryNine$Flaws", name := "note", desc := "(II)V" } : Jvm.MethodName) prog_4_method_3_code (3 : Nat) (Option.none : Option Jvm.ClassFile.FieldType)) ∈ lw_tbl := in_t3 (List.mem_of_getElem? (i := 126) rfl)
theorem tw_607 : (Jvm.Cond.methodLink "FoundryNine$Flaws" (45 : Nat) ({ cls := "FoundryNine$Flaws", name := "findReach", desc := "(LFoundryNine$Circuit;)V" } : Jvm.MethodName)) ∈ lw_tbl := List.mem_of_getElem? (i := 674) (by decide +kernel)
theorem tw_608 : (Jvm.Cond.privateMethod ({ cls := "FoundryNine$Flaws", name := "findReach", desc := "(LFoundryNine$Circuit;)V" } : Jvm.MethodName)) ∈ lw_tbl := List.mem_of_getElem? (i := 675) (by decide +kernel)
theorem tw_609 : (Jvm.Cond.instanceMethod ({ cls := "FoundryNine$Flaws", name := "findReach", desc := "(LFoundryNine$Circuit;)V" } : Jvm.MethodName)) ∈ lw_tbl := List.mem_of_getElem? (i := 676) (by decide +kernel)
set_option maxRecDepth 20000 in
theorem tw_610 : (Jvm.Cond.code ({ cls := "FoundryNine$Flaws", name := "findReach", desc := "(LFoundryNine$Circuit;)V" } : Jvm.MethodName) prog_4_method_4_code (4 : Nat) (Option.none : Option Jvm.ClassFile.FieldType)) ∈ lw_tbl := in_t3 (List.mem_of_getElem? (i := 130) rfl)
theorem tw_611 : (Jvm.Cond.methodLink "FoundryNine$Flaws" (50 : Nat) ({ cls := "FoundryNine$Circuit", name := "isGate", desc := "(I)Z" } : Jvm.MethodName)) ∈ lw_tbl := List.mem_of_getElem? (i := 678) (by decide +kernel)
theorem tw_612 : (Jvm.Cond.methodLink "FoundryNine$Flaws" (64 : Nat) ({ cls := "FoundryNine$Circuit", name := "isUsedBy", desc := "(II)Z" } : Jvm.MethodName)) ∈ lw_tbl := List.mem_of_getElem? (i := 679) (by decide +kernel)
theorem tw_613 : (Jvm.Cond.methodLink "FoundryNine$Flaws" (57 : Nat) ({ cls := "FoundryNine$Flaws", name := "reachOf", desc := "(I)I" } : Jvm.MethodName)) ∈ lw_tbl := List.mem_of_getElem? (i := 680) (by decide +kernel)
theorem tw_614 : (Jvm.Cond.privateMethod ({ cls := "FoundryNine$Flaws", name := "reachOf", desc := "(I)I" } : Jvm.MethodName)) ∈ lw_tbl := List.mem_of_getElem? (i := 681) (by decide +kernel)
theorem tw_615 : (Jvm.Cond.instanceMethod ({ cls := "FoundryNine$Flaws", name := "reachOf", desc := "(I)I" } : Jvm.MethodName)) ∈ lw_tbl := List.mem_of_getElem? (i := 682) (by decide +kernel)
set_option maxRecDepth 20000 in
theorem tw_616 : (Jvm.Cond.code ({ cls := "FoundryNine$Flaws", name := "reachOf", desc := "(I)I" } : Jvm.MethodName) prog_4_method_5_code (2 : Nat) (Option.some Jvm.ClassFile.FieldType.int)) ∈ lw_tbl := in_t3 (List.mem_of_getElem? (i := 136) rfl)
theorem tw_617 : (Jvm.Cond.methodLinkNest "FoundryNine$Flaws" (68 : Nat) ({ cls := "FoundryNine", name := "isWire", desc := "(I)Z" } : Jvm.MethodName) "FoundryNine") ∈ lw_tbl := List.mem_of_getElem? (i := 684) (by decide +kernel)
theorem tw_618 : (Jvm.Cond.methodLink "FoundryNine$Flaws" (61 : Nat) ({ cls := "FoundryNine$Circuit", name := "pinsOf", desc := "(I)I" } : Jvm.MethodName)) ∈ lw_tbl := List.mem_of_getElem? (i := 685) (by decide +kernel)
theorem tw_619 : (Jvm.Cond.instanceMethod ({ cls := "FoundryNine$Circuit", name := "pinsOf", desc := "(I)I" } : Jvm.MethodName)) ∈ lw_tbl := List.mem_of_getElem? (i := 686) (by decide +kernel)
theorem tw_620 : (Jvm.Cond.selects "FoundryNine$Circuit" ({ cls := "FoundryNine$Circuit", name := "pinsOf", desc := "(I)I" } : Jvm.MethodName) ({ cls := "FoundryNine$Circuit", name := "pinsOf", desc := "(I)I" } : Jvm.MethodName)) ∈ lw_tbl := List.mem_of_getElem? (i := 687) (by decide +kernel)
set_option maxRecDepth 20000 in
theorem tw_621 : (Jvm.Cond.code ({ cls := "FoundryNine$Circuit", name := "pinsOf", desc := "(I)I" } : Jvm.MethodName) prog_3_method_8_code (2 : Nat) (Option.some Jvm.ClassFile.FieldType.int)) ∈ lw_tbl := in_t3 (List.mem_of_getElem? (i := 141) rfl)
theorem tw_622 : (Jvm.Cond.methodLink "FoundryNine" (97 : Nat) ({ cls := "FoundryNine$Arrivals", name := "reckon", desc := "(LFoundryNine$Circuit;LFoundryNine$Flaws;II)V" } : Jvm.MethodName)) ∈ lw_tbl := List.mem_of_getElem? (i := 689) (by decide +kernel)
theorem tw_623 : (Jvm.Cond.instanceMethod ({ cls := "FoundryNine$Arrivals", name := "reckon", desc := "(LFoundryNine$Circuit;LFoundryNine$Flaws;II)V" } : Jvm.MethodName)) ∈ lw_tbl := List.mem_of_getElem? (i := 690) (by decide +kernel)
theorem tw_624 : (Jvm.Cond.selects "FoundryNine$Arrivals" ({ cls := "FoundryNine$Arrivals", name := "reckon", desc := "(LFoundryNine$Circuit;LFoundryNine$Flaws;II)V" } : Jvm.MethodName) ({ cls := "FoundryNine$Arrivals", name := "reckon", desc := "(LFoundryNine$Circuit;LFoundryNine$Flaws;II)V" } : Jvm.MethodName)) ∈ lw_tbl := List.mem_of_getElem? (i := 691) (by decide +kernel)
set_option maxRecDepth 20000 in
theorem tw_625 : (Jvm.Cond.code ({ cls := "FoundryNine$Arrivals", name := "reckon", desc := "(LFoundryNine$Circuit;LFoundryNine$Flaws;II)V" } : Jvm.MethodName) prog_2_method_2_code (10 : Nat) (Option.none : Option Jvm.ClassFile.FieldType)) ∈ lw_tbl := in_t3 (List.mem_of_getElem? (i := 145) rfl)
theorem tw_626 : (Jvm.Cond.methodLink "FoundryNine$Arrivals" (15 : Nat) ({ cls := "java/util/Arrays", name := "fill", desc := "([II)V" } : Jvm.MethodName)) ∈ lw_tbl := List.mem_of_getElem? (i := 693) (by decide +kernel)
theorem tw_627 : (Jvm.Cond.methodLink "FoundryNine$Arrivals" (30 : Nat) ({ cls := "FoundryNine$Arrivals", name := "arrivalBy", desc := "(LFoundryNine$Circuit;LFoundryNine$Flaws;II)I" } : Jvm.MethodName)) ∈ lw_tbl := List.mem_of_getElem? (i := 694) (by decide +kernel)
theorem tw_628 : (Jvm.Cond.privateMethod ({ cls := "FoundryNine$Arrivals", name := "arrivalBy", desc := "(LFoundryNine$Circuit;LFoundryNine$Flaws;II)I" } : Jvm.MethodName)) ∈ lw_tbl := List.mem_of_getElem? (i := 695) (by decide +kernel)
theorem tw_629 : (Jvm.Cond.instanceMethod ({ cls := "FoundryNine$Arrivals", name := "arrivalBy", desc := "(LFoundryNine$Circuit;LFoundryNine$Flaws;II)I" } : Jvm.MethodName)) ∈ lw_tbl := List.mem_of_getElem? (i := 696) (by decide +kernel)
set_option maxRecDepth 20000 in
theorem tw_630 : (Jvm.Cond.code ({ cls := "FoundryNine$Arrivals", name := "arrivalBy", desc := "(LFoundryNine$Circuit;LFoundryNine$Flaws;II)I" } : Jvm.MethodName) prog_2_method_3_code (8 : Nat) (Option.some Jvm.ClassFile.FieldType.int)) ∈ lw_tbl := in_t3 (List.mem_of_getElem? (i := 150) rfl)
theorem tw_631 : (Jvm.Cond.methodLink "FoundryNineLaw" (94 : Nat) ({ cls := "FoundryNineLaw", name := "gate", desc := "(LFoundryNine;IIIIII[J)I" } : Jvm.MethodName)) ∈ lw_tbl := List.mem_of_getElem? (i := 698) (by decide +kernel)
theorem tw_632 : (Jvm.Cond.static ({ cls := "FoundryNineLaw", name := "gate", desc := "(LFoundryNine;IIIIII[J)I" } : Jvm.MethodName)) ∈ lw_tbl := List.mem_of_getElem? (i := 699) (by decide +kernel)
set_option maxRecDepth 20000 in
theorem tw_633 : (Jvm.Cond.codeWith ({ cls := "FoundryNineLaw", name := "gate", desc := "(LFoundryNine;IIIIII[J)I" } : Jvm.MethodName) method_4_code (9 : Nat) (Option.some Jvm.ClassFile.FieldType.int) [((0 : Nat), (18 : Nat), (21 : Nat), (21 : Nat)), ((0 : Nat), (18 : Nat), (25 : Nat), (13 : Nat)), ((0 : Nat), (18 : Nat), (29 : Nat), (15 : Nat))]) ∈ lw_tbl := in_t3 (List.mem_of_getElem? (i := 153) rfl)
theorem tw_634 : (Jvm.Cond.classLink "FoundryNineLaw" (21 : Nat) "java/lang/IllegalArgumentException") ∈ lw_tbl := List.mem_of_getElem? (i := 701) (by decide +kernel)
theorem tw_635 : (Jvm.Cond.methodLink "FoundryNineLaw" (17 : Nat) ({ cls := "FoundryNine", name := "gate", desc := "(IIIIII)I" } : Jvm.MethodName)) ∈ lw_tbl := List.mem_of_getElem? (i := 702) (by decide +kernel)
theorem tw_636 : (Jvm.Cond.instanceMethod ({ cls := "FoundryNine", name := "gate", desc := "(IIIIII)I" } : Jvm.MethodName)) ∈ lw_tbl := List.mem_of_getElem? (i := 703) (by decide +kernel)
theorem tw_637 : (Jvm.Cond.selects "FoundryNine" ({ cls := "FoundryNine", name := "gate", desc := "(IIIIII)I" } : Jvm.MethodName) ({ cls := "FoundryNine", name := "gate", desc := "(IIIIII)I" } : Jvm.MethodName)) ∈ lw_tbl := List.mem_of_getElem? (i := 704) (by decide +kernel)
set_option maxRecDepth 20000 in
theorem tw_638 : (Jvm.Cond.code ({ cls := "FoundryNine", name := "gate", desc := "(IIIIII)I" } : Jvm.MethodName) prog_1_method_3_code (9 : Nat) (Option.some Jvm.ClassFile.FieldType.int)) ∈ lw_tbl := in_t3 (List.mem_of_getElem? (i := 158) rfl)
theorem tw_639 : (Jvm.Cond.stringRef "FoundryNine" (62 : Nat) "no such kind") ∈ lw_tbl := List.mem_of_getElem? (i := 706) (by decide +kernel)
theorem tw_640 : (Jvm.Cond.methodLink "FoundryNine" (67 : Nat) ({ cls := "FoundryNine", name := "checkDelay", desc := "(I)V" } : Jvm.MethodName)) ∈ lw_tbl := List.mem_of_getElem? (i := 707) (by decide +kernel)
theorem tw_641 : (Jvm.Cond.static ({ cls := "FoundryNine", name := "checkDelay", desc := "(I)V" } : Jvm.MethodName)) ∈ lw_tbl := List.mem_of_getElem? (i := 708) (by decide +kernel)
set_option maxRecDepth 20000 in
theorem tw_642 : (Jvm.Cond.code ({ cls := "FoundryNine", name := "checkDelay", desc := "(I)V" } : Jvm.MethodName) prog_1_method_38_code (1 : Nat) (Option.none : Option Jvm.ClassFile.FieldType)) ∈ lw_tbl := in_t3 (List.mem_of_getElem? (i := 162) rfl)
theorem tw_643 : (Jvm.Cond.methodLink "FoundryNine" (79 : Nat) ({ cls := "FoundryNine", name := "isWithin", desc := "(II)Z" } : Jvm.MethodName)) ∈ lw_tbl := List.mem_of_getElem? (i := 710) (by decide +kernel)
theorem tw_644 : (Jvm.Cond.static ({ cls := "FoundryNine", name := "isWithin", desc := "(II)Z" } : Jvm.MethodName)) ∈ lw_tbl := List.mem_of_getElem? (i := 711) (by decide +kernel)
set_option maxRecDepth 20000 in
theorem tw_645 : (Jvm.Cond.code ({ cls := "FoundryNine", name := "isWithin", desc := "(II)Z" } : Jvm.MethodName) prog_1_method_36_code (2 : Nat) (Option.some Jvm.ClassFile.FieldType.boolean)) ∈ lw_tbl := in_t3 (List.mem_of_getElem? (i := 165) rfl)
theorem tw_646 : (Jvm.Cond.stringRef "FoundryNine" (304 : Nat) "no such delay") ∈ lw_tbl := List.mem_of_getElem? (i := 713) (by decide +kernel)
theorem tw_647 : (Jvm.Cond.methodLink "FoundryNineLaw" (98 : Nat) ({ cls := "FoundryNineLaw", name := "register", desc := "(LFoundryNine;IIIII[J)I" } : Jvm.MethodName)) ∈ lw_tbl := List.mem_of_getElem? (i := 714) (by decide +kernel)
theorem tw_648 : (Jvm.Cond.static ({ cls := "FoundryNineLaw", name := "register", desc := "(LFoundryNine;IIIII[J)I" } : Jvm.MethodName)) ∈ lw_tbl := List.mem_of_getElem? (i := 715) (by decide +kernel)
set_option maxRecDepth 20000 in
theorem tw_649 : (Jvm.Cond.codeWith ({ cls := "FoundryNineLaw", name := "register", desc := "(LFoundryNine;IIIII[J)I" } : Jvm.MethodName) method_5_code (8 : Nat) (Option.some Jvm.ClassFile.FieldType.int) [((0 : Nat), (16 : Nat), (19 : Nat), (13 : Nat)), ((0 : Nat), (16 : Nat), (23 : Nat), (21 : Nat)), ((0 : Nat), (16 : Nat), (27 : Nat), (15 : Nat))]) ∈ lw_tbl := in_t3 (List.mem_of_getElem? (i := 169) rfl)
theorem tw_650 : (Jvm.Cond.methodLink "FoundryNineLaw" (23 : Nat) ({ cls := "FoundryNine", name := "register", desc := "(IIIII)I" } : Jvm.MethodName)) ∈ lw_tbl := List.mem_of_getElem? (i := 717) (by decide +kernel)
theorem tw_651 : (Jvm.Cond.instanceMethod ({ cls := "FoundryNine", name := "register", desc := "(IIIII)I" } : Jvm.MethodName)) ∈ lw_tbl := List.mem_of_getElem? (i := 718) (by decide +kernel)
theorem tw_652 : (Jvm.Cond.selects "FoundryNine" ({ cls := "FoundryNine", name := "register", desc := "(IIIII)I" } : Jvm.MethodName) ({ cls := "FoundryNine", name := "register", desc := "(IIIII)I" } : Jvm.MethodName)) ∈ lw_tbl := List.mem_of_getElem? (i := 719) (by decide +kernel)
set_option maxRecDepth 20000 in
theorem tw_653 : (Jvm.Cond.code ({ cls := "FoundryNine", name := "register", desc := "(IIIII)I" } : Jvm.MethodName) prog_1_method_4_code (6 : Nat) (Option.some Jvm.ClassFile.FieldType.int)) ∈ lw_tbl := in_t3 (List.mem_of_getElem? (i := 173) rfl)
theorem tw_654 : (Jvm.Cond.methodLink "FoundryNineLaw" (102 : Nat) ({ cls := "FoundryNineLaw", name := "setWindow", desc := "(LFoundryNine;III[J)I" } : Jvm.MethodName)) ∈ lw_tbl := List.mem_of_getElem? (i := 721) (by decide +kernel)
theorem tw_655 : (Jvm.Cond.static ({ cls := "FoundryNineLaw", name := "setWindow", desc := "(LFoundryNine;III[J)I" } : Jvm.MethodName)) ∈ lw_tbl := List.mem_of_getElem? (i := 722) (by decide +kernel)
set_option maxRecDepth 20000 in
theorem tw_656 : (Jvm.Cond.codeWith ({ cls := "FoundryNineLaw", name := "setWindow", desc := "(LFoundryNine;III[J)I" } : Jvm.MethodName) method_6_code (6 : Nat) (Option.some Jvm.ClassFile.FieldType.int) [((0 : Nat), (12 : Nat), (15 : Nat), (13 : Nat)), ((0 : Nat), (12 : Nat), (19 : Nat), (21 : Nat))]) ∈ lw_tbl := in_t3 (List.mem_of_getElem? (i := 176) rfl)
theorem tw_657 : (Jvm.Cond.methodLink "FoundryNineLaw" (27 : Nat) ({ cls := "FoundryNine", name := "setWindow", desc := "(III)I" } : Jvm.MethodName)) ∈ lw_tbl := List.mem_of_getElem? (i := 724) (by decide +kernel)
theorem tw_658 : (Jvm.Cond.instanceMethod ({ cls := "FoundryNine", name := "setWindow", desc := "(III)I" } : Jvm.MethodName)) ∈ lw_tbl := List.mem_of_getElem? (i := 725) (by decide +kernel)
theorem tw_659 : (Jvm.Cond.selects "FoundryNine" ({ cls := "FoundryNine", name := "setWindow", desc := "(III)I" } : Jvm.MethodName) ({ cls := "FoundryNine", name := "setWindow", desc := "(III)I" } : Jvm.MethodName)) ∈ lw_tbl := List.mem_of_getElem? (i := 726) (by decide +kernel)
set_option maxRecDepth 20000 in
theorem tw_660 : (Jvm.Cond.code ({ cls := "FoundryNine", name := "setWindow", desc := "(III)I" } : Jvm.MethodName) prog_1_method_5_code (5 : Nat) (Option.some Jvm.ClassFile.FieldType.int)) ∈ lw_tbl := in_t3 (List.mem_of_getElem? (i := 180) rfl)
theorem tw_661 : (Jvm.Cond.stringRef "FoundryNine" (77 : Nat) "no register") ∈ lw_tbl := List.mem_of_getElem? (i := 728) (by decide +kernel)
theorem tw_662 : (Jvm.Cond.stringRef "FoundryNine" (83 : Nat) "no such window") ∈ lw_tbl := List.mem_of_getElem? (i := 729) (by decide +kernel)
theorem tw_663 : (Jvm.Cond.methodLink "FoundryNineLaw" (106 : Nat) ({ cls := "FoundryNineLaw", name := "setDelay", desc := "(LFoundryNine;II[J)I" } : Jvm.MethodName)) ∈ lw_tbl := List.mem_of_getElem? (i := 730) (by decide +kernel)
theorem tw_664 : (Jvm.Cond.static ({ cls := "FoundryNineLaw", name := "setDelay", desc := "(LFoundryNine;II[J)I" } : Jvm.MethodName)) ∈ lw_tbl := List.mem_of_getElem? (i := 731) (by decide +kernel)
set_option maxRecDepth 20000 in
theorem tw_665 : (Jvm.Cond.codeWith ({ cls := "FoundryNineLaw", name := "setDelay", desc := "(LFoundryNine;II[J)I" } : Jvm.MethodName) method_7_code (5 : Nat) (Option.some Jvm.ClassFile.FieldType.int) [((0 : Nat), (10 : Nat), (13 : Nat), (13 : Nat)), ((0 : Nat), (10 : Nat), (17 : Nat), (21 : Nat))]) ∈ lw_tbl := in_t3 (List.mem_of_getElem? (i := 185) rfl)
theorem tw_666 : (Jvm.Cond.methodLink "FoundryNineLaw" (31 : Nat) ({ cls := "FoundryNine", name := "setDelay", desc := "(II)I" } : Jvm.MethodName)) ∈ lw_tbl := List.mem_of_getElem? (i := 733) (by decide +kernel)
theorem tw_667 : (Jvm.Cond.instanceMethod ({ cls := "FoundryNine", name := "setDelay", desc := "(II)I" } : Jvm.MethodName)) ∈ lw_tbl := List.mem_of_getElem? (i := 734) (by decide +kernel)
theorem tw_668 : (Jvm.Cond.selects "FoundryNine" ({ cls := "FoundryNine", name := "setDelay", desc := "(II)I" } : Jvm.MethodName) ({ cls := "FoundryNine", name := "setDelay", desc := "(II)I" } : Jvm.MethodName)) ∈ lw_tbl := List.mem_of_getElem? (i := 735) (by decide +kernel)
set_option maxRecDepth 20000 in
theorem tw_669 : (Jvm.Cond.code ({ cls := "FoundryNine", name := "setDelay", desc := "(II)I" } : Jvm.MethodName) prog_1_method_6_code (4 : Nat) (Option.some Jvm.ClassFile.FieldType.int)) ∈ lw_tbl := in_t3 (List.mem_of_getElem? (i := 189) rfl)
theorem tw_670 : (Jvm.Cond.methodLink "FoundryNine" (91 : Nat) ({ cls := "FoundryNine", name := "checkHasDelay", desc := "(I)V" } : Jvm.MethodName)) ∈ lw_tbl := List.mem_of_getElem? (i := 737) (by decide +kernel)
theorem tw_671 : (Jvm.Cond.privateMethod ({ cls := "FoundryNine", name := "checkHasDelay", desc := "(I)V" } : Jvm.MethodName)) ∈ lw_tbl := List.mem_of_getElem? (i := 738) (by decide +kernel)
theorem tw_672 : (Jvm.Cond.instanceMethod ({ cls := "FoundryNine", name := "checkHasDelay", desc := "(I)V" } : Jvm.MethodName)) ∈ lw_tbl := List.mem_of_getElem? (i := 739) (by decide +kernel)
set_option maxRecDepth 20000 in
theorem tw_673 : (Jvm.Cond.code ({ cls := "FoundryNine", name := "checkHasDelay", desc := "(I)V" } : Jvm.MethodName) prog_1_method_41_code (2 : Nat) (Option.none : Option Jvm.ClassFile.FieldType)) ∈ lw_tbl := in_t3 (List.mem_of_getElem? (i := 193) rfl)
theorem tw_674 : (Jvm.Cond.stringRef "FoundryNine" (310 : Nat) "an input has no delay") ∈ lw_tbl := List.mem_of_getElem? (i := 741) (by decide +kernel)
theorem tw_675 : (Jvm.Cond.methodLink "FoundryNineLaw" (118 : Nat) ({ cls := "FoundryNineLaw", name := "ofFlaw", desc := "(LFoundryNine;II[J)I" } : Jvm.MethodName)) ∈ lw_tbl := List.mem_of_getElem? (i := 742) (by decide +kernel)
theorem tw_676 : (Jvm.Cond.static ({ cls := "FoundryNineLaw", name := "ofFlaw", desc := "(LFoundryNine;II[J)I" } : Jvm.MethodName)) ∈ lw_tbl := List.mem_of_getElem? (i := 743) (by decide +kernel)
set_option maxRecDepth 20000 in
theorem tw_677 : (Jvm.Cond.codeWith ({ cls := "FoundryNineLaw", name := "ofFlaw", desc := "(LFoundryNine;II[J)I" } : Jvm.MethodName) method_8_code (5 : Nat) (Option.some Jvm.ClassFile.FieldType.int) [((0 : Nat), (10 : Nat), (13 : Nat), (13 : Nat)), ((0 : Nat), (10 : Nat), (17 : Nat), (21 : Nat))]) ∈ lw_tbl := in_t3 (List.mem_of_getElem? (i := 197) rfl)
theorem tw_678 : (Jvm.Cond.methodLink "FoundryNineLaw" (35 : Nat) ({ cls := "FoundryNine", name := "ofFlaw", desc := "(II)I" } : Jvm.MethodName)) ∈ lw_tbl := List.mem_of_getElem? (i := 745) (by decide +kernel)
theorem tw_679 : (Jvm.Cond.methodLink "FoundryNineLaw" (121 : Nat) ({ cls := "FoundryNineLaw", name := "arrival", desc := "(LFoundryNine;I[J)I" } : Jvm.MethodName)) ∈ lw_tbl := List.mem_of_getElem? (i := 746) (by decide +kernel)
theorem tw_680 : (Jvm.Cond.static ({ cls := "FoundryNineLaw", name := "arrival", desc := "(LFoundryNine;I[J)I" } : Jvm.MethodName)) ∈ lw_tbl := List.mem_of_getElem? (i := 747) (by decide +kernel)
set_option maxRecDepth 20000 in
theorem tw_681 : (Jvm.Cond.codeWith ({ cls := "FoundryNineLaw", name := "arrival", desc := "(LFoundryNine;I[J)I" } : Jvm.MethodName) method_9_code (4 : Nat) (Option.some Jvm.ClassFile.FieldType.int) [((0 : Nat), (9 : Nat), (12 : Nat), (13 : Nat))]) ∈ lw_tbl := in_t3 (List.mem_of_getElem? (i := 201) rfl)
theorem tw_682 : (Jvm.Cond.methodLink "FoundryNineLaw" (38 : Nat) ({ cls := "FoundryNine", name := "arrival", desc := "(I)I" } : Jvm.MethodName)) ∈ lw_tbl := List.mem_of_getElem? (i := 749) (by decide +kernel)
theorem tw_683 : (Jvm.Cond.methodLink "FoundryNineLaw" (132 : Nat) ({ cls := "FoundryNineLaw", name := "users", desc := "(LFoundryNine;I[J)I" } : Jvm.MethodName)) ∈ lw_tbl := List.mem_of_getElem? (i := 750) (by decide +kernel)
theorem tw_684 : (Jvm.Cond.static ({ cls := "FoundryNineLaw", name := "users", desc := "(LFoundryNine;I[J)I" } : Jvm.MethodName)) ∈ lw_tbl := List.mem_of_getElem? (i := 751) (by decide +kernel)
set_option maxRecDepth 20000 in
theorem tw_685 : (Jvm.Cond.codeWith ({ cls := "FoundryNineLaw", name := "users", desc := "(LFoundryNine;I[J)I" } : Jvm.MethodName) method_10_code (4 : Nat) (Option.some Jvm.ClassFile.FieldType.int) [((0 : Nat), (9 : Nat), (12 : Nat), (13 : Nat))]) ∈ lw_tbl := in_t3 (List.mem_of_getElem? (i := 205) rfl)
theorem tw_686 : (Jvm.Cond.methodLink "FoundryNineLaw" (41 : Nat) ({ cls := "FoundryNine", name := "users", desc := "(I)I" } : Jvm.MethodName)) ∈ lw_tbl := List.mem_of_getElem? (i := 753) (by decide +kernel)
theorem tw_687 : (Jvm.Cond.methodLink "FoundryNineLaw" (135 : Nat) ({ cls := "FoundryNineLaw", name := "start", desc := "(LFoundryNine;[J)I" } : Jvm.MethodName)) ∈ lw_tbl := List.mem_of_getElem? (i := 754) (by decide +kernel)
theorem tw_688 : (Jvm.Cond.static ({ cls := "FoundryNineLaw", name := "start", desc := "(LFoundryNine;[J)I" } : Jvm.MethodName)) ∈ lw_tbl := List.mem_of_getElem? (i := 755) (by decide +kernel)
set_option maxRecDepth 20000 in
theorem tw_689 : (Jvm.Cond.codeWith ({ cls := "FoundryNineLaw", name := "start", desc := "(LFoundryNine;[J)I" } : Jvm.MethodName) method_11_code (3 : Nat) (Option.some Jvm.ClassFile.FieldType.int) [((0 : Nat), (8 : Nat), (11 : Nat), (15 : Nat))]) ∈ lw_tbl := in_t3 (List.mem_of_getElem? (i := 209) rfl)
theorem tw_690 : (Jvm.Cond.methodLink "FoundryNineLaw" (44 : Nat) ({ cls := "FoundryNine", name := "start", desc := "()I" } : Jvm.MethodName)) ∈ lw_tbl := List.mem_of_getElem? (i := 757) (by decide +kernel)
theorem tw_691 : (Jvm.Cond.instanceMethod ({ cls := "FoundryNine", name := "start", desc := "()I" } : Jvm.MethodName)) ∈ lw_tbl := List.mem_of_getElem? (i := 758) (by decide +kernel)
theorem tw_692 : (Jvm.Cond.selects "FoundryNine" ({ cls := "FoundryNine", name := "start", desc := "()I" } : Jvm.MethodName) ({ cls := "FoundryNine", name := "start", desc := "()I" } : Jvm.MethodName)) ∈ lw_tbl := List.mem_of_getElem? (i := 759) (by decide +kernel)
set_option maxRecDepth 20000 in
theorem tw_693 : (Jvm.Cond.code ({ cls := "FoundryNine", name := "start", desc := "()I" } : Jvm.MethodName) prog_1_method_14_code (1 : Nat) (Option.some Jvm.ClassFile.FieldType.int)) ∈ lw_tbl := in_t3 (List.mem_of_getElem? (i := 213) rfl)
theorem tw_694 : (Jvm.Cond.stringRef "FoundryNine" (148 : Nat) "there are flaws") ∈ lw_tbl := List.mem_of_getElem? (i := 761) (by decide +kernel)
theorem tw_695 : (Jvm.Cond.methodLink "FoundryNine" (151 : Nat) ({ cls := "FoundryNine$Run", name := "begin", desc := "()V" } : Jvm.MethodName)) ∈ lw_tbl := List.mem_of_getElem? (i := 762) (by decide +kernel)
theorem tw_696 : (Jvm.Cond.instanceMethod ({ cls := "FoundryNine$Run", name := "begin", desc := "()V" } : Jvm.MethodName)) ∈ lw_tbl := List.mem_of_getElem? (i := 763) (by decide +kernel)
theorem tw_697 : (Jvm.Cond.selects "FoundryNine$Run" ({ cls := "FoundryNine$Run", name := "begin", desc := "()V" } : Jvm.MethodName) ({ cls := "FoundryNine$Run", name := "begin", desc := "()V" } : Jvm.MethodName)) ∈ lw_tbl := List.mem_of_getElem? (i := 764) (by decide +kernel)
set_option maxRecDepth 20000 in
theorem tw_698 : (Jvm.Cond.code ({ cls := "FoundryNine$Run", name := "begin", desc := "()V" } : Jvm.MethodName) prog_5_method_4_code (2 : Nat) (Option.none : Option Jvm.ClassFile.FieldType)) ∈ lw_tbl := in_t3 (List.mem_of_getElem? (i := 218) rfl)
theorem tw_699 : (Jvm.Cond.methodLink "FoundryNineLaw" (139 : Nat) ({ cls := "FoundryNineLaw", name := "set", desc := "(LFoundryNine;II[J)I" } : Jvm.MethodName)) ∈ lw_tbl := List.mem_of_getElem? (i := 766) (by decide +kernel)
theorem tw_700 : (Jvm.Cond.static ({ cls := "FoundryNineLaw", name := "set", desc := "(LFoundryNine;II[J)I" } : Jvm.MethodName)) ∈ lw_tbl := List.mem_of_getElem? (i := 767) (by decide +kernel)
set_option maxRecDepth 20000 in
theorem tw_701 : (Jvm.Cond.codeWith ({ cls := "FoundryNineLaw", name := "set", desc := "(LFoundryNine;II[J)I" } : Jvm.MethodName) method_12_code (5 : Nat) (Option.some Jvm.ClassFile.FieldType.int) [((0 : Nat), (10 : Nat), (13 : Nat), (15 : Nat)), ((0 : Nat), (10 : Nat), (17 : Nat), (13 : Nat)), ((0 : Nat), (10 : Nat), (21 : Nat), (21 : Nat))]) ∈ lw_tbl := in_t3 (List.mem_of_getElem? (i := 221) rfl)
theorem tw_702 : (Jvm.Cond.methodLink "FoundryNineLaw" (48 : Nat) ({ cls := "FoundryNine", name := "set", desc := "(II)I" } : Jvm.MethodName)) ∈ lw_tbl := List.mem_of_getElem? (i := 769) (by decide +kernel)
theorem tw_703 : (Jvm.Cond.instanceMethod ({ cls := "FoundryNine", name := "set", desc := "(II)I" } : Jvm.MethodName)) ∈ lw_tbl := List.mem_of_getElem? (i := 770) (by decide +kernel)
theorem tw_704 : (Jvm.Cond.selects "FoundryNine" ({ cls := "FoundryNine", name := "set", desc := "(II)I" } : Jvm.MethodName) ({ cls := "FoundryNine", name := "set", desc := "(II)I" } : Jvm.MethodName)) ∈ lw_tbl := List.mem_of_getElem? (i := 771) (by decide +kernel)
set_option maxRecDepth 20000 in
theorem tw_705 : (Jvm.Cond.code ({ cls := "FoundryNine", name := "set", desc := "(II)I" } : Jvm.MethodName) prog_1_method_15_code (4 : Nat) (Option.some Jvm.ClassFile.FieldType.int)) ∈ lw_tbl := in_t3 (List.mem_of_getElem? (i := 225) rfl)
theorem tw_706 : (Jvm.Cond.methodLink "FoundryNine" (160 : Nat) ({ cls := "FoundryNine", name := "checkSetting", desc := "(II)V" } : Jvm.MethodName)) ∈ lw_tbl := List.mem_of_getElem? (i := 773) (by decide +kernel)
theorem tw_707 : (Jvm.Cond.privateMethod ({ cls := "FoundryNine", name := "checkSetting", desc := "(II)V" } : Jvm.MethodName)) ∈ lw_tbl := List.mem_of_getElem? (i := 774) (by decide +kernel)
theorem tw_708 : (Jvm.Cond.instanceMethod ({ cls := "FoundryNine", name := "checkSetting", desc := "(II)V" } : Jvm.MethodName)) ∈ lw_tbl := List.mem_of_getElem? (i := 775) (by decide +kernel)
set_option maxRecDepth 20000 in
theorem tw_709 : (Jvm.Cond.code ({ cls := "FoundryNine", name := "checkSetting", desc := "(II)V" } : Jvm.MethodName) prog_1_method_43_code (3 : Nat) (Option.none : Option Jvm.ClassFile.FieldType)) ∈ lw_tbl := in_t3 (List.mem_of_getElem? (i := 229) rfl)
theorem tw_710 : (Jvm.Cond.methodLink "FoundryNine" (314 : Nat) ({ cls := "FoundryNine$Circuit", name := "isFirstDrivenBy", desc := "(II)Z" } : Jvm.MethodName)) ∈ lw_tbl := List.mem_of_getElem? (i := 777) (by decide +kernel)
theorem tw_711 : (Jvm.Cond.instanceMethod ({ cls := "FoundryNine$Circuit", name := "isFirstDrivenBy", desc := "(II)Z" } : Jvm.MethodName)) ∈ lw_tbl := List.mem_of_getElem? (i := 778) (by decide +kernel)
theorem tw_712 : (Jvm.Cond.selects "FoundryNine$Circuit" ({ cls := "FoundryNine$Circuit", name := "isFirstDrivenBy", desc := "(II)Z" } : Jvm.MethodName) ({ cls := "FoundryNine$Circuit", name := "isFirstDrivenBy", desc := "(II)Z" } : Jvm.MethodName)) ∈ lw_tbl := List.mem_of_getElem? (i := 779) (by decide +kernel)
set_option maxRecDepth 20000 in
theorem tw_713 : (Jvm.Cond.code ({ cls := "FoundryNine$Circuit", name := "isFirstDrivenBy", desc := "(II)Z" } : Jvm.MethodName) prog_3_method_5_code (4 : Nat) (Option.some Jvm.ClassFile.FieldType.boolean)) ∈ lw_tbl := in_t3 (List.mem_of_getElem? (i := 233) rfl)
theorem tw_714 : (Jvm.Cond.methodLink "FoundryNine$Circuit" (63 : Nat) ({ cls := "FoundryNine$Circuit", name := "firstLineOf", desc := "(I)I" } : Jvm.MethodName)) ∈ lw_tbl := List.mem_of_getElem? (i := 781) (by decide +kernel)
theorem tw_715 : (Jvm.Cond.stringRef "FoundryNine" (317 : Nat) "no input drives it") ∈ lw_tbl := List.mem_of_getElem? (i := 782) (by decide +kernel)
theorem tw_716 : (Jvm.Cond.stringRef "FoundryNine" (319 : Nat) "no such value of an input") ∈ lw_tbl := List.mem_of_getElem? (i := 783) (by decide +kernel)
theorem tw_717 : (Jvm.Cond.methodLink "FoundryNine" (167 : Nat) ({ cls := "FoundryNine$Run", name := "put", desc := "(II)V" } : Jvm.MethodName)) ∈ lw_tbl := List.mem_of_getElem? (i := 784) (by decide +kernel)
theorem tw_718 : (Jvm.Cond.instanceMethod ({ cls := "FoundryNine$Run", name := "put", desc := "(II)V" } : Jvm.MethodName)) ∈ lw_tbl := List.mem_of_getElem? (i := 785) (by decide +kernel)
theorem tw_719 : (Jvm.Cond.selects "FoundryNine$Run" ({ cls := "FoundryNine$Run", name := "put", desc := "(II)V" } : Jvm.MethodName) ({ cls := "FoundryNine$Run", name := "put", desc := "(II)V" } : Jvm.MethodName)) ∈ lw_tbl := List.mem_of_getElem? (i := 786) (by decide +kernel)
set_option maxRecDepth 20000 in
theorem tw_720 : (Jvm.Cond.code ({ cls := "FoundryNine$Run", name := "put", desc := "(II)V" } : Jvm.MethodName) prog_5_method_5_code (3 : Nat) (Option.none : Option Jvm.ClassFile.FieldType)) ∈ lw_tbl := in_t4 (List.mem_of_getElem? (i := 0) rfl)
theorem tw_721 : (Jvm.Cond.methodLink "FoundryNineLaw" (142 : Nat) ({ cls := "FoundryNineLaw", name := "pass", desc := "(LFoundryNine;I[J)I" } : Jvm.MethodName)) ∈ lw_tbl := List.mem_of_getElem? (i := 788) (by decide +kernel)
theorem tw_722 : (Jvm.Cond.static ({ cls := "FoundryNineLaw", name := "pass", desc := "(LFoundryNine;I[J)I" } : Jvm.MethodName)) ∈ lw_tbl := List.mem_of_getElem? (i := 789) (by decide +kernel)
set_option maxRecDepth 20000 in
theorem tw_723 : (Jvm.Cond.codeWith ({ cls := "FoundryNineLaw", name := "pass", desc := "(LFoundryNine;I[J)I" } : Jvm.MethodName) method_13_code (4 : Nat) (Option.some Jvm.ClassFile.FieldType.int) [((0 : Nat), (9 : Nat), (12 : Nat), (15 : Nat)), ((0 : Nat), (9 : Nat), (15 : Nat), (21 : Nat))]) ∈ lw_tbl := in_t4 (List.mem_of_getElem? (i := 3) rfl)
theorem tw_724 : (Jvm.Cond.methodLink "FoundryNineLaw" (51 : Nat) ({ cls := "FoundryNine", name := "pass", desc := "(I)I" } : Jvm.MethodName)) ∈ lw_tbl := List.mem_of_getElem? (i := 791) (by decide +kernel)
theorem tw_725 : (Jvm.Cond.instanceMethod ({ cls := "FoundryNine", name := "pass", desc := "(I)I" } : Jvm.MethodName)) ∈ lw_tbl := List.mem_of_getElem? (i := 792) (by decide +kernel)
theorem tw_726 : (Jvm.Cond.selects "FoundryNine" ({ cls := "FoundryNine", name := "pass", desc := "(I)I" } : Jvm.MethodName) ({ cls := "FoundryNine", name := "pass", desc := "(I)I" } : Jvm.MethodName)) ∈ lw_tbl := List.mem_of_getElem? (i := 793) (by decide +kernel)
set_option maxRecDepth 20000 in
theorem tw_727 : (Jvm.Cond.code ({ cls := "FoundryNine", name := "pass", desc := "(I)I" } : Jvm.MethodName) prog_1_method_16_code (4 : Nat) (Option.some Jvm.ClassFile.FieldType.int)) ∈ lw_tbl := in_t4 (List.mem_of_getElem? (i := 7) rfl)
theorem tw_728 : (Jvm.Cond.stringRef "FoundryNine" (170 : Nat) "no such step") ∈ lw_tbl := List.mem_of_getElem? (i := 795) (by decide +kernel)
theorem tw_729 : (Jvm.Cond.methodLink "FoundryNineLaw" (145 : Nat) ({ cls := "FoundryNineLaw", name := "settle", desc := "(LFoundryNine;[J)I" } : Jvm.MethodName)) ∈ lw_tbl := List.mem_of_getElem? (i := 796) (by decide +kernel)
theorem tw_730 : (Jvm.Cond.static ({ cls := "FoundryNineLaw", name := "settle", desc := "(LFoundryNine;[J)I" } : Jvm.MethodName)) ∈ lw_tbl := List.mem_of_getElem? (i := 797) (by decide +kernel)
set_option maxRecDepth 20000 in
theorem tw_731 : (Jvm.Cond.codeWith ({ cls := "FoundryNineLaw", name := "settle", desc := "(LFoundryNine;[J)I" } : Jvm.MethodName) method_14_code (3 : Nat) (Option.some Jvm.ClassFile.FieldType.int) [((0 : Nat), (8 : Nat), (11 : Nat), (15 : Nat))]) ∈ lw_tbl := in_t4 (List.mem_of_getElem? (i := 11) rfl)
theorem tw_732 : (Jvm.Cond.methodLink "FoundryNineLaw" (54 : Nat) ({ cls := "FoundryNine", name := "settle", desc := "()I" } : Jvm.MethodName)) ∈ lw_tbl := List.mem_of_getElem? (i := 799) (by decide +kernel)
theorem tw_733 : (Jvm.Cond.instanceMethod ({ cls := "FoundryNine", name := "settle", desc := "()I" } : Jvm.MethodName)) ∈ lw_tbl := List.mem_of_getElem? (i := 800) (by decide +kernel)
theorem tw_734 : (Jvm.Cond.selects "FoundryNine" ({ cls := "FoundryNine", name := "settle", desc := "()I" } : Jvm.MethodName) ({ cls := "FoundryNine", name := "settle", desc := "()I" } : Jvm.MethodName)) ∈ lw_tbl := List.mem_of_getElem? (i := 801) (by decide +kernel)
set_option maxRecDepth 20000 in
theorem tw_735 : (Jvm.Cond.code ({ cls := "FoundryNine", name := "settle", desc := "()I" } : Jvm.MethodName) prog_1_method_17_code (1 : Nat) (Option.some Jvm.ClassFile.FieldType.int)) ∈ lw_tbl := in_t4 (List.mem_of_getElem? (i := 15) rfl)
theorem tw_736 : (Jvm.Cond.methodLink "FoundryNine" (178 : Nat) ({ cls := "FoundryNine$Run", name := "comeToRest", desc := "()I" } : Jvm.MethodName)) ∈ lw_tbl := List.mem_of_getElem? (i := 803) (by decide +kernel)
theorem tw_737 : (Jvm.Cond.instanceMethod ({ cls := "FoundryNine$Run", name := "comeToRest", desc := "()I" } : Jvm.MethodName)) ∈ lw_tbl := List.mem_of_getElem? (i := 804) (by decide +kernel)
theorem tw_738 : (Jvm.Cond.selects "FoundryNine$Run" ({ cls := "FoundryNine$Run", name := "comeToRest", desc := "()I" } : Jvm.MethodName) ({ cls := "FoundryNine$Run", name := "comeToRest", desc := "()I" } : Jvm.MethodName)) ∈ lw_tbl := List.mem_of_getElem? (i := 805) (by decide +kernel)
set_option maxRecDepth 20000 in
theorem tw_739 : (Jvm.Cond.code ({ cls := "FoundryNine$Run", name := "comeToRest", desc := "()I" } : Jvm.MethodName) prog_5_method_6_code (2 : Nat) (Option.some Jvm.ClassFile.FieldType.int)) ∈ lw_tbl := in_t4 (List.mem_of_getElem? (i := 19) rfl)
theorem tw_740 : (Jvm.Cond.methodLink "FoundryNine$Run" (105 : Nat) ({ cls := "FoundryNine$Run", name := "letCome", desc := "(I)I" } : Jvm.MethodName)) ∈ lw_tbl := List.mem_of_getElem? (i := 807) (by decide +kernel)
theorem tw_741 : (Jvm.Cond.methodLink "FoundryNine$Run" (109 : Nat) ({ cls := "FoundryNine$Run", name := "noteHazardsOfGates", desc := "()V" } : Jvm.MethodName)) ∈ lw_tbl := List.mem_of_getElem? (i := 808) (by decide +kernel)
theorem tw_742 : (Jvm.Cond.privateMethod ({ cls := "FoundryNine$Run", name := "noteHazardsOfGates", desc := "()V" } : Jvm.MethodName)) ∈ lw_tbl := List.mem_of_getElem? (i := 809) (by decide +kernel)
theorem tw_743 : (Jvm.Cond.instanceMethod ({ cls := "FoundryNine$Run", name := "noteHazardsOfGates", desc := "()V" } : Jvm.MethodName)) ∈ lw_tbl := List.mem_of_getElem? (i := 810) (by decide +kernel)
set_option maxRecDepth 20000 in
theorem tw_744 : (Jvm.Cond.code ({ cls := "FoundryNine$Run", name := "noteHazardsOfGates", desc := "()V" } : Jvm.MethodName) prog_5_method_21_code (3 : Nat) (Option.none : Option Jvm.ClassFile.FieldType)) ∈ lw_tbl := in_t4 (List.mem_of_getElem? (i := 24) rfl)
theorem tw_745 : (Jvm.Cond.methodLink "FoundryNine$Run" (171 : Nat) ({ cls := "FoundryNine$Circuit", name := "firstLineOf", desc := "(I)I" } : Jvm.MethodName)) ∈ lw_tbl := List.mem_of_getElem? (i := 812) (by decide +kernel)
theorem tw_746 : (Jvm.Cond.methodLink "FoundryNine$Run" (174 : Nat) ({ cls := "FoundryNine$Circuit", name := "isGate", desc := "(I)Z" } : Jvm.MethodName)) ∈ lw_tbl := List.mem_of_getElem? (i := 813) (by decide +kernel)
theorem tw_747 : (Jvm.Cond.methodLink "FoundryNineLaw" (153 : Nat) ({ cls := "FoundryNineLaw", name := "told", desc := "(LFoundryNine;I[J)I" } : Jvm.MethodName)) ∈ lw_tbl := List.mem_of_getElem? (i := 814) (by decide +kernel)
theorem tw_748 : (Jvm.Cond.static ({ cls := "FoundryNineLaw", name := "told", desc := "(LFoundryNine;I[J)I" } : Jvm.MethodName)) ∈ lw_tbl := List.mem_of_getElem? (i := 815) (by decide +kernel)
set_option maxRecDepth 20000 in
theorem tw_749 : (Jvm.Cond.codeWith ({ cls := "FoundryNineLaw", name := "told", desc := "(LFoundryNine;I[J)I" } : Jvm.MethodName) method_15_code (4 : Nat) (Option.some Jvm.ClassFile.FieldType.int) [((0 : Nat), (9 : Nat), (12 : Nat), (21 : Nat))]) ∈ lw_tbl := in_t4 (List.mem_of_getElem? (i := 29) rfl)
theorem tw_750 : (Jvm.Cond.methodLink "FoundryNineLaw" (57 : Nat) ({ cls := "FoundryNine", name := "told", desc := "(I)I" } : Jvm.MethodName)) ∈ lw_tbl := List.mem_of_getElem? (i := 817) (by decide +kernel)
theorem tw_751 : (Jvm.Cond.methodLink "FoundryNineLaw" (156 : Nat) ({ cls := "FoundryNineLaw", name := "ofWire", desc := "(LFoundryNine;II[J)I" } : Jvm.MethodName)) ∈ lw_tbl := List.mem_of_getElem? (i := 818) (by decide +kernel)
theorem tw_752 : (Jvm.Cond.static ({ cls := "FoundryNineLaw", name := "ofWire", desc := "(LFoundryNine;II[J)I" } : Jvm.MethodName)) ∈ lw_tbl := List.mem_of_getElem? (i := 819) (by decide +kernel)
set_option maxRecDepth 20000 in
theorem tw_753 : (Jvm.Cond.codeWith ({ cls := "FoundryNineLaw", name := "ofWire", desc := "(LFoundryNine;II[J)I" } : Jvm.MethodName) method_16_code (5 : Nat) (Option.some Jvm.ClassFile.FieldType.int) [((0 : Nat), (10 : Nat), (13 : Nat), (13 : Nat)), ((0 : Nat), (10 : Nat), (17 : Nat), (21 : Nat))]) ∈ lw_tbl := in_t4 (List.mem_of_getElem? (i := 33) rfl)
theorem tw_754 : (Jvm.Cond.methodLink "FoundryNineLaw" (60 : Nat) ({ cls := "FoundryNine", name := "ofWire", desc := "(II)I" } : Jvm.MethodName)) ∈ lw_tbl := List.mem_of_getElem? (i := 821) (by decide +kernel)
theorem tw_755 : (Jvm.Cond.methodLink "FoundryNineLaw" (159 : Nat) ({ cls := "FoundryNineLaw", name := "pending", desc := "(LFoundryNine;I[J)I" } : Jvm.MethodName)) ∈ lw_tbl := List.mem_of_getElem? (i := 822) (by decide +kernel)
theorem tw_756 : (Jvm.Cond.static ({ cls := "FoundryNineLaw", name := "pending", desc := "(LFoundryNine;I[J)I" } : Jvm.MethodName)) ∈ lw_tbl := List.mem_of_getElem? (i := 823) (by decide +kernel)
set_option maxRecDepth 20000 in
theorem tw_757 : (Jvm.Cond.codeWith ({ cls := "FoundryNineLaw", name := "pending", desc := "(LFoundryNine;I[J)I" } : Jvm.MethodName) method_17_code (4 : Nat) (Option.some Jvm.ClassFile.FieldType.int) [((0 : Nat), (9 : Nat), (12 : Nat), (13 : Nat))]) ∈ lw_tbl := in_t4 (List.mem_of_getElem? (i := 37) rfl)
theorem tw_758 : (Jvm.Cond.methodLink "FoundryNineLaw" (63 : Nat) ({ cls := "FoundryNine", name := "pending", desc := "(I)I" } : Jvm.MethodName)) ∈ lw_tbl := List.mem_of_getElem? (i := 825) (by decide +kernel)
theorem tw_759 : (Jvm.Cond.methodLink "FoundryNineLaw" (166 : Nat) ({ cls := "FoundryNineLaw", name := "ofHazard", desc := "(LFoundryNine;II[J)I" } : Jvm.MethodName)) ∈ lw_tbl := List.mem_of_getElem? (i := 826) (by decide +kernel)
theorem tw_760 : (Jvm.Cond.static ({ cls := "FoundryNineLaw", name := "ofHazard", desc := "(LFoundryNine;II[J)I" } : Jvm.MethodName)) ∈ lw_tbl := List.mem_of_getElem? (i := 827) (by decide +kernel)
set_option maxRecDepth 20000 in
theorem tw_761 : (Jvm.Cond.codeWith ({ cls := "FoundryNineLaw", name := "ofHazard", desc := "(LFoundryNine;II[J)I" } : Jvm.MethodName) method_18_code (5 : Nat) (Option.some Jvm.ClassFile.FieldType.int) [((0 : Nat), (10 : Nat), (13 : Nat), (13 : Nat)), ((0 : Nat), (10 : Nat), (17 : Nat), (21 : Nat))]) ∈ lw_tbl := in_t4 (List.mem_of_getElem? (i := 41) rfl)
theorem tw_762 : (Jvm.Cond.methodLink "FoundryNineLaw" (66 : Nat) ({ cls := "FoundryNine", name := "ofHazard", desc := "(II)I" } : Jvm.MethodName)) ∈ lw_tbl := List.mem_of_getElem? (i := 829) (by decide +kernel)
theorem tw_763 : (Jvm.Cond.methodLink "FoundryNineLaw" (169 : Nat) ({ cls := "FoundryNineLaw", name := "wouldBe", desc := "(LFoundryNine;III[J)I" } : Jvm.MethodName)) ∈ lw_tbl := List.mem_of_getElem? (i := 830) (by decide +kernel)
theorem tw_764 : (Jvm.Cond.static ({ cls := "FoundryNineLaw", name := "wouldBe", desc := "(LFoundryNine;III[J)I" } : Jvm.MethodName)) ∈ lw_tbl := List.mem_of_getElem? (i := 831) (by decide +kernel)
set_option maxRecDepth 20000 in
theorem tw_765 : (Jvm.Cond.codeWith ({ cls := "FoundryNineLaw", name := "wouldBe", desc := "(LFoundryNine;III[J)I" } : Jvm.MethodName) method_19_code (6 : Nat) (Option.some Jvm.ClassFile.FieldType.int) [((0 : Nat), (12 : Nat), (15 : Nat), (15 : Nat)), ((0 : Nat), (12 : Nat), (19 : Nat), (13 : Nat)), ((0 : Nat), (12 : Nat), (23 : Nat), (21 : Nat))]) ∈ lw_tbl := in_t4 (List.mem_of_getElem? (i := 45) rfl)
theorem tw_766 : (Jvm.Cond.methodLink "FoundryNineLaw" (69 : Nat) ({ cls := "FoundryNine", name := "wouldBe", desc := "(III)I" } : Jvm.MethodName)) ∈ lw_tbl := List.mem_of_getElem? (i := 833) (by decide +kernel)
theorem tw_767 : (Jvm.Cond.instanceMethod ({ cls := "FoundryNine", name := "wouldBe", desc := "(III)I" } : Jvm.MethodName)) ∈ lw_tbl := List.mem_of_getElem? (i := 834) (by decide +kernel)
theorem tw_768 : (Jvm.Cond.selects "FoundryNine" ({ cls := "FoundryNine", name := "wouldBe", desc := "(III)I" } : Jvm.MethodName) ({ cls := "FoundryNine", name := "wouldBe", desc := "(III)I" } : Jvm.MethodName)) ∈ lw_tbl := List.mem_of_getElem? (i := 835) (by decide +kernel)
set_option maxRecDepth 20000 in
theorem tw_769 : (Jvm.Cond.code ({ cls := "FoundryNine", name := "wouldBe", desc := "(III)I" } : Jvm.MethodName) prog_1_method_24_code (4 : Nat) (Option.some Jvm.ClassFile.FieldType.int)) ∈ lw_tbl := in_t4 (List.mem_of_getElem? (i := 49) rfl)
theorem tw_770 : (Jvm.Cond.methodLink "FoundryNineLaw" (172 : Nat) ({ cls := "FoundryNineLaw", name := "hazardsWith", desc := "(LFoundryNine;II[J)I" } : Jvm.MethodName)) ∈ lw_tbl := List.mem_of_getElem? (i := 837) (by decide +kernel)
theorem tw_771 : (Jvm.Cond.static ({ cls := "FoundryNineLaw", name := "hazardsWith", desc := "(LFoundryNine;II[J)I" } : Jvm.MethodName)) ∈ lw_tbl := List.mem_of_getElem? (i := 838) (by decide +kernel)
set_option maxRecDepth 20000 in
theorem tw_772 : (Jvm.Cond.codeWith ({ cls := "FoundryNineLaw", name := "hazardsWith", desc := "(LFoundryNine;II[J)I" } : Jvm.MethodName) method_20_code (5 : Nat) (Option.some Jvm.ClassFile.FieldType.int) [((0 : Nat), (10 : Nat), (13 : Nat), (15 : Nat)), ((0 : Nat), (10 : Nat), (17 : Nat), (13 : Nat)), ((0 : Nat), (10 : Nat), (21 : Nat), (21 : Nat))]) ∈ lw_tbl := in_t4 (List.mem_of_getElem? (i := 52) rfl)
theorem tw_773 : (Jvm.Cond.methodLink "FoundryNineLaw" (72 : Nat) ({ cls := "FoundryNine", name := "hazardsWith", desc := "(II)I" } : Jvm.MethodName)) ∈ lw_tbl := List.mem_of_getElem? (i := 840) (by decide +kernel)
theorem tw_774 : (Jvm.Cond.instanceMethod ({ cls := "FoundryNine", name := "hazardsWith", desc := "(II)I" } : Jvm.MethodName)) ∈ lw_tbl := List.mem_of_getElem? (i := 841) (by decide +kernel)
theorem tw_775 : (Jvm.Cond.selects "FoundryNine" ({ cls := "FoundryNine", name := "hazardsWith", desc := "(II)I" } : Jvm.MethodName) ({ cls := "FoundryNine", name := "hazardsWith", desc := "(II)I" } : Jvm.MethodName)) ∈ lw_tbl := List.mem_of_getElem? (i := 842) (by decide +kernel)
set_option maxRecDepth 20000 in
theorem tw_776 : (Jvm.Cond.code ({ cls := "FoundryNine", name := "hazardsWith", desc := "(II)I" } : Jvm.MethodName) prog_1_method_25_code (3 : Nat) (Option.some Jvm.ClassFile.FieldType.int)) ∈ lw_tbl := in_t4 (List.mem_of_getElem? (i := 56) rfl)
theorem tw_777 : (Jvm.Cond.methodLink "FoundryNineLaw" (175 : Nat) ({ cls := "FoundryNineLaw", name := "settlesIn", desc := "(LFoundryNine;[J)I" } : Jvm.MethodName)) ∈ lw_tbl := List.mem_of_getElem? (i := 844) (by decide +kernel)
theorem tw_778 : (Jvm.Cond.static ({ cls := "FoundryNineLaw", name := "settlesIn", desc := "(LFoundryNine;[J)I" } : Jvm.MethodName)) ∈ lw_tbl := List.mem_of_getElem? (i := 845) (by decide +kernel)
set_option maxRecDepth 20000 in
theorem tw_779 : (Jvm.Cond.codeWith ({ cls := "FoundryNineLaw", name := "settlesIn", desc := "(LFoundryNine;[J)I" } : Jvm.MethodName) method_21_code (3 : Nat) (Option.some Jvm.ClassFile.FieldType.int) [((0 : Nat), (8 : Nat), (11 : Nat), (15 : Nat))]) ∈ lw_tbl := in_t4 (List.mem_of_getElem? (i := 59) rfl)
theorem tw_780 : (Jvm.Cond.methodLink "FoundryNineLaw" (75 : Nat) ({ cls := "FoundryNine", name := "settlesIn", desc := "()I" } : Jvm.MethodName)) ∈ lw_tbl := List.mem_of_getElem? (i := 847) (by decide +kernel)
theorem tw_781 : (Jvm.Cond.methodLink "FoundryNineLaw" (178 : Nat) ({ cls := "FoundryNineLaw", name := "longestWith", desc := "(LFoundryNine;II[J)I" } : Jvm.MethodName)) ∈ lw_tbl := List.mem_of_getElem? (i := 848) (by decide +kernel)
theorem tw_782 : (Jvm.Cond.static ({ cls := "FoundryNineLaw", name := "longestWith", desc := "(LFoundryNine;II[J)I" } : Jvm.MethodName)) ∈ lw_tbl := List.mem_of_getElem? (i := 849) (by decide +kernel)
set_option maxRecDepth 20000 in
theorem tw_783 : (Jvm.Cond.codeWith ({ cls := "FoundryNineLaw", name := "longestWith", desc := "(LFoundryNine;II[J)I" } : Jvm.MethodName) method_22_code (5 : Nat) (Option.some Jvm.ClassFile.FieldType.int) [((0 : Nat), (10 : Nat), (13 : Nat), (13 : Nat)), ((0 : Nat), (10 : Nat), (17 : Nat), (21 : Nat))]) ∈ lw_tbl := in_t4 (List.mem_of_getElem? (i := 63) rfl)
theorem tw_784 : (Jvm.Cond.methodLink "FoundryNineLaw" (78 : Nat) ({ cls := "FoundryNine", name := "longestWith", desc := "(II)I" } : Jvm.MethodName)) ∈ lw_tbl := List.mem_of_getElem? (i := 851) (by decide +kernel)
theorem tw_785 : (Jvm.Cond.instanceMethod ({ cls := "FoundryNine", name := "longestWith", desc := "(II)I" } : Jvm.MethodName)) ∈ lw_tbl := List.mem_of_getElem? (i := 852) (by decide +kernel)
theorem tw_786 : (Jvm.Cond.selects "FoundryNine" ({ cls := "FoundryNine", name := "longestWith", desc := "(II)I" } : Jvm.MethodName) ({ cls := "FoundryNine", name := "longestWith", desc := "(II)I" } : Jvm.MethodName)) ∈ lw_tbl := List.mem_of_getElem? (i := 853) (by decide +kernel)
set_option maxRecDepth 20000 in
theorem tw_787 : (Jvm.Cond.code ({ cls := "FoundryNine", name := "longestWith", desc := "(II)I" } : Jvm.MethodName) prog_1_method_27_code (3 : Nat) (Option.some Jvm.ClassFile.FieldType.int)) ∈ lw_tbl := in_t4 (List.mem_of_getElem? (i := 67) rfl)
theorem tw_788 : (Jvm.Cond.classLink "FoundryNineLaw" (82 : Nat) "FoundryNineModel") ∈ lw_tbl := List.mem_of_getElem? (i := 855) (by decide +kernel)
theorem tw_789 : (Jvm.Cond.instantiable "FoundryNineModel" (16 : Nat)) ∈ lw_tbl := List.mem_of_getElem? (i := 856) (by decide +kernel)
theorem tw_790 : (Jvm.Cond.methodLink "FoundryNineLaw" (84 : Nat) ({ cls := "FoundryNineModel", name := "<init>", desc := "()V" } : Jvm.MethodName)) ∈ lw_tbl := List.mem_of_getElem? (i := 857) (by decide +kernel)
theorem tw_791 : (Jvm.Cond.instanceMethod ({ cls := "FoundryNineModel", name := "<init>", desc := "()V" } : Jvm.MethodName)) ∈ lw_tbl := List.mem_of_getElem? (i := 858) (by decide +kernel)
set_option maxRecDepth 20000 in
theorem tw_792 : (Jvm.Cond.code ({ cls := "FoundryNineModel", name := "<init>", desc := "()V" } : Jvm.MethodName) prog_7_method_1_code (1 : Nat) (Option.none : Option Jvm.ClassFile.FieldType)) ∈ lw_tbl := in_t4 (List.mem_of_getElem? (i := 72) rfl)
theorem tw_793 : (Jvm.Cond.methodLink "FoundryNineModel" (3 : Nat) ({ cls := "java/lang/Object", name := "<init>", desc := "()V" } : Jvm.MethodName)) ∈ lw_tbl := List.mem_of_getElem? (i := 860) (by decide +kernel)
theorem tw_794 : (Jvm.Cond.methodLink "FoundryNineModel" (47 : Nat) ({ cls := "FoundryNineModel", name := "clear", desc := "()V" } : Jvm.MethodName)) ∈ lw_tbl := List.mem_of_getElem? (i := 861) (by decide +kernel)
theorem tw_795 : (Jvm.Cond.privateMethod ({ cls := "FoundryNineModel", name := "clear", desc := "()V" } : Jvm.MethodName)) ∈ lw_tbl := List.mem_of_getElem? (i := 862) (by decide +kernel)
theorem tw_796 : (Jvm.Cond.instanceMethod ({ cls := "FoundryNineModel", name := "clear", desc := "()V" } : Jvm.MethodName)) ∈ lw_tbl := List.mem_of_getElem? (i := 863) (by decide +kernel)
set_option maxRecDepth 20000 in
theorem tw_797 : (Jvm.Cond.code ({ cls := "FoundryNineModel", name := "clear", desc := "()V" } : Jvm.MethodName) prog_7_method_8_code (2 : Nat) (Option.none : Option Jvm.ClassFile.FieldType)) ∈ lw_tbl := in_t4 (List.mem_of_getElem? (i := 77) rfl)
theorem tw_798 : (Jvm.Cond.fieldLink "FoundryNineModel" (50 : Nat) "FoundryNineModel" "thrown" "I") ∈ lw_tbl := List.mem_of_getElem? (i := 865) (by decide +kernel)
theorem tw_799 : (Jvm.Cond.fieldLink "FoundryNineModel" (58 : Nat) "FoundryNineModel" "lines" "I") ∈ lw_tbl := List.mem_of_getElem? (i := 866) (by decide +kernel)
theorem tw_800 : (Jvm.Cond.fieldLink "FoundryNineModel" (9 : Nat) "FoundryNineModel" "kind" "[I") ∈ lw_tbl := List.mem_of_getElem? (i := 867) (by decide +kernel)
theorem tw_801 : (Jvm.Cond.fieldLink "FoundryNineModel" (13 : Nat) "FoundryNineModel" "drives" "[I") ∈ lw_tbl := List.mem_of_getElem? (i := 868) (by decide +kernel)
theorem tw_802 : (Jvm.Cond.fieldLink "FoundryNineModel" (16 : Nat) "FoundryNineModel" "a" "[I") ∈ lw_tbl := List.mem_of_getElem? (i := 869) (by decide +kernel)
theorem tw_803 : (Jvm.Cond.fieldLink "FoundryNineModel" (19 : Nat) "FoundryNineModel" "b" "[I") ∈ lw_tbl := List.mem_of_getElem? (i := 870) (by decide +kernel)
theorem tw_804 : (Jvm.Cond.fieldLink "FoundryNineModel" (22 : Nat) "FoundryNineModel" "c" "[I") ∈ lw_tbl := List.mem_of_getElem? (i := 871) (by decide +kernel)
theorem tw_805 : (Jvm.Cond.fieldLink "FoundryNineModel" (25 : Nat) "FoundryNineModel" "delay" "[I") ∈ lw_tbl := List.mem_of_getElem? (i := 872) (by decide +kernel)
theorem tw_806 : (Jvm.Cond.fieldLink "FoundryNineModel" (28 : Nat) "FoundryNineModel" "setup" "[I") ∈ lw_tbl := List.mem_of_getElem? (i := 873) (by decide +kernel)
theorem tw_807 : (Jvm.Cond.fieldLink "FoundryNineModel" (31 : Nat) "FoundryNineModel" "hold" "[I") ∈ lw_tbl := List.mem_of_getElem? (i := 874) (by decide +kernel)
theorem tw_808 : (Jvm.Cond.fieldLink "FoundryNineModel" (34 : Nat) "FoundryNineModel" "its" "[I") ∈ lw_tbl := List.mem_of_getElem? (i := 875) (by decide +kernel)
theorem tw_809 : (Jvm.Cond.fieldLink "FoundryNineModel" (61 : Nat) "FoundryNineModel" "isRunning" "Z") ∈ lw_tbl := List.mem_of_getElem? (i := 876) (by decide +kernel)
theorem tw_810 : (Jvm.Cond.fieldLink "FoundryNineModel" (97 : Nat) "FoundryNineModel" "flaws" "I") ∈ lw_tbl := List.mem_of_getElem? (i := 877) (by decide +kernel)
theorem tw_811 : (Jvm.Cond.fieldLink "FoundryNineModel" (37 : Nat) "FoundryNineModel" "flaw" "[I") ∈ lw_tbl := List.mem_of_getElem? (i := 878) (by decide +kernel)
theorem tw_812 : (Jvm.Cond.fieldLink "FoundryNineModel" (40 : Nat) "FoundryNineModel" "arrival" "[I") ∈ lw_tbl := List.mem_of_getElem? (i := 879) (by decide +kernel)
theorem tw_813 : (Jvm.Cond.fieldLink "FoundryNineModel" (43 : Nat) "FoundryNineModel" "isTold" "[Z") ∈ lw_tbl := List.mem_of_getElem? (i := 880) (by decide +kernel)
theorem tw_814 : (Jvm.Cond.lays "FoundryNineModel" "FoundryNineModel" "thrown" "I") ∈ lw_tbl := List.mem_of_getElem? (i := 881) (by decide +kernel)
theorem tw_815 : (Jvm.Cond.soleField "FoundryNineModel" "thrown") ∈ lw_tbl := List.mem_of_getElem? (i := 882) (by decide +kernel)
theorem tw_816 : (Jvm.Cond.lays "FoundryNineModel" "FoundryNineModel" "lines" "I") ∈ lw_tbl := List.mem_of_getElem? (i := 883) (by decide +kernel)
theorem tw_817 : (Jvm.Cond.soleField "FoundryNineModel" "lines") ∈ lw_tbl := List.mem_of_getElem? (i := 884) (by decide +kernel)
theorem tw_818 : (Jvm.Cond.laysFinal "FoundryNineModel" "FoundryNineModel" "kind" "[I") ∈ lw_tbl := List.mem_of_getElem? (i := 885) (by decide +kernel)
theorem tw_819 : (Jvm.Cond.soleField "FoundryNineModel" "kind") ∈ lw_tbl := List.mem_of_getElem? (i := 886) (by decide +kernel)
theorem tw_820 : (Jvm.Cond.laysFinal "FoundryNineModel" "FoundryNineModel" "drives" "[I") ∈ lw_tbl := List.mem_of_getElem? (i := 887) (by decide +kernel)
theorem tw_821 : (Jvm.Cond.soleField "FoundryNineModel" "drives") ∈ lw_tbl := List.mem_of_getElem? (i := 888) (by decide +kernel)
theorem tw_822 : (Jvm.Cond.laysFinal "FoundryNineModel" "FoundryNineModel" "a" "[I") ∈ lw_tbl := List.mem_of_getElem? (i := 889) (by decide +kernel)
theorem tw_823 : (Jvm.Cond.soleField "FoundryNineModel" "a") ∈ lw_tbl := List.mem_of_getElem? (i := 890) (by decide +kernel)
theorem tw_824 : (Jvm.Cond.laysFinal "FoundryNineModel" "FoundryNineModel" "b" "[I") ∈ lw_tbl := List.mem_of_getElem? (i := 891) (by decide +kernel)
theorem tw_825 : (Jvm.Cond.soleField "FoundryNineModel" "b") ∈ lw_tbl := List.mem_of_getElem? (i := 892) (by decide +kernel)
theorem tw_826 : (Jvm.Cond.laysFinal "FoundryNineModel" "FoundryNineModel" "c" "[I") ∈ lw_tbl := List.mem_of_getElem? (i := 893) (by decide +kernel)
theorem tw_827 : (Jvm.Cond.soleField "FoundryNineModel" "c") ∈ lw_tbl := List.mem_of_getElem? (i := 894) (by decide +kernel)
theorem tw_828 : (Jvm.Cond.laysFinal "FoundryNineModel" "FoundryNineModel" "delay" "[I") ∈ lw_tbl := List.mem_of_getElem? (i := 895) (by decide +kernel)
theorem tw_829 : (Jvm.Cond.soleField "FoundryNineModel" "delay") ∈ lw_tbl := List.mem_of_getElem? (i := 896) (by decide +kernel)
theorem tw_830 : (Jvm.Cond.laysFinal "FoundryNineModel" "FoundryNineModel" "setup" "[I") ∈ lw_tbl := List.mem_of_getElem? (i := 897) (by decide +kernel)
theorem tw_831 : (Jvm.Cond.soleField "FoundryNineModel" "setup") ∈ lw_tbl := List.mem_of_getElem? (i := 898) (by decide +kernel)
theorem tw_832 : (Jvm.Cond.laysFinal "FoundryNineModel" "FoundryNineModel" "hold" "[I") ∈ lw_tbl := List.mem_of_getElem? (i := 899) (by decide +kernel)
theorem tw_833 : (Jvm.Cond.soleField "FoundryNineModel" "hold") ∈ lw_tbl := List.mem_of_getElem? (i := 900) (by decide +kernel)
theorem tw_834 : (Jvm.Cond.lays "FoundryNineModel" "FoundryNineModel" "its" "[I") ∈ lw_tbl := List.mem_of_getElem? (i := 901) (by decide +kernel)
theorem tw_835 : (Jvm.Cond.soleField "FoundryNineModel" "its") ∈ lw_tbl := List.mem_of_getElem? (i := 902) (by decide +kernel)
theorem tw_836 : (Jvm.Cond.lays "FoundryNineModel" "FoundryNineModel" "isRunning" "Z") ∈ lw_tbl := List.mem_of_getElem? (i := 903) (by decide +kernel)
theorem tw_837 : (Jvm.Cond.soleField "FoundryNineModel" "isRunning") ∈ lw_tbl := List.mem_of_getElem? (i := 904) (by decide +kernel)
theorem tw_838 : (Jvm.Cond.lays "FoundryNineModel" "FoundryNineModel" "flaws" "I") ∈ lw_tbl := List.mem_of_getElem? (i := 905) (by decide +kernel)
theorem tw_839 : (Jvm.Cond.soleField "FoundryNineModel" "flaws") ∈ lw_tbl := List.mem_of_getElem? (i := 906) (by decide +kernel)
theorem tw_840 : (Jvm.Cond.laysFinal "FoundryNineModel" "FoundryNineModel" "flaw" "[I") ∈ lw_tbl := List.mem_of_getElem? (i := 907) (by decide +kernel)
theorem tw_841 : (Jvm.Cond.soleField "FoundryNineModel" "flaw") ∈ lw_tbl := List.mem_of_getElem? (i := 908) (by decide +kernel)
theorem tw_842 : (Jvm.Cond.laysFinal "FoundryNineModel" "FoundryNineModel" "arrival" "[I") ∈ lw_tbl := List.mem_of_getElem? (i := 909) (by decide +kernel)
theorem tw_843 : (Jvm.Cond.soleField "FoundryNineModel" "arrival") ∈ lw_tbl := List.mem_of_getElem? (i := 910) (by decide +kernel)
theorem tw_844 : (Jvm.Cond.laysFinal "FoundryNineModel" "FoundryNineModel" "isTold" "[Z") ∈ lw_tbl := List.mem_of_getElem? (i := 911) (by decide +kernel)
theorem tw_845 : (Jvm.Cond.soleField "FoundryNineModel" "isTold") ∈ lw_tbl := List.mem_of_getElem? (i := 912) (by decide +kernel)
theorem tw_846 : (Jvm.Cond.superclass "FoundryNineModel" "java/lang/Object") ∈ lw_tbl := List.mem_of_getElem? (i := 913) (by decide +kernel)
theorem tw_847 : (Jvm.Cond.methodLink "FoundryNineLaw" (91 : Nat) ({ cls := "FoundryNineModel", name := "thrown", desc := "()I" } : Jvm.MethodName)) ∈ lw_tbl := List.mem_of_getElem? (i := 914) (by decide +kernel)
theorem tw_848 : (Jvm.Cond.instanceMethod ({ cls := "FoundryNineModel", name := "thrown", desc := "()I" } : Jvm.MethodName)) ∈ lw_tbl := List.mem_of_getElem? (i := 915) (by decide +kernel)
theorem tw_849 : (Jvm.Cond.selects "FoundryNineModel" ({ cls := "FoundryNineModel", name := "thrown", desc := "()I" } : Jvm.MethodName) ({ cls := "FoundryNineModel", name := "thrown", desc := "()I" } : Jvm.MethodName)) ∈ lw_tbl := List.mem_of_getElem? (i := 916) (by decide +kernel)
set_option maxRecDepth 20000 in
theorem tw_850 : (Jvm.Cond.code ({ cls := "FoundryNineModel", name := "thrown", desc := "()I" } : Jvm.MethodName) prog_7_method_2_code (1 : Nat) (Option.some Jvm.ClassFile.FieldType.int)) ∈ lw_tbl := in_t4 (List.mem_of_getElem? (i := 130) rfl)
theorem tw_851 : (Jvm.Cond.methodLink "FoundryNineLaw" (90 : Nat) ({ cls := "FoundryNineModel", name := "input", desc := "(I)I" } : Jvm.MethodName)) ∈ lw_tbl := List.mem_of_getElem? (i := 918) (by decide +kernel)
theorem tw_852 : (Jvm.Cond.instanceMethod ({ cls := "FoundryNineModel", name := "input", desc := "(I)I" } : Jvm.MethodName)) ∈ lw_tbl := List.mem_of_getElem? (i := 919) (by decide +kernel)
theorem tw_853 : (Jvm.Cond.selects "FoundryNineModel" ({ cls := "FoundryNineModel", name := "input", desc := "(I)I" } : Jvm.MethodName) ({ cls := "FoundryNineModel", name := "input", desc := "(I)I" } : Jvm.MethodName)) ∈ lw_tbl := List.mem_of_getElem? (i := 920) (by decide +kernel)
set_option maxRecDepth 20000 in
theorem tw_854 : (Jvm.Cond.code ({ cls := "FoundryNineModel", name := "input", desc := "(I)I" } : Jvm.MethodName) prog_7_method_11_code (2 : Nat) (Option.some Jvm.ClassFile.FieldType.int)) ∈ lw_tbl := in_t4 (List.mem_of_getElem? (i := 134) rfl)
theorem tw_855 : (Jvm.Cond.methodLink "FoundryNineModel" (65 : Nat) ({ cls := "FoundryNineModel", name := "isWire", desc := "(I)Z" } : Jvm.MethodName)) ∈ lw_tbl := List.mem_of_getElem? (i := 922) (by decide +kernel)
theorem tw_856 : (Jvm.Cond.static ({ cls := "FoundryNineModel", name := "isWire", desc := "(I)Z" } : Jvm.MethodName)) ∈ lw_tbl := List.mem_of_getElem? (i := 923) (by decide +kernel)
set_option maxRecDepth 20000 in
theorem tw_857 : (Jvm.Cond.code ({ cls := "FoundryNineModel", name := "isWire", desc := "(I)Z" } : Jvm.MethodName) prog_7_method_6_code (1 : Nat) (Option.some Jvm.ClassFile.FieldType.boolean)) ∈ lw_tbl := in_t4 (List.mem_of_getElem? (i := 137) rfl)
theorem tw_858 : (Jvm.Cond.methodLink "FoundryNineModel" (54 : Nat) ({ cls := "FoundryNineModel", name := "isIn", desc := "(III)Z" } : Jvm.MethodName)) ∈ lw_tbl := List.mem_of_getElem? (i := 925) (by decide +kernel)
theorem tw_859 : (Jvm.Cond.static ({ cls := "FoundryNineModel", name := "isIn", desc := "(III)Z" } : Jvm.MethodName)) ∈ lw_tbl := List.mem_of_getElem? (i := 926) (by decide +kernel)
set_option maxRecDepth 20000 in
theorem tw_860 : (Jvm.Cond.code ({ cls := "FoundryNineModel", name := "isIn", desc := "(III)Z" } : Jvm.MethodName) prog_7_method_5_code (3 : Nat) (Option.some Jvm.ClassFile.FieldType.boolean)) ∈ lw_tbl := in_t4 (List.mem_of_getElem? (i := 140) rfl)
theorem tw_861 : (Jvm.Cond.methodLink "FoundryNineModel" (69 : Nat) ({ cls := "FoundryNineModel", name := "no", desc := "(I)I" } : Jvm.MethodName)) ∈ lw_tbl := List.mem_of_getElem? (i := 928) (by decide +kernel)
theorem tw_862 : (Jvm.Cond.privateMethod ({ cls := "FoundryNineModel", name := "no", desc := "(I)I" } : Jvm.MethodName)) ∈ lw_tbl := List.mem_of_getElem? (i := 929) (by decide +kernel)
theorem tw_863 : (Jvm.Cond.instanceMethod ({ cls := "FoundryNineModel", name := "no", desc := "(I)I" } : Jvm.MethodName)) ∈ lw_tbl := List.mem_of_getElem? (i := 930) (by decide +kernel)
set_option maxRecDepth 20000 in
theorem tw_864 : (Jvm.Cond.code ({ cls := "FoundryNineModel", name := "no", desc := "(I)I" } : Jvm.MethodName) prog_7_method_3_code (2 : Nat) (Option.some Jvm.ClassFile.FieldType.int)) ∈ lw_tbl := in_t4 (List.mem_of_getElem? (i := 144) rfl)
theorem tw_865 : (Jvm.Cond.methodLink "FoundryNineModel" (73 : Nat) ({ cls := "FoundryNineModel", name := "add", desc := "(IIIIII)I" } : Jvm.MethodName)) ∈ lw_tbl := List.mem_of_getElem? (i := 932) (by decide +kernel)
theorem tw_866 : (Jvm.Cond.privateMethod ({ cls := "FoundryNineModel", name := "add", desc := "(IIIIII)I" } : Jvm.MethodName)) ∈ lw_tbl := List.mem_of_getElem? (i := 933) (by decide +kernel)
theorem tw_867 : (Jvm.Cond.instanceMethod ({ cls := "FoundryNineModel", name := "add", desc := "(IIIIII)I" } : Jvm.MethodName)) ∈ lw_tbl := List.mem_of_getElem? (i := 934) (by decide +kernel)
set_option maxRecDepth 20000 in
theorem tw_868 : (Jvm.Cond.code ({ cls := "FoundryNineModel", name := "add", desc := "(IIIIII)I" } : Jvm.MethodName) prog_7_method_10_code (7 : Nat) (Option.some Jvm.ClassFile.FieldType.int)) ∈ lw_tbl := in_t4 (List.mem_of_getElem? (i := 148) rfl)
theorem tw_869 : (Jvm.Cond.methodLink "FoundryNineLaw" (97 : Nat) ({ cls := "FoundryNineModel", name := "gate", desc := "(IIIIII)I" } : Jvm.MethodName)) ∈ lw_tbl := List.mem_of_getElem? (i := 936) (by decide +kernel)
theorem tw_870 : (Jvm.Cond.instanceMethod ({ cls := "FoundryNineModel", name := "gate", desc := "(IIIIII)I" } : Jvm.MethodName)) ∈ lw_tbl := List.mem_of_getElem? (i := 937) (by decide +kernel)
theorem tw_871 : (Jvm.Cond.selects "FoundryNineModel" ({ cls := "FoundryNineModel", name := "gate", desc := "(IIIIII)I" } : Jvm.MethodName) ({ cls := "FoundryNineModel", name := "gate", desc := "(IIIIII)I" } : Jvm.MethodName)) ∈ lw_tbl := List.mem_of_getElem? (i := 938) (by decide +kernel)
set_option maxRecDepth 20000 in
theorem tw_872 : (Jvm.Cond.code ({ cls := "FoundryNineModel", name := "gate", desc := "(IIIIII)I" } : Jvm.MethodName) prog_7_method_12_code (8 : Nat) (Option.some Jvm.ClassFile.FieldType.int)) ∈ lw_tbl := in_t4 (List.mem_of_getElem? (i := 152) rfl)
theorem tw_873 : (Jvm.Cond.methodLink "FoundryNineModel" (77 : Nat) ({ cls := "FoundryNineModel", name := "many", desc := "(I)I" } : Jvm.MethodName)) ∈ lw_tbl := List.mem_of_getElem? (i := 940) (by decide +kernel)
theorem tw_874 : (Jvm.Cond.static ({ cls := "FoundryNineModel", name := "many", desc := "(I)I" } : Jvm.MethodName)) ∈ lw_tbl := List.mem_of_getElem? (i := 941) (by decide +kernel)
set_option maxRecDepth 20000 in
theorem tw_875 : (Jvm.Cond.code ({ cls := "FoundryNineModel", name := "many", desc := "(I)I" } : Jvm.MethodName) prog_7_method_9_code (1 : Nat) (Option.some Jvm.ClassFile.FieldType.int)) ∈ lw_tbl := in_t4 (List.mem_of_getElem? (i := 155) rfl)
theorem tw_876 : (Jvm.Cond.methodLink "FoundryNineLaw" (101 : Nat) ({ cls := "FoundryNineModel", name := "register", desc := "(IIIII)I" } : Jvm.MethodName)) ∈ lw_tbl := List.mem_of_getElem? (i := 943) (by decide +kernel)
theorem tw_877 : (Jvm.Cond.instanceMethod ({ cls := "FoundryNineModel", name := "register", desc := "(IIIII)I" } : Jvm.MethodName)) ∈ lw_tbl := List.mem_of_getElem? (i := 944) (by decide +kernel)
theorem tw_878 : (Jvm.Cond.selects "FoundryNineModel" ({ cls := "FoundryNineModel", name := "register", desc := "(IIIII)I" } : Jvm.MethodName) ({ cls := "FoundryNineModel", name := "register", desc := "(IIIII)I" } : Jvm.MethodName)) ∈ lw_tbl := List.mem_of_getElem? (i := 945) (by decide +kernel)
set_option maxRecDepth 20000 in
theorem tw_879 : (Jvm.Cond.code ({ cls := "FoundryNineModel", name := "register", desc := "(IIIII)I" } : Jvm.MethodName) prog_7_method_13_code (6 : Nat) (Option.some Jvm.ClassFile.FieldType.int)) ∈ lw_tbl := in_t4 (List.mem_of_getElem? (i := 159) rfl)
theorem tw_880 : (Jvm.Cond.methodLink "FoundryNineLaw" (105 : Nat) ({ cls := "FoundryNineModel", name := "setWindow", desc := "(III)I" } : Jvm.MethodName)) ∈ lw_tbl := List.mem_of_getElem? (i := 947) (by decide +kernel)
theorem tw_881 : (Jvm.Cond.instanceMethod ({ cls := "FoundryNineModel", name := "setWindow", desc := "(III)I" } : Jvm.MethodName)) ∈ lw_tbl := List.mem_of_getElem? (i := 948) (by decide +kernel)
theorem tw_882 : (Jvm.Cond.selects "FoundryNineModel" ({ cls := "FoundryNineModel", name := "setWindow", desc := "(III)I" } : Jvm.MethodName) ({ cls := "FoundryNineModel", name := "setWindow", desc := "(III)I" } : Jvm.MethodName)) ∈ lw_tbl := List.mem_of_getElem? (i := 949) (by decide +kernel)
set_option maxRecDepth 20000 in
theorem tw_883 : (Jvm.Cond.code ({ cls := "FoundryNineModel", name := "setWindow", desc := "(III)I" } : Jvm.MethodName) prog_7_method_14_code (5 : Nat) (Option.some Jvm.ClassFile.FieldType.int)) ∈ lw_tbl := in_t4 (List.mem_of_getElem? (i := 163) rfl)
theorem tw_884 : (Jvm.Cond.methodLink "FoundryNineModel" (80 : Nat) ({ cls := "FoundryNineModel", name := "isLine", desc := "(I)Z" } : Jvm.MethodName)) ∈ lw_tbl := List.mem_of_getElem? (i := 951) (by decide +kernel)
theorem tw_885 : (Jvm.Cond.privateMethod ({ cls := "FoundryNineModel", name := "isLine", desc := "(I)Z" } : Jvm.MethodName)) ∈ lw_tbl := List.mem_of_getElem? (i := 952) (by decide +kernel)
theorem tw_886 : (Jvm.Cond.instanceMethod ({ cls := "FoundryNineModel", name := "isLine", desc := "(I)Z" } : Jvm.MethodName)) ∈ lw_tbl := List.mem_of_getElem? (i := 953) (by decide +kernel)
set_option maxRecDepth 20000 in
theorem tw_887 : (Jvm.Cond.code ({ cls := "FoundryNineModel", name := "isLine", desc := "(I)Z" } : Jvm.MethodName) prog_7_method_7_code (2 : Nat) (Option.some Jvm.ClassFile.FieldType.boolean)) ∈ lw_tbl := in_t4 (List.mem_of_getElem? (i := 167) rfl)
theorem tw_888 : (Jvm.Cond.methodLink "FoundryNineLaw" (109 : Nat) ({ cls := "FoundryNineModel", name := "setDelay", desc := "(II)I" } : Jvm.MethodName)) ∈ lw_tbl := List.mem_of_getElem? (i := 955) (by decide +kernel)
theorem tw_889 : (Jvm.Cond.instanceMethod ({ cls := "FoundryNineModel", name := "setDelay", desc := "(II)I" } : Jvm.MethodName)) ∈ lw_tbl := List.mem_of_getElem? (i := 956) (by decide +kernel)
theorem tw_890 : (Jvm.Cond.selects "FoundryNineModel" ({ cls := "FoundryNineModel", name := "setDelay", desc := "(II)I" } : Jvm.MethodName) ({ cls := "FoundryNineModel", name := "setDelay", desc := "(II)I" } : Jvm.MethodName)) ∈ lw_tbl := List.mem_of_getElem? (i := 957) (by decide +kernel)
set_option maxRecDepth 20000 in
theorem tw_891 : (Jvm.Cond.code ({ cls := "FoundryNineModel", name := "setDelay", desc := "(II)I" } : Jvm.MethodName) prog_7_method_15_code (4 : Nat) (Option.some Jvm.ClassFile.FieldType.int)) ∈ lw_tbl := in_t4 (List.mem_of_getElem? (i := 171) rfl)
theorem tw_892 : (Jvm.Cond.methodLink "FoundryNineLaw" (113 : Nat) ({ cls := "FoundryNineModel", name := "lines", desc := "()I" } : Jvm.MethodName)) ∈ lw_tbl := List.mem_of_getElem? (i := 959) (by decide +kernel)
theorem tw_893 : (Jvm.Cond.instanceMethod ({ cls := "FoundryNineModel", name := "lines", desc := "()I" } : Jvm.MethodName)) ∈ lw_tbl := List.mem_of_getElem? (i := 960) (by decide +kernel)
theorem tw_894 : (Jvm.Cond.selects "FoundryNineModel" ({ cls := "FoundryNineModel", name := "lines", desc := "()I" } : Jvm.MethodName) ({ cls := "FoundryNineModel", name := "lines", desc := "()I" } : Jvm.MethodName)) ∈ lw_tbl := List.mem_of_getElem? (i := 961) (by decide +kernel)
set_option maxRecDepth 20000 in
theorem tw_895 : (Jvm.Cond.code ({ cls := "FoundryNineModel", name := "lines", desc := "()I" } : Jvm.MethodName) prog_7_method_16_code (1 : Nat) (Option.some Jvm.ClassFile.FieldType.int)) ∈ lw_tbl := in_t4 (List.mem_of_getElem? (i := 175) rfl)
theorem tw_896 : (Jvm.Cond.methodLink "FoundryNineModel" (83 : Nat) ({ cls := "FoundryNineModel", name := "ok", desc := "(I)I" } : Jvm.MethodName)) ∈ lw_tbl := List.mem_of_getElem? (i := 963) (by decide +kernel)
theorem tw_897 : (Jvm.Cond.privateMethod ({ cls := "FoundryNineModel", name := "ok", desc := "(I)I" } : Jvm.MethodName)) ∈ lw_tbl := List.mem_of_getElem? (i := 964) (by decide +kernel)
theorem tw_898 : (Jvm.Cond.instanceMethod ({ cls := "FoundryNineModel", name := "ok", desc := "(I)I" } : Jvm.MethodName)) ∈ lw_tbl := List.mem_of_getElem? (i := 965) (by decide +kernel)
set_option maxRecDepth 20000 in
theorem tw_899 : (Jvm.Cond.code ({ cls := "FoundryNineModel", name := "ok", desc := "(I)I" } : Jvm.MethodName) prog_7_method_4_code (2 : Nat) (Option.some Jvm.ClassFile.FieldType.int)) ∈ lw_tbl := in_t4 (List.mem_of_getElem? (i := 179) rfl)
theorem tw_900 : (Jvm.Cond.methodLink "FoundryNineLaw" (117 : Nat) ({ cls := "FoundryNineModel", name := "flaws", desc := "()I" } : Jvm.MethodName)) ∈ lw_tbl := List.mem_of_getElem? (i := 967) (by decide +kernel)
theorem tw_901 : (Jvm.Cond.instanceMethod ({ cls := "FoundryNineModel", name := "flaws", desc := "()I" } : Jvm.MethodName)) ∈ lw_tbl := List.mem_of_getElem? (i := 968) (by decide +kernel)
theorem tw_902 : (Jvm.Cond.selects "FoundryNineModel" ({ cls := "FoundryNineModel", name := "flaws", desc := "()I" } : Jvm.MethodName) ({ cls := "FoundryNineModel", name := "flaws", desc := "()I" } : Jvm.MethodName)) ∈ lw_tbl := List.mem_of_getElem? (i := 969) (by decide +kernel)
set_option maxRecDepth 20000 in
theorem tw_903 : (Jvm.Cond.code ({ cls := "FoundryNineModel", name := "flaws", desc := "()I" } : Jvm.MethodName) prog_7_method_25_code (1 : Nat) (Option.some Jvm.ClassFile.FieldType.int)) ∈ lw_tbl := in_t4 (List.mem_of_getElem? (i := 183) rfl)
theorem tw_904 : (Jvm.Cond.methodLink "FoundryNineModel" (110 : Nat) ({ cls := "FoundryNineModel", name := "noteFlaws", desc := "()V" } : Jvm.MethodName)) ∈ lw_tbl := List.mem_of_getElem? (i := 971) (by decide +kernel)
theorem tw_905 : (Jvm.Cond.privateMethod ({ cls := "FoundryNineModel", name := "noteFlaws", desc := "()V" } : Jvm.MethodName)) ∈ lw_tbl := List.mem_of_getElem? (i := 972) (by decide +kernel)
theorem tw_906 : (Jvm.Cond.instanceMethod ({ cls := "FoundryNineModel", name := "noteFlaws", desc := "()V" } : Jvm.MethodName)) ∈ lw_tbl := List.mem_of_getElem? (i := 973) (by decide +kernel)
set_option maxRecDepth 20000 in
theorem tw_907 : (Jvm.Cond.code ({ cls := "FoundryNineModel", name := "noteFlaws", desc := "()V" } : Jvm.MethodName) prog_7_method_24_code (4 : Nat) (Option.none : Option Jvm.ClassFile.FieldType)) ∈ lw_tbl := in_t4 (List.mem_of_getElem? (i := 187) rfl)
theorem tw_908 : (Jvm.Cond.methodLink "FoundryNineModel" (100 : Nat) ({ cls := "FoundryNineModel", name := "note", desc := "(II)V" } : Jvm.MethodName)) ∈ lw_tbl := List.mem_of_getElem? (i := 975) (by decide +kernel)
theorem tw_909 : (Jvm.Cond.privateMethod ({ cls := "FoundryNineModel", name := "note", desc := "(II)V" } : Jvm.MethodName)) ∈ lw_tbl := List.mem_of_getElem? (i := 976) (by decide +kernel)
theorem tw_910 : (Jvm.Cond.instanceMethod ({ cls := "FoundryNineModel", name := "note", desc := "(II)V" } : Jvm.MethodName)) ∈ lw_tbl := List.mem_of_getElem? (i := 977) (by decide +kernel)
set_option maxRecDepth 20000 in
theorem tw_911 : (Jvm.Cond.code ({ cls := "FoundryNineModel", name := "note", desc := "(II)V" } : Jvm.MethodName) prog_7_method_23_code (3 : Nat) (Option.none : Option Jvm.ClassFile.FieldType)) ∈ lw_tbl := in_t4 (List.mem_of_getElem? (i := 191) rfl)
theorem tw_912 : (Jvm.Cond.methodLink "FoundryNineModel" (104 : Nat) ({ cls := "FoundryNineModel", name := "usersNow", desc := "(I)I" } : Jvm.MethodName)) ∈ lw_tbl := List.mem_of_getElem? (i := 979) (by decide +kernel)
theorem tw_913 : (Jvm.Cond.privateMethod ({ cls := "FoundryNineModel", name := "usersNow", desc := "(I)I" } : Jvm.MethodName)) ∈ lw_tbl := List.mem_of_getElem? (i := 980) (by decide +kernel)
theorem tw_914 : (Jvm.Cond.instanceMethod ({ cls := "FoundryNineModel", name := "usersNow", desc := "(I)I" } : Jvm.MethodName)) ∈ lw_tbl := List.mem_of_getElem? (i := 981) (by decide +kernel)
set_option maxRecDepth 20000 in
theorem tw_915 : (Jvm.Cond.code ({ cls := "FoundryNineModel", name := "usersNow", desc := "(I)I" } : Jvm.MethodName) prog_7_method_22_code (4 : Nat) (Option.some Jvm.ClassFile.FieldType.int)) ∈ lw_tbl := in_t4 (List.mem_of_getElem? (i := 195) rfl)
theorem tw_916 : (Jvm.Cond.methodLink "FoundryNineModel" (93 : Nat) ({ cls := "FoundryNineModel", name := "uses", desc := "(II)Z" } : Jvm.MethodName)) ∈ lw_tbl := List.mem_of_getElem? (i := 983) (by decide +kernel)
theorem tw_917 : (Jvm.Cond.privateMethod ({ cls := "FoundryNineModel", name := "uses", desc := "(II)Z" } : Jvm.MethodName)) ∈ lw_tbl := List.mem_of_getElem? (i := 984) (by decide +kernel)
theorem tw_918 : (Jvm.Cond.instanceMethod ({ cls := "FoundryNineModel", name := "uses", desc := "(II)Z" } : Jvm.MethodName)) ∈ lw_tbl := List.mem_of_getElem? (i := 985) (by decide +kernel)
set_option maxRecDepth 20000 in
theorem tw_919 : (Jvm.Cond.code ({ cls := "FoundryNineModel", name := "uses", desc := "(II)Z" } : Jvm.MethodName) prog_7_method_17_code (3 : Nat) (Option.some Jvm.ClassFile.FieldType.boolean)) ∈ lw_tbl := in_t4 (List.mem_of_getElem? (i := 199) rfl)
theorem tw_920 : (Jvm.Cond.methodLink "FoundryNineModel" (86 : Nat) ({ cls := "FoundryNineModel", name := "isGate", desc := "(I)Z" } : Jvm.MethodName)) ∈ lw_tbl := List.mem_of_getElem? (i := 987) (by decide +kernel)
theorem tw_921 : (Jvm.Cond.privateMethod ({ cls := "FoundryNineModel", name := "isGate", desc := "(I)Z" } : Jvm.MethodName)) ∈ lw_tbl := List.mem_of_getElem? (i := 988) (by decide +kernel)
theorem tw_922 : (Jvm.Cond.instanceMethod ({ cls := "FoundryNineModel", name := "isGate", desc := "(I)Z" } : Jvm.MethodName)) ∈ lw_tbl := List.mem_of_getElem? (i := 989) (by decide +kernel)
set_option maxRecDepth 20000 in
theorem tw_923 : (Jvm.Cond.code ({ cls := "FoundryNineModel", name := "isGate", desc := "(I)Z" } : Jvm.MethodName) prog_7_method_19_code (2 : Nat) (Option.some Jvm.ClassFile.FieldType.boolean)) ∈ lw_tbl := in_t4 (List.mem_of_getElem? (i := 203) rfl)
theorem tw_924 : (Jvm.Cond.methodLink "FoundryNineModel" (107 : Nat) ({ cls := "FoundryNineModel", name := "isInRing", desc := "(I)Z" } : Jvm.MethodName)) ∈ lw_tbl := List.mem_of_getElem? (i := 991) (by decide +kernel)
theorem tw_925 : (Jvm.Cond.privateMethod ({ cls := "FoundryNineModel", name := "isInRing", desc := "(I)Z" } : Jvm.MethodName)) ∈ lw_tbl := List.mem_of_getElem? (i := 992) (by decide +kernel)
theorem tw_926 : (Jvm.Cond.instanceMethod ({ cls := "FoundryNineModel", name := "isInRing", desc := "(I)Z" } : Jvm.MethodName)) ∈ lw_tbl := List.mem_of_getElem? (i := 993) (by decide +kernel)
set_option maxRecDepth 20000 in
theorem tw_927 : (Jvm.Cond.code ({ cls := "FoundryNineModel", name := "isInRing", desc := "(I)Z" } : Jvm.MethodName) prog_7_method_20_code (5 : Nat) (Option.some Jvm.ClassFile.FieldType.boolean)) ∈ lw_tbl := in_t4 (List.mem_of_getElem? (i := 207) rfl)
theorem tw_928 : (Jvm.Cond.methodLink "FoundryNineModel" (89 : Nat) ({ cls := "FoundryNineModel", name := "usesAny", desc := "(I[Z)Z" } : Jvm.MethodName)) ∈ lw_tbl := List.mem_of_getElem? (i := 995) (by decide +kernel)
theorem tw_929 : (Jvm.Cond.privateMethod ({ cls := "FoundryNineModel", name := "usesAny", desc := "(I[Z)Z" } : Jvm.MethodName)) ∈ lw_tbl := List.mem_of_getElem? (i := 996) (by decide +kernel)
theorem tw_930 : (Jvm.Cond.instanceMethod ({ cls := "FoundryNineModel", name := "usesAny", desc := "(I[Z)Z" } : Jvm.MethodName)) ∈ lw_tbl := List.mem_of_getElem? (i := 997) (by decide +kernel)
set_option maxRecDepth 20000 in
theorem tw_931 : (Jvm.Cond.code ({ cls := "FoundryNineModel", name := "usesAny", desc := "(I[Z)Z" } : Jvm.MethodName) prog_7_method_21_code (4 : Nat) (Option.some Jvm.ClassFile.FieldType.boolean)) ∈ lw_tbl := in_t4 (List.mem_of_getElem? (i := 211) rfl)
theorem tw_932 : (Jvm.Cond.methodLink "FoundryNineLaw" (120 : Nat) ({ cls := "FoundryNineModel", name := "ofFlaw", desc := "(II)I" } : Jvm.MethodName)) ∈ lw_tbl := List.mem_of_getElem? (i := 999) (by decide +kernel)
theorem tw_933 : (Jvm.Cond.instanceMethod ({ cls := "FoundryNineModel", name := "ofFlaw", desc := "(II)I" } : Jvm.MethodName)) ∈ lw_tbl := List.mem_of_getElem? (i := 1000) (by decide +kernel)
theorem tw_934 : (Jvm.Cond.selects "FoundryNineModel" ({ cls := "FoundryNineModel", name := "ofFlaw", desc := "(II)I" } : Jvm.MethodName) ({ cls := "FoundryNineModel", name := "ofFlaw", desc := "(II)I" } : Jvm.MethodName)) ∈ lw_tbl := List.mem_of_getElem? (i := 1001) (by decide +kernel)
set_option maxRecDepth 20000 in
theorem tw_935 : (Jvm.Cond.code ({ cls := "FoundryNineModel", name := "ofFlaw", desc := "(II)I" } : Jvm.MethodName) prog_7_method_26_code (3 : Nat) (Option.some Jvm.ClassFile.FieldType.int)) ∈ lw_tbl := in_t4 (List.mem_of_getElem? (i := 215) rfl)
theorem tw_936 : (Jvm.Cond.methodLink "FoundryNineLaw" (123 : Nat) ({ cls := "FoundryNineModel", name := "arrival", desc := "(I)I" } : Jvm.MethodName)) ∈ lw_tbl := List.mem_of_getElem? (i := 1003) (by decide +kernel)
theorem tw_937 : (Jvm.Cond.instanceMethod ({ cls := "FoundryNineModel", name := "arrival", desc := "(I)I" } : Jvm.MethodName)) ∈ lw_tbl := List.mem_of_getElem? (i := 1004) (by decide +kernel)
theorem tw_938 : (Jvm.Cond.selects "FoundryNineModel" ({ cls := "FoundryNineModel", name := "arrival", desc := "(I)I" } : Jvm.MethodName) ({ cls := "FoundryNineModel", name := "arrival", desc := "(I)I" } : Jvm.MethodName)) ∈ lw_tbl := List.mem_of_getElem? (i := 1005) (by decide +kernel)
set_option maxRecDepth 20000 in
theorem tw_939 : (Jvm.Cond.code ({ cls := "FoundryNineModel", name := "arrival", desc := "(I)I" } : Jvm.MethodName) prog_7_method_30_code (2 : Nat) (Option.some Jvm.ClassFile.FieldType.int)) ∈ lw_tbl := in_t4 (List.mem_of_getElem? (i := 219) rfl)
theorem tw_940 : (Jvm.Cond.methodLink "FoundryNineModel" (131 : Nat) ({ cls := "FoundryNineModel", name := "tellArrivals", desc := "()V" } : Jvm.MethodName)) ∈ lw_tbl := List.mem_of_getElem? (i := 1007) (by decide +kernel)
theorem tw_941 : (Jvm.Cond.privateMethod ({ cls := "FoundryNineModel", name := "tellArrivals", desc := "()V" } : Jvm.MethodName)) ∈ lw_tbl := List.mem_of_getElem? (i := 1008) (by decide +kernel)
theorem tw_942 : (Jvm.Cond.instanceMethod ({ cls := "FoundryNineModel", name := "tellArrivals", desc := "()V" } : Jvm.MethodName)) ∈ lw_tbl := List.mem_of_getElem? (i := 1009) (by decide +kernel)
set_option maxRecDepth 20000 in
theorem tw_943 : (Jvm.Cond.code ({ cls := "FoundryNineModel", name := "tellArrivals", desc := "()V" } : Jvm.MethodName) prog_7_method_27_code (2 : Nat) (Option.none : Option Jvm.ClassFile.FieldType)) ∈ lw_tbl := in_t4 (List.mem_of_getElem? (i := 223) rfl)
theorem tw_944 : (Jvm.Cond.methodLink "FoundryNineModel" (113 : Nat) ({ cls := "FoundryNineModel", name := "tellArrival", desc := "(I)I" } : Jvm.MethodName)) ∈ lw_tbl := List.mem_of_getElem? (i := 1011) (by decide +kernel)
theorem tw_945 : (Jvm.Cond.privateMethod ({ cls := "FoundryNineModel", name := "tellArrival", desc := "(I)I" } : Jvm.MethodName)) ∈ lw_tbl := List.mem_of_getElem? (i := 1012) (by decide +kernel)
theorem tw_946 : (Jvm.Cond.instanceMethod ({ cls := "FoundryNineModel", name := "tellArrival", desc := "(I)I" } : Jvm.MethodName)) ∈ lw_tbl := List.mem_of_getElem? (i := 1013) (by decide +kernel)
set_option maxRecDepth 20000 in
theorem tw_947 : (Jvm.Cond.code ({ cls := "FoundryNineModel", name := "tellArrival", desc := "(I)I" } : Jvm.MethodName) prog_7_method_28_code (4 : Nat) (Option.some Jvm.ClassFile.FieldType.int)) ∈ lw_tbl := in_t4 (List.mem_of_getElem? (i := 227) rfl)
theorem tw_948 : (Jvm.Cond.methodLink "FoundryNineModel" (116 : Nat) ({ cls := "FoundryNineModel", name := "driver", desc := "(I)I" } : Jvm.MethodName)) ∈ lw_tbl := List.mem_of_getElem? (i := 1015) (by decide +kernel)
theorem tw_949 : (Jvm.Cond.privateMethod ({ cls := "FoundryNineModel", name := "driver", desc := "(I)I" } : Jvm.MethodName)) ∈ lw_tbl := List.mem_of_getElem? (i := 1016) (by decide +kernel)
theorem tw_950 : (Jvm.Cond.instanceMethod ({ cls := "FoundryNineModel", name := "driver", desc := "(I)I" } : Jvm.MethodName)) ∈ lw_tbl := List.mem_of_getElem? (i := 1017) (by decide +kernel)
set_option maxRecDepth 20000 in
theorem tw_951 : (Jvm.Cond.code ({ cls := "FoundryNineModel", name := "driver", desc := "(I)I" } : Jvm.MethodName) prog_7_method_18_code (3 : Nat) (Option.some Jvm.ClassFile.FieldType.int)) ∈ lw_tbl := in_t4 (List.mem_of_getElem? (i := 231) rfl)
theorem tw_952 : (Jvm.Cond.methodLink "FoundryNineModel" (119 : Nat) ({ cls := "java/lang/Math", name := "min", desc := "(II)I" } : Jvm.MethodName)) ∈ lw_tbl := List.mem_of_getElem? (i := 1019) (by decide +kernel)
theorem tw_953 : (Jvm.Cond.static ({ cls := "java/lang/Math", name := "min", desc := "(II)I" } : Jvm.MethodName)) ∈ lw_tbl := List.mem_of_getElem? (i := 1020) (by decide +kernel)
set_option maxRecDepth 20000 in
theorem tw_954 : (Jvm.Cond.code ({ cls := "java/lang/Math", name := "min", desc := "(II)I" } : Jvm.MethodName) prog_13_method_69_code (2 : Nat) (Option.some Jvm.ClassFile.FieldType.int)) ∈ lw_tbl := in_t4 (List.mem_of_getElem? (i := 234) rfl)
theorem tw_955 : (Jvm.Cond.methodLink "FoundryNineModel" (125 : Nat) ({ cls := "FoundryNineModel", name := "behind", desc := "(II)I" } : Jvm.MethodName)) ∈ lw_tbl := List.mem_of_getElem? (i := 1022) (by decide +kernel)
theorem tw_956 : (Jvm.Cond.privateMethod ({ cls := "FoundryNineModel", name := "behind", desc := "(II)I" } : Jvm.MethodName)) ∈ lw_tbl := List.mem_of_getElem? (i := 1023) (by decide +kernel)
theorem tw_957 : (Jvm.Cond.instanceMethod ({ cls := "FoundryNineModel", name := "behind", desc := "(II)I" } : Jvm.MethodName)) ∈ lw_tbl := List.mem_of_getElem? (i := 1024) (by decide +kernel)
set_option maxRecDepth 20000 in
theorem tw_958 : (Jvm.Cond.code ({ cls := "FoundryNineModel", name := "behind", desc := "(II)I" } : Jvm.MethodName) prog_7_method_29_code (3 : Nat) (Option.some Jvm.ClassFile.FieldType.int)) ∈ lw_tbl := in_t4 (List.mem_of_getElem? (i := 238) rfl)
theorem tw_959 : (Jvm.Cond.methodLink "FoundryNineModel" (128 : Nat) ({ cls := "java/lang/Math", name := "max", desc := "(II)I" } : Jvm.MethodName)) ∈ lw_tbl := List.mem_of_getElem? (i := 1026) (by decide +kernel)
theorem tw_960 : (Jvm.Cond.methodLink "FoundryNineLaw" (127 : Nat) ({ cls := "FoundryNineModel", name := "longest", desc := "()I" } : Jvm.MethodName)) ∈ lw_tbl := List.mem_of_getElem? (i := 1027) (by decide +kernel)
theorem tw_961 : (Jvm.Cond.instanceMethod ({ cls := "FoundryNineModel", name := "longest", desc := "()I" } : Jvm.MethodName)) ∈ lw_tbl := List.mem_of_getElem? (i := 1028) (by decide +kernel)
theorem tw_962 : (Jvm.Cond.selects "FoundryNineModel" ({ cls := "FoundryNineModel", name := "longest", desc := "()I" } : Jvm.MethodName) ({ cls := "FoundryNineModel", name := "longest", desc := "()I" } : Jvm.MethodName)) ∈ lw_tbl := List.mem_of_getElem? (i := 1029) (by decide +kernel)
set_option maxRecDepth 20000 in
theorem tw_963 : (Jvm.Cond.code ({ cls := "FoundryNineModel", name := "longest", desc := "()I" } : Jvm.MethodName) prog_7_method_32_code (1 : Nat) (Option.some Jvm.ClassFile.FieldType.int)) ∈ lw_tbl := in_t5 (List.mem_of_getElem? (i := 3) rfl)
theorem tw_964 : (Jvm.Cond.methodLink "FoundryNineModel" (134 : Nat) ({ cls := "FoundryNineModel", name := "longestNow", desc := "()I" } : Jvm.MethodName)) ∈ lw_tbl := List.mem_of_getElem? (i := 1031) (by decide +kernel)
theorem tw_965 : (Jvm.Cond.privateMethod ({ cls := "FoundryNineModel", name := "longestNow", desc := "()I" } : Jvm.MethodName)) ∈ lw_tbl := List.mem_of_getElem? (i := 1032) (by decide +kernel)
theorem tw_966 : (Jvm.Cond.instanceMethod ({ cls := "FoundryNineModel", name := "longestNow", desc := "()I" } : Jvm.MethodName)) ∈ lw_tbl := List.mem_of_getElem? (i := 1033) (by decide +kernel)
set_option maxRecDepth 20000 in
theorem tw_967 : (Jvm.Cond.code ({ cls := "FoundryNineModel", name := "longestNow", desc := "()I" } : Jvm.MethodName) prog_7_method_31_code (3 : Nat) (Option.some Jvm.ClassFile.FieldType.int)) ∈ lw_tbl := in_t5 (List.mem_of_getElem? (i := 7) rfl)
theorem tw_968 : (Jvm.Cond.methodLink "FoundryNineLaw" (131 : Nat) ({ cls := "FoundryNineModel", name := "way", desc := "(I)I" } : Jvm.MethodName)) ∈ lw_tbl := List.mem_of_getElem? (i := 1035) (by decide +kernel)
theorem tw_969 : (Jvm.Cond.instanceMethod ({ cls := "FoundryNineModel", name := "way", desc := "(I)I" } : Jvm.MethodName)) ∈ lw_tbl := List.mem_of_getElem? (i := 1036) (by decide +kernel)
theorem tw_970 : (Jvm.Cond.selects "FoundryNineModel" ({ cls := "FoundryNineModel", name := "way", desc := "(I)I" } : Jvm.MethodName) ({ cls := "FoundryNineModel", name := "way", desc := "(I)I" } : Jvm.MethodName)) ∈ lw_tbl := List.mem_of_getElem? (i := 1037) (by decide +kernel)
set_option maxRecDepth 20000 in
theorem tw_971 : (Jvm.Cond.code ({ cls := "FoundryNineModel", name := "way", desc := "(I)I" } : Jvm.MethodName) prog_7_method_34_code (2 : Nat) (Option.some Jvm.ClassFile.FieldType.int)) ∈ lw_tbl := in_t5 (List.mem_of_getElem? (i := 11) rfl)
theorem tw_972 : (Jvm.Cond.methodLink "FoundryNineModel" (138 : Nat) ({ cls := "FoundryNineModel", name := "wayNow", desc := "(I)I" } : Jvm.MethodName)) ∈ lw_tbl := List.mem_of_getElem? (i := 1039) (by decide +kernel)
theorem tw_973 : (Jvm.Cond.privateMethod ({ cls := "FoundryNineModel", name := "wayNow", desc := "(I)I" } : Jvm.MethodName)) ∈ lw_tbl := List.mem_of_getElem? (i := 1040) (by decide +kernel)
theorem tw_974 : (Jvm.Cond.instanceMethod ({ cls := "FoundryNineModel", name := "wayNow", desc := "(I)I" } : Jvm.MethodName)) ∈ lw_tbl := List.mem_of_getElem? (i := 1041) (by decide +kernel)
set_option maxRecDepth 20000 in
theorem tw_975 : (Jvm.Cond.code ({ cls := "FoundryNineModel", name := "wayNow", desc := "(I)I" } : Jvm.MethodName) prog_7_method_33_code (5 : Nat) (Option.some Jvm.ClassFile.FieldType.int)) ∈ lw_tbl := in_t5 (List.mem_of_getElem? (i := 15) rfl)
theorem tw_976 : (Jvm.Cond.methodLink "FoundryNineLaw" (134 : Nat) ({ cls := "FoundryNineModel", name := "users", desc := "(I)I" } : Jvm.MethodName)) ∈ lw_tbl := List.mem_of_getElem? (i := 1043) (by decide +kernel)
theorem tw_977 : (Jvm.Cond.instanceMethod ({ cls := "FoundryNineModel", name := "users", desc := "(I)I" } : Jvm.MethodName)) ∈ lw_tbl := List.mem_of_getElem? (i := 1044) (by decide +kernel)
theorem tw_978 : (Jvm.Cond.selects "FoundryNineModel" ({ cls := "FoundryNineModel", name := "users", desc := "(I)I" } : Jvm.MethodName) ({ cls := "FoundryNineModel", name := "users", desc := "(I)I" } : Jvm.MethodName)) ∈ lw_tbl := List.mem_of_getElem? (i := 1045) (by decide +kernel)
set_option maxRecDepth 20000 in
theorem tw_979 : (Jvm.Cond.code ({ cls := "FoundryNineModel", name := "users", desc := "(I)I" } : Jvm.MethodName) prog_7_method_35_code (2 : Nat) (Option.some Jvm.ClassFile.FieldType.int)) ∈ lw_tbl := in_t5 (List.mem_of_getElem? (i := 19) rfl)
theorem tw_980 : (Jvm.Cond.methodLink "FoundryNineLaw" (138 : Nat) ({ cls := "FoundryNineModel", name := "start", desc := "()I" } : Jvm.MethodName)) ∈ lw_tbl := List.mem_of_getElem? (i := 1047) (by decide +kernel)
theorem tw_981 : (Jvm.Cond.instanceMethod ({ cls := "FoundryNineModel", name := "start", desc := "()I" } : Jvm.MethodName)) ∈ lw_tbl := List.mem_of_getElem? (i := 1048) (by decide +kernel)
theorem tw_982 : (Jvm.Cond.selects "FoundryNineModel" ({ cls := "FoundryNineModel", name := "start", desc := "()I" } : Jvm.MethodName) ({ cls := "FoundryNineModel", name := "start", desc := "()I" } : Jvm.MethodName)) ∈ lw_tbl := List.mem_of_getElem? (i := 1049) (by decide +kernel)
set_option maxRecDepth 20000 in
theorem tw_983 : (Jvm.Cond.code ({ cls := "FoundryNineModel", name := "start", desc := "()I" } : Jvm.MethodName) prog_7_method_50_code (2 : Nat) (Option.some Jvm.ClassFile.FieldType.int)) ∈ lw_tbl := in_t5 (List.mem_of_getElem? (i := 23) rfl)
theorem tw_984 : (Jvm.Cond.methodLink "FoundryNineModel" (170 : Nat) ({ cls := "FoundryNineModel", name := "change", desc := "(II)V" } : Jvm.MethodName)) ∈ lw_tbl := List.mem_of_getElem? (i := 1051) (by decide +kernel)
theorem tw_985 : (Jvm.Cond.privateMethod ({ cls := "FoundryNineModel", name := "change", desc := "(II)V" } : Jvm.MethodName)) ∈ lw_tbl := List.mem_of_getElem? (i := 1052) (by decide +kernel)
theorem tw_986 : (Jvm.Cond.instanceMethod ({ cls := "FoundryNineModel", name := "change", desc := "(II)V" } : Jvm.MethodName)) ∈ lw_tbl := List.mem_of_getElem? (i := 1053) (by decide +kernel)
set_option maxRecDepth 20000 in
theorem tw_987 : (Jvm.Cond.code ({ cls := "FoundryNineModel", name := "change", desc := "(II)V" } : Jvm.MethodName) prog_7_method_40_code (5 : Nat) (Option.none : Option Jvm.ClassFile.FieldType)) ∈ lw_tbl := in_t5 (List.mem_of_getElem? (i := 27) rfl)
theorem tw_988 : (Jvm.Cond.methodLink "FoundryNineModel" (141 : Nat) ({ cls := "FoundryNineModel", name := "valueOf", desc := "(I)I" } : Jvm.MethodName)) ∈ lw_tbl := List.mem_of_getElem? (i := 1055) (by decide +kernel)
theorem tw_989 : (Jvm.Cond.privateMethod ({ cls := "FoundryNineModel", name := "valueOf", desc := "(I)I" } : Jvm.MethodName)) ∈ lw_tbl := List.mem_of_getElem? (i := 1056) (by decide +kernel)
theorem tw_990 : (Jvm.Cond.instanceMethod ({ cls := "FoundryNineModel", name := "valueOf", desc := "(I)I" } : Jvm.MethodName)) ∈ lw_tbl := List.mem_of_getElem? (i := 1057) (by decide +kernel)
set_option maxRecDepth 20000 in
theorem tw_991 : (Jvm.Cond.code ({ cls := "FoundryNineModel", name := "valueOf", desc := "(I)I" } : Jvm.MethodName) prog_7_method_38_code (2 : Nat) (Option.some Jvm.ClassFile.FieldType.int)) ∈ lw_tbl := in_t5 (List.mem_of_getElem? (i := 31) rfl)
theorem tw_992 : (Jvm.Cond.methodLink "FoundryNineModel" (150 : Nat) ({ cls := "FoundryNineModel", name := "askGate", desc := "(I)V" } : Jvm.MethodName)) ∈ lw_tbl := List.mem_of_getElem? (i := 1059) (by decide +kernel)
theorem tw_993 : (Jvm.Cond.privateMethod ({ cls := "FoundryNineModel", name := "askGate", desc := "(I)V" } : Jvm.MethodName)) ∈ lw_tbl := List.mem_of_getElem? (i := 1060) (by decide +kernel)
theorem tw_994 : (Jvm.Cond.instanceMethod ({ cls := "FoundryNineModel", name := "askGate", desc := "(I)V" } : Jvm.MethodName)) ∈ lw_tbl := List.mem_of_getElem? (i := 1061) (by decide +kernel)
set_option maxRecDepth 20000 in
theorem tw_995 : (Jvm.Cond.code ({ cls := "FoundryNineModel", name := "askGate", desc := "(I)V" } : Jvm.MethodName) prog_7_method_42_code (3 : Nat) (Option.none : Option Jvm.ClassFile.FieldType)) ∈ lw_tbl := in_t5 (List.mem_of_getElem? (i := 35) rfl)
theorem tw_996 : (Jvm.Cond.methodLink "FoundryNineModel" (158 : Nat) ({ cls := "FoundryNineModel", name := "reckon", desc := "(I)I" } : Jvm.MethodName)) ∈ lw_tbl := List.mem_of_getElem? (i := 1063) (by decide +kernel)
theorem tw_997 : (Jvm.Cond.privateMethod ({ cls := "FoundryNineModel", name := "reckon", desc := "(I)I" } : Jvm.MethodName)) ∈ lw_tbl := List.mem_of_getElem? (i := 1064) (by decide +kernel)
theorem tw_998 : (Jvm.Cond.instanceMethod ({ cls := "FoundryNineModel", name := "reckon", desc := "(I)I" } : Jvm.MethodName)) ∈ lw_tbl := List.mem_of_getElem? (i := 1065) (by decide +kernel)
set_option maxRecDepth 20000 in
theorem tw_999 : (Jvm.Cond.code ({ cls := "FoundryNineModel", name := "reckon", desc := "(I)I" } : Jvm.MethodName) prog_7_method_39_code (4 : Nat) (Option.some Jvm.ClassFile.FieldType.int)) ∈ lw_tbl := in_t5 (List.mem_of_getElem? (i := 39) rfl)
theorem tw_1000 : (Jvm.Cond.methodLink "FoundryNineModel" (144 : Nat) ({ cls := "FoundryNineModel", name := "not", desc := "(I)I" } : Jvm.MethodName)) ∈ lw_tbl := List.mem_of_getElem? (i := 1067) (by decide +kernel)
theorem tw_1001 : (Jvm.Cond.static ({ cls := "FoundryNineModel", name := "not", desc := "(I)I" } : Jvm.MethodName)) ∈ lw_tbl := List.mem_of_getElem? (i := 1068) (by decide +kernel)
set_option maxRecDepth 20000 in
theorem tw_1002 : (Jvm.Cond.code ({ cls := "FoundryNineModel", name := "not", desc := "(I)I" } : Jvm.MethodName) prog_7_method_36_code (1 : Nat) (Option.some Jvm.ClassFile.FieldType.int)) ∈ lw_tbl := in_t5 (List.mem_of_getElem? (i := 42) rfl)
theorem tw_1003 : (Jvm.Cond.methodLink "FoundryNineModel" (147 : Nat) ({ cls := "FoundryNineModel", name := "and", desc := "(II)I" } : Jvm.MethodName)) ∈ lw_tbl := List.mem_of_getElem? (i := 1070) (by decide +kernel)
theorem tw_1004 : (Jvm.Cond.static ({ cls := "FoundryNineModel", name := "and", desc := "(II)I" } : Jvm.MethodName)) ∈ lw_tbl := List.mem_of_getElem? (i := 1071) (by decide +kernel)
set_option maxRecDepth 20000 in
theorem tw_1005 : (Jvm.Cond.code ({ cls := "FoundryNineModel", name := "and", desc := "(II)I" } : Jvm.MethodName) prog_7_method_37_code (2 : Nat) (Option.some Jvm.ClassFile.FieldType.int)) ∈ lw_tbl := in_t5 (List.mem_of_getElem? (i := 45) rfl)
theorem tw_1006 : (Jvm.Cond.methodLink "FoundryNineModel" (161 : Nat) ({ cls := "FoundryNineModel", name := "pend", desc := "(II)V" } : Jvm.MethodName)) ∈ lw_tbl := List.mem_of_getElem? (i := 1073) (by decide +kernel)
theorem tw_1007 : (Jvm.Cond.privateMethod ({ cls := "FoundryNineModel", name := "pend", desc := "(II)V" } : Jvm.MethodName)) ∈ lw_tbl := List.mem_of_getElem? (i := 1074) (by decide +kernel)
theorem tw_1008 : (Jvm.Cond.instanceMethod ({ cls := "FoundryNineModel", name := "pend", desc := "(II)V" } : Jvm.MethodName)) ∈ lw_tbl := List.mem_of_getElem? (i := 1075) (by decide +kernel)
set_option maxRecDepth 20000 in
theorem tw_1009 : (Jvm.Cond.code ({ cls := "FoundryNineModel", name := "pend", desc := "(II)V" } : Jvm.MethodName) prog_7_method_41_code (3 : Nat) (Option.none : Option Jvm.ClassFile.FieldType)) ∈ lw_tbl := in_t5 (List.mem_of_getElem? (i := 49) rfl)
theorem tw_1010 : (Jvm.Cond.methodLink "FoundryNineModel" (154 : Nat) ({ cls := "FoundryNineModel", name := "askRegister", desc := "(III)V" } : Jvm.MethodName)) ∈ lw_tbl := List.mem_of_getElem? (i := 1077) (by decide +kernel)
theorem tw_1011 : (Jvm.Cond.privateMethod ({ cls := "FoundryNineModel", name := "askRegister", desc := "(III)V" } : Jvm.MethodName)) ∈ lw_tbl := List.mem_of_getElem? (i := 1078) (by decide +kernel)
theorem tw_1012 : (Jvm.Cond.instanceMethod ({ cls := "FoundryNineModel", name := "askRegister", desc := "(III)V" } : Jvm.MethodName)) ∈ lw_tbl := List.mem_of_getElem? (i := 1079) (by decide +kernel)
set_option maxRecDepth 20000 in
theorem tw_1013 : (Jvm.Cond.code ({ cls := "FoundryNineModel", name := "askRegister", desc := "(III)V" } : Jvm.MethodName) prog_7_method_43_code (5 : Nat) (Option.none : Option Jvm.ClassFile.FieldType)) ∈ lw_tbl := in_t5 (List.mem_of_getElem? (i := 53) rfl)
theorem tw_1014 : (Jvm.Cond.methodLink "FoundryNineModel" (164 : Nat) ({ cls := "FoundryNineModel", name := "noteHazard", desc := "(II)V" } : Jvm.MethodName)) ∈ lw_tbl := List.mem_of_getElem? (i := 1081) (by decide +kernel)
theorem tw_1015 : (Jvm.Cond.privateMethod ({ cls := "FoundryNineModel", name := "noteHazard", desc := "(II)V" } : Jvm.MethodName)) ∈ lw_tbl := List.mem_of_getElem? (i := 1082) (by decide +kernel)
theorem tw_1016 : (Jvm.Cond.instanceMethod ({ cls := "FoundryNineModel", name := "noteHazard", desc := "(II)V" } : Jvm.MethodName)) ∈ lw_tbl := List.mem_of_getElem? (i := 1083) (by decide +kernel)
set_option maxRecDepth 20000 in
theorem tw_1017 : (Jvm.Cond.code ({ cls := "FoundryNineModel", name := "noteHazard", desc := "(II)V" } : Jvm.MethodName) prog_7_method_44_code (4 : Nat) (Option.none : Option Jvm.ClassFile.FieldType)) ∈ lw_tbl := in_t5 (List.mem_of_getElem? (i := 57) rfl)
theorem tw_1018 : (Jvm.Cond.methodLink "FoundryNineModel" (182 : Nat) ({ cls := "FoundryNineModel", name := "pendingLines", desc := "()I" } : Jvm.MethodName)) ∈ lw_tbl := List.mem_of_getElem? (i := 1085) (by decide +kernel)
theorem tw_1019 : (Jvm.Cond.privateMethod ({ cls := "FoundryNineModel", name := "pendingLines", desc := "()I" } : Jvm.MethodName)) ∈ lw_tbl := List.mem_of_getElem? (i := 1086) (by decide +kernel)
theorem tw_1020 : (Jvm.Cond.instanceMethod ({ cls := "FoundryNineModel", name := "pendingLines", desc := "()I" } : Jvm.MethodName)) ∈ lw_tbl := List.mem_of_getElem? (i := 1087) (by decide +kernel)
set_option maxRecDepth 20000 in
theorem tw_1021 : (Jvm.Cond.code ({ cls := "FoundryNineModel", name := "pendingLines", desc := "()I" } : Jvm.MethodName) prog_7_method_49_code (3 : Nat) (Option.some Jvm.ClassFile.FieldType.int)) ∈ lw_tbl := in_t5 (List.mem_of_getElem? (i := 61) rfl)
theorem tw_1022 : (Jvm.Cond.methodLink "FoundryNineLaw" (141 : Nat) ({ cls := "FoundryNineModel", name := "set", desc := "(II)I" } : Jvm.MethodName)) ∈ lw_tbl := List.mem_of_getElem? (i := 1089) (by decide +kernel)
theorem tw_1023 : (Jvm.Cond.instanceMethod ({ cls := "FoundryNineModel", name := "set", desc := "(II)I" } : Jvm.MethodName)) ∈ lw_tbl := List.mem_of_getElem? (i := 1090) (by decide +kernel)
theorem tw_1024 : (Jvm.Cond.selects "FoundryNineModel" ({ cls := "FoundryNineModel", name := "set", desc := "(II)I" } : Jvm.MethodName) ({ cls := "FoundryNineModel", name := "set", desc := "(II)I" } : Jvm.MethodName)) ∈ lw_tbl := List.mem_of_getElem? (i := 1091) (by decide +kernel)
set_option maxRecDepth 20000 in
theorem tw_1025 : (Jvm.Cond.code ({ cls := "FoundryNineModel", name := "set", desc := "(II)I" } : Jvm.MethodName) prog_7_method_54_code (3 : Nat) (Option.some Jvm.ClassFile.FieldType.int)) ∈ lw_tbl := in_t5 (List.mem_of_getElem? (i := 65) rfl)
theorem tw_1026 : (Jvm.Cond.methodLink "FoundryNineModel" (188 : Nat) ({ cls := "FoundryNineModel", name := "asked", desc := "(III)I" } : Jvm.MethodName)) ∈ lw_tbl := List.mem_of_getElem? (i := 1093) (by decide +kernel)
theorem tw_1027 : (Jvm.Cond.privateMethod ({ cls := "FoundryNineModel", name := "asked", desc := "(III)I" } : Jvm.MethodName)) ∈ lw_tbl := List.mem_of_getElem? (i := 1094) (by decide +kernel)
theorem tw_1028 : (Jvm.Cond.instanceMethod ({ cls := "FoundryNineModel", name := "asked", desc := "(III)I" } : Jvm.MethodName)) ∈ lw_tbl := List.mem_of_getElem? (i := 1095) (by decide +kernel)
set_option maxRecDepth 20000 in
theorem tw_1029 : (Jvm.Cond.code ({ cls := "FoundryNineModel", name := "asked", desc := "(III)I" } : Jvm.MethodName) prog_7_method_53_code (4 : Nat) (Option.some Jvm.ClassFile.FieldType.int)) ∈ lw_tbl := in_t5 (List.mem_of_getElem? (i := 69) rfl)
theorem tw_1030 : (Jvm.Cond.methodLink "FoundryNineModel" (185 : Nat) ({ cls := "FoundryNineModel", name := "isInput", desc := "(I)Z" } : Jvm.MethodName)) ∈ lw_tbl := List.mem_of_getElem? (i := 1097) (by decide +kernel)
theorem tw_1031 : (Jvm.Cond.privateMethod ({ cls := "FoundryNineModel", name := "isInput", desc := "(I)Z" } : Jvm.MethodName)) ∈ lw_tbl := List.mem_of_getElem? (i := 1098) (by decide +kernel)
theorem tw_1032 : (Jvm.Cond.instanceMethod ({ cls := "FoundryNineModel", name := "isInput", desc := "(I)Z" } : Jvm.MethodName)) ∈ lw_tbl := List.mem_of_getElem? (i := 1099) (by decide +kernel)
set_option maxRecDepth 20000 in
theorem tw_1033 : (Jvm.Cond.code ({ cls := "FoundryNineModel", name := "isInput", desc := "(I)Z" } : Jvm.MethodName) prog_7_method_51_code (2 : Nat) (Option.some Jvm.ClassFile.FieldType.boolean)) ∈ lw_tbl := in_t5 (List.mem_of_getElem? (i := 73) rfl)
theorem tw_1034 : (Jvm.Cond.methodLink "FoundryNineModel" (192 : Nat) ({ cls := "FoundryNineModel", name := "setNow", desc := "(II)I" } : Jvm.MethodName)) ∈ lw_tbl := List.mem_of_getElem? (i := 1101) (by decide +kernel)
theorem tw_1035 : (Jvm.Cond.privateMethod ({ cls := "FoundryNineModel", name := "setNow", desc := "(II)I" } : Jvm.MethodName)) ∈ lw_tbl := List.mem_of_getElem? (i := 1102) (by decide +kernel)
theorem tw_1036 : (Jvm.Cond.instanceMethod ({ cls := "FoundryNineModel", name := "setNow", desc := "(II)I" } : Jvm.MethodName)) ∈ lw_tbl := List.mem_of_getElem? (i := 1103) (by decide +kernel)
set_option maxRecDepth 20000 in
theorem tw_1037 : (Jvm.Cond.code ({ cls := "FoundryNineModel", name := "setNow", desc := "(II)I" } : Jvm.MethodName) prog_7_method_52_code (4 : Nat) (Option.some Jvm.ClassFile.FieldType.int)) ∈ lw_tbl := in_t5 (List.mem_of_getElem? (i := 77) rfl)
theorem tw_1038 : (Jvm.Cond.methodLink "FoundryNineModel" (179 : Nat) ({ cls := "FoundryNineModel", name := "beginCounting", desc := "()V" } : Jvm.MethodName)) ∈ lw_tbl := List.mem_of_getElem? (i := 1105) (by decide +kernel)
theorem tw_1039 : (Jvm.Cond.privateMethod ({ cls := "FoundryNineModel", name := "beginCounting", desc := "()V" } : Jvm.MethodName)) ∈ lw_tbl := List.mem_of_getElem? (i := 1106) (by decide +kernel)
theorem tw_1040 : (Jvm.Cond.instanceMethod ({ cls := "FoundryNineModel", name := "beginCounting", desc := "()V" } : Jvm.MethodName)) ∈ lw_tbl := List.mem_of_getElem? (i := 1107) (by decide +kernel)
set_option maxRecDepth 20000 in
theorem tw_1041 : (Jvm.Cond.code ({ cls := "FoundryNineModel", name := "beginCounting", desc := "()V" } : Jvm.MethodName) prog_7_method_47_code (2 : Nat) (Option.none : Option Jvm.ClassFile.FieldType)) ∈ lw_tbl := in_t5 (List.mem_of_getElem? (i := 81) rfl)
theorem tw_1042 : (Jvm.Cond.methodLink "FoundryNineLaw" (144 : Nat) ({ cls := "FoundryNineModel", name := "pass", desc := "(I)I" } : Jvm.MethodName)) ∈ lw_tbl := List.mem_of_getElem? (i := 1109) (by decide +kernel)
theorem tw_1043 : (Jvm.Cond.instanceMethod ({ cls := "FoundryNineModel", name := "pass", desc := "(I)I" } : Jvm.MethodName)) ∈ lw_tbl := List.mem_of_getElem? (i := 1110) (by decide +kernel)
theorem tw_1044 : (Jvm.Cond.selects "FoundryNineModel" ({ cls := "FoundryNineModel", name := "pass", desc := "(I)I" } : Jvm.MethodName) ({ cls := "FoundryNineModel", name := "pass", desc := "(I)I" } : Jvm.MethodName)) ∈ lw_tbl := List.mem_of_getElem? (i := 1111) (by decide +kernel)
set_option maxRecDepth 20000 in
theorem tw_1045 : (Jvm.Cond.code ({ cls := "FoundryNineModel", name := "pass", desc := "(I)I" } : Jvm.MethodName) prog_7_method_55_code (4 : Nat) (Option.some Jvm.ClassFile.FieldType.int)) ∈ lw_tbl := in_t5 (List.mem_of_getElem? (i := 85) rfl)
theorem tw_1046 : (Jvm.Cond.methodLink "FoundryNineModel" (176 : Nat) ({ cls := "FoundryNineModel", name := "passTo", desc := "(I)I" } : Jvm.MethodName)) ∈ lw_tbl := List.mem_of_getElem? (i := 1113) (by decide +kernel)
theorem tw_1047 : (Jvm.Cond.privateMethod ({ cls := "FoundryNineModel", name := "passTo", desc := "(I)I" } : Jvm.MethodName)) ∈ lw_tbl := List.mem_of_getElem? (i := 1114) (by decide +kernel)
theorem tw_1048 : (Jvm.Cond.instanceMethod ({ cls := "FoundryNineModel", name := "passTo", desc := "(I)I" } : Jvm.MethodName)) ∈ lw_tbl := List.mem_of_getElem? (i := 1115) (by decide +kernel)
set_option maxRecDepth 20000 in
theorem tw_1049 : (Jvm.Cond.code ({ cls := "FoundryNineModel", name := "passTo", desc := "(I)I" } : Jvm.MethodName) prog_7_method_46_code (6 : Nat) (Option.some Jvm.ClassFile.FieldType.int)) ∈ lw_tbl := in_t5 (List.mem_of_getElem? (i := 89) rfl)
theorem tw_1050 : (Jvm.Cond.methodLink "FoundryNineModel" (167 : Nat) ({ cls := "FoundryNineModel", name := "nextLine", desc := "()I" } : Jvm.MethodName)) ∈ lw_tbl := List.mem_of_getElem? (i := 1117) (by decide +kernel)
theorem tw_1051 : (Jvm.Cond.privateMethod ({ cls := "FoundryNineModel", name := "nextLine", desc := "()I" } : Jvm.MethodName)) ∈ lw_tbl := List.mem_of_getElem? (i := 1118) (by decide +kernel)
theorem tw_1052 : (Jvm.Cond.instanceMethod ({ cls := "FoundryNineModel", name := "nextLine", desc := "()I" } : Jvm.MethodName)) ∈ lw_tbl := List.mem_of_getElem? (i := 1119) (by decide +kernel)
set_option maxRecDepth 20000 in
theorem tw_1053 : (Jvm.Cond.code ({ cls := "FoundryNineModel", name := "nextLine", desc := "()I" } : Jvm.MethodName) prog_7_method_45_code (3 : Nat) (Option.some Jvm.ClassFile.FieldType.int)) ∈ lw_tbl := in_t5 (List.mem_of_getElem? (i := 93) rfl)
theorem tw_1054 : (Jvm.Cond.methodLink "FoundryNineLaw" (147 : Nat) ({ cls := "FoundryNineModel", name := "settle", desc := "()I" } : Jvm.MethodName)) ∈ lw_tbl := List.mem_of_getElem? (i := 1121) (by decide +kernel)
theorem tw_1055 : (Jvm.Cond.instanceMethod ({ cls := "FoundryNineModel", name := "settle", desc := "()I" } : Jvm.MethodName)) ∈ lw_tbl := List.mem_of_getElem? (i := 1122) (by decide +kernel)
theorem tw_1056 : (Jvm.Cond.selects "FoundryNineModel" ({ cls := "FoundryNineModel", name := "settle", desc := "()I" } : Jvm.MethodName) ({ cls := "FoundryNineModel", name := "settle", desc := "()I" } : Jvm.MethodName)) ∈ lw_tbl := List.mem_of_getElem? (i := 1123) (by decide +kernel)
set_option maxRecDepth 20000 in
theorem tw_1057 : (Jvm.Cond.code ({ cls := "FoundryNineModel", name := "settle", desc := "()I" } : Jvm.MethodName) prog_7_method_56_code (1 : Nat) (Option.some Jvm.ClassFile.FieldType.int)) ∈ lw_tbl := in_t5 (List.mem_of_getElem? (i := 97) rfl)
theorem tw_1058 : (Jvm.Cond.methodLink "FoundryNineModel" (195 : Nat) ({ cls := "FoundryNineModel", name := "settleNow", desc := "()I" } : Jvm.MethodName)) ∈ lw_tbl := List.mem_of_getElem? (i := 1125) (by decide +kernel)
theorem tw_1059 : (Jvm.Cond.privateMethod ({ cls := "FoundryNineModel", name := "settleNow", desc := "()I" } : Jvm.MethodName)) ∈ lw_tbl := List.mem_of_getElem? (i := 1126) (by decide +kernel)
theorem tw_1060 : (Jvm.Cond.instanceMethod ({ cls := "FoundryNineModel", name := "settleNow", desc := "()I" } : Jvm.MethodName)) ∈ lw_tbl := List.mem_of_getElem? (i := 1127) (by decide +kernel)
set_option maxRecDepth 20000 in
theorem tw_1061 : (Jvm.Cond.code ({ cls := "FoundryNineModel", name := "settleNow", desc := "()I" } : Jvm.MethodName) prog_7_method_48_code (4 : Nat) (Option.some Jvm.ClassFile.FieldType.int)) ∈ lw_tbl := in_t5 (List.mem_of_getElem? (i := 101) rfl)
theorem tw_1062 : (Jvm.Cond.constant "FoundryNineModel" (175 : Nat) (2147483647 : Int32)) ∈ lw_tbl := List.mem_of_getElem? (i := 1129) (by decide +kernel)
theorem tw_1063 : (Jvm.Cond.methodLink "FoundryNineLaw" (152 : Nat) ({ cls := "FoundryNineModel", name := "isRunning", desc := "()Z" } : Jvm.MethodName)) ∈ lw_tbl := List.mem_of_getElem? (i := 1130) (by decide +kernel)
theorem tw_1064 : (Jvm.Cond.instanceMethod ({ cls := "FoundryNineModel", name := "isRunning", desc := "()Z" } : Jvm.MethodName)) ∈ lw_tbl := List.mem_of_getElem? (i := 1131) (by decide +kernel)
theorem tw_1065 : (Jvm.Cond.selects "FoundryNineModel" ({ cls := "FoundryNineModel", name := "isRunning", desc := "()Z" } : Jvm.MethodName) ({ cls := "FoundryNineModel", name := "isRunning", desc := "()Z" } : Jvm.MethodName)) ∈ lw_tbl := List.mem_of_getElem? (i := 1132) (by decide +kernel)
set_option maxRecDepth 20000 in
theorem tw_1066 : (Jvm.Cond.code ({ cls := "FoundryNineModel", name := "isRunning", desc := "()Z" } : Jvm.MethodName) prog_7_method_57_code (1 : Nat) (Option.some Jvm.ClassFile.FieldType.boolean)) ∈ lw_tbl := in_t5 (List.mem_of_getElem? (i := 106) rfl)
theorem tw_1067 : (Jvm.Cond.methodLink "FoundryNineLaw" (155 : Nat) ({ cls := "FoundryNineModel", name := "told", desc := "(I)I" } : Jvm.MethodName)) ∈ lw_tbl := List.mem_of_getElem? (i := 1134) (by decide +kernel)
theorem tw_1068 : (Jvm.Cond.instanceMethod ({ cls := "FoundryNineModel", name := "told", desc := "(I)I" } : Jvm.MethodName)) ∈ lw_tbl := List.mem_of_getElem? (i := 1135) (by decide +kernel)
theorem tw_1069 : (Jvm.Cond.selects "FoundryNineModel" ({ cls := "FoundryNineModel", name := "told", desc := "(I)I" } : Jvm.MethodName) ({ cls := "FoundryNineModel", name := "told", desc := "(I)I" } : Jvm.MethodName)) ∈ lw_tbl := List.mem_of_getElem? (i := 1136) (by decide +kernel)
set_option maxRecDepth 20000 in
theorem tw_1070 : (Jvm.Cond.code ({ cls := "FoundryNineModel", name := "told", desc := "(I)I" } : Jvm.MethodName) prog_7_method_59_code (2 : Nat) (Option.some Jvm.ClassFile.FieldType.int)) ∈ lw_tbl := in_t5 (List.mem_of_getElem? (i := 110) rfl)
theorem tw_1071 : (Jvm.Cond.methodLink "FoundryNineModel" (198 : Nat) ({ cls := "FoundryNineModel", name := "toldNow", desc := "(I)I" } : Jvm.MethodName)) ∈ lw_tbl := List.mem_of_getElem? (i := 1138) (by decide +kernel)
theorem tw_1072 : (Jvm.Cond.privateMethod ({ cls := "FoundryNineModel", name := "toldNow", desc := "(I)I" } : Jvm.MethodName)) ∈ lw_tbl := List.mem_of_getElem? (i := 1139) (by decide +kernel)
theorem tw_1073 : (Jvm.Cond.instanceMethod ({ cls := "FoundryNineModel", name := "toldNow", desc := "(I)I" } : Jvm.MethodName)) ∈ lw_tbl := List.mem_of_getElem? (i := 1140) (by decide +kernel)
set_option maxRecDepth 20000 in
theorem tw_1074 : (Jvm.Cond.code ({ cls := "FoundryNineModel", name := "toldNow", desc := "(I)I" } : Jvm.MethodName) prog_7_method_58_code (2 : Nat) (Option.some Jvm.ClassFile.FieldType.int)) ∈ lw_tbl := in_t5 (List.mem_of_getElem? (i := 114) rfl)
theorem tw_1075 : (Jvm.Cond.methodLink "FoundryNineLaw" (158 : Nat) ({ cls := "FoundryNineModel", name := "ofWire", desc := "(II)I" } : Jvm.MethodName)) ∈ lw_tbl := List.mem_of_getElem? (i := 1142) (by decide +kernel)
theorem tw_1076 : (Jvm.Cond.instanceMethod ({ cls := "FoundryNineModel", name := "ofWire", desc := "(II)I" } : Jvm.MethodName)) ∈ lw_tbl := List.mem_of_getElem? (i := 1143) (by decide +kernel)
theorem tw_1077 : (Jvm.Cond.selects "FoundryNineModel" ({ cls := "FoundryNineModel", name := "ofWire", desc := "(II)I" } : Jvm.MethodName) ({ cls := "FoundryNineModel", name := "ofWire", desc := "(II)I" } : Jvm.MethodName)) ∈ lw_tbl := List.mem_of_getElem? (i := 1144) (by decide +kernel)
set_option maxRecDepth 20000 in
theorem tw_1078 : (Jvm.Cond.code ({ cls := "FoundryNineModel", name := "ofWire", desc := "(II)I" } : Jvm.MethodName) prog_7_method_60_code (3 : Nat) (Option.some Jvm.ClassFile.FieldType.int)) ∈ lw_tbl := in_t5 (List.mem_of_getElem? (i := 118) rfl)
theorem tw_1079 : (Jvm.Cond.methodLink "FoundryNineLaw" (161 : Nat) ({ cls := "FoundryNineModel", name := "pending", desc := "(I)I" } : Jvm.MethodName)) ∈ lw_tbl := List.mem_of_getElem? (i := 1146) (by decide +kernel)
theorem tw_1080 : (Jvm.Cond.instanceMethod ({ cls := "FoundryNineModel", name := "pending", desc := "(I)I" } : Jvm.MethodName)) ∈ lw_tbl := List.mem_of_getElem? (i := 1147) (by decide +kernel)
theorem tw_1081 : (Jvm.Cond.selects "FoundryNineModel" ({ cls := "FoundryNineModel", name := "pending", desc := "(I)I" } : Jvm.MethodName) ({ cls := "FoundryNineModel", name := "pending", desc := "(I)I" } : Jvm.MethodName)) ∈ lw_tbl := List.mem_of_getElem? (i := 1148) (by decide +kernel)
set_option maxRecDepth 20000 in
theorem tw_1082 : (Jvm.Cond.code ({ cls := "FoundryNineModel", name := "pending", desc := "(I)I" } : Jvm.MethodName) prog_7_method_61_code (2 : Nat) (Option.some Jvm.ClassFile.FieldType.int)) ∈ lw_tbl := in_t5 (List.mem_of_getElem? (i := 122) rfl)
theorem tw_1083 : (Jvm.Cond.methodLink "FoundryNineLaw" (165 : Nat) ({ cls := "FoundryNineModel", name := "hazards", desc := "()I" } : Jvm.MethodName)) ∈ lw_tbl := List.mem_of_getElem? (i := 1150) (by decide +kernel)
theorem tw_1084 : (Jvm.Cond.instanceMethod ({ cls := "FoundryNineModel", name := "hazards", desc := "()I" } : Jvm.MethodName)) ∈ lw_tbl := List.mem_of_getElem? (i := 1151) (by decide +kernel)
theorem tw_1085 : (Jvm.Cond.selects "FoundryNineModel" ({ cls := "FoundryNineModel", name := "hazards", desc := "()I" } : Jvm.MethodName) ({ cls := "FoundryNineModel", name := "hazards", desc := "()I" } : Jvm.MethodName)) ∈ lw_tbl := List.mem_of_getElem? (i := 1152) (by decide +kernel)
set_option maxRecDepth 20000 in
theorem tw_1086 : (Jvm.Cond.code ({ cls := "FoundryNineModel", name := "hazards", desc := "()I" } : Jvm.MethodName) prog_7_method_62_code (1 : Nat) (Option.some Jvm.ClassFile.FieldType.int)) ∈ lw_tbl := in_t5 (List.mem_of_getElem? (i := 126) rfl)
theorem tw_1087 : (Jvm.Cond.methodLink "FoundryNineLaw" (168 : Nat) ({ cls := "FoundryNineModel", name := "ofHazard", desc := "(II)I" } : Jvm.MethodName)) ∈ lw_tbl := List.mem_of_getElem? (i := 1154) (by decide +kernel)
theorem tw_1088 : (Jvm.Cond.instanceMethod ({ cls := "FoundryNineModel", name := "ofHazard", desc := "(II)I" } : Jvm.MethodName)) ∈ lw_tbl := List.mem_of_getElem? (i := 1155) (by decide +kernel)
theorem tw_1089 : (Jvm.Cond.selects "FoundryNineModel" ({ cls := "FoundryNineModel", name := "ofHazard", desc := "(II)I" } : Jvm.MethodName) ({ cls := "FoundryNineModel", name := "ofHazard", desc := "(II)I" } : Jvm.MethodName)) ∈ lw_tbl := List.mem_of_getElem? (i := 1156) (by decide +kernel)
set_option maxRecDepth 20000 in
theorem tw_1090 : (Jvm.Cond.code ({ cls := "FoundryNineModel", name := "ofHazard", desc := "(II)I" } : Jvm.MethodName) prog_7_method_63_code (3 : Nat) (Option.some Jvm.ClassFile.FieldType.int)) ∈ lw_tbl := in_t5 (List.mem_of_getElem? (i := 130) rfl)
theorem tw_1091 : (Jvm.Cond.methodLink "FoundryNineLaw" (171 : Nat) ({ cls := "FoundryNineModel", name := "wouldBe", desc := "(III)I" } : Jvm.MethodName)) ∈ lw_tbl := List.mem_of_getElem? (i := 1158) (by decide +kernel)
theorem tw_1092 : (Jvm.Cond.instanceMethod ({ cls := "FoundryNineModel", name := "wouldBe", desc := "(III)I" } : Jvm.MethodName)) ∈ lw_tbl := List.mem_of_getElem? (i := 1159) (by decide +kernel)
theorem tw_1093 : (Jvm.Cond.selects "FoundryNineModel" ({ cls := "FoundryNineModel", name := "wouldBe", desc := "(III)I" } : Jvm.MethodName) ({ cls := "FoundryNineModel", name := "wouldBe", desc := "(III)I" } : Jvm.MethodName)) ∈ lw_tbl := List.mem_of_getElem? (i := 1160) (by decide +kernel)
set_option maxRecDepth 20000 in
theorem tw_1094 : (Jvm.Cond.code ({ cls := "FoundryNineModel", name := "wouldBe", desc := "(III)I" } : Jvm.MethodName) prog_7_method_65_code (6 : Nat) (Option.some Jvm.ClassFile.FieldType.int)) ∈ lw_tbl := in_t5 (List.mem_of_getElem? (i := 134) rfl)
theorem tw_1095 : (Jvm.Cond.methodLink "FoundryNineModel" (207 : Nat) ({ cls := "FoundryNineModel", name := "putBy", desc := "()[I" } : Jvm.MethodName)) ∈ lw_tbl := List.mem_of_getElem? (i := 1162) (by decide +kernel)
theorem tw_1096 : (Jvm.Cond.privateMethod ({ cls := "FoundryNineModel", name := "putBy", desc := "()[I" } : Jvm.MethodName)) ∈ lw_tbl := List.mem_of_getElem? (i := 1163) (by decide +kernel)
theorem tw_1097 : (Jvm.Cond.instanceMethod ({ cls := "FoundryNineModel", name := "putBy", desc := "()[I" } : Jvm.MethodName)) ∈ lw_tbl := List.mem_of_getElem? (i := 1164) (by decide +kernel)
set_option maxRecDepth 20000 in
theorem tw_1098 : (Jvm.Cond.code ({ cls := "FoundryNineModel", name := "putBy", desc := "()[I" } : Jvm.MethodName) prog_7_method_64_code (2 : Nat) (Option.some (Jvm.ClassFile.FieldType.array Jvm.ClassFile.FieldType.int))) ∈ lw_tbl := in_t5 (List.mem_of_getElem? (i := 138) rfl)
theorem tw_1099 : (Jvm.Cond.methodLink "FoundryNineModel" (201 : Nat) ({ cls := "java/lang/System", name := "arraycopy", desc := "(Ljava/lang/Object;ILjava/lang/Object;II)V" } : Jvm.MethodName)) ∈ lw_tbl := List.mem_of_getElem? (i := 1166) (by decide +kernel)
theorem tw_1100 : (Jvm.Cond.methodLink "FoundryNineLaw" (174 : Nat) ({ cls := "FoundryNineModel", name := "hazardsWith", desc := "(II)I" } : Jvm.MethodName)) ∈ lw_tbl := List.mem_of_getElem? (i := 1167) (by decide +kernel)
theorem tw_1101 : (Jvm.Cond.instanceMethod ({ cls := "FoundryNineModel", name := "hazardsWith", desc := "(II)I" } : Jvm.MethodName)) ∈ lw_tbl := List.mem_of_getElem? (i := 1168) (by decide +kernel)
theorem tw_1102 : (Jvm.Cond.selects "FoundryNineModel" ({ cls := "FoundryNineModel", name := "hazardsWith", desc := "(II)I" } : Jvm.MethodName) ({ cls := "FoundryNineModel", name := "hazardsWith", desc := "(II)I" } : Jvm.MethodName)) ∈ lw_tbl := List.mem_of_getElem? (i := 1169) (by decide +kernel)
set_option maxRecDepth 20000 in
theorem tw_1103 : (Jvm.Cond.code ({ cls := "FoundryNineModel", name := "hazardsWith", desc := "(II)I" } : Jvm.MethodName) prog_7_method_66_code (5 : Nat) (Option.some Jvm.ClassFile.FieldType.int)) ∈ lw_tbl := in_t5 (List.mem_of_getElem? (i := 143) rfl)
theorem tw_1104 : (Jvm.Cond.methodLink "FoundryNineLaw" (177 : Nat) ({ cls := "FoundryNineModel", name := "settlesIn", desc := "()I" } : Jvm.MethodName)) ∈ lw_tbl := List.mem_of_getElem? (i := 1171) (by decide +kernel)
theorem tw_1105 : (Jvm.Cond.instanceMethod ({ cls := "FoundryNineModel", name := "settlesIn", desc := "()I" } : Jvm.MethodName)) ∈ lw_tbl := List.mem_of_getElem? (i := 1172) (by decide +kernel)
theorem tw_1106 : (Jvm.Cond.selects "FoundryNineModel" ({ cls := "FoundryNineModel", name := "settlesIn", desc := "()I" } : Jvm.MethodName) ({ cls := "FoundryNineModel", name := "settlesIn", desc := "()I" } : Jvm.MethodName)) ∈ lw_tbl := List.mem_of_getElem? (i := 1173) (by decide +kernel)
set_option maxRecDepth 20000 in
theorem tw_1107 : (Jvm.Cond.code ({ cls := "FoundryNineModel", name := "settlesIn", desc := "()I" } : Jvm.MethodName) prog_7_method_68_code (1 : Nat) (Option.some Jvm.ClassFile.FieldType.int)) ∈ lw_tbl := in_t5 (List.mem_of_getElem? (i := 147) rfl)
theorem tw_1108 : (Jvm.Cond.methodLink "FoundryNineModel" (211 : Nat) ({ cls := "FoundryNineModel", name := "settlesNow", desc := "()I" } : Jvm.MethodName)) ∈ lw_tbl := List.mem_of_getElem? (i := 1175) (by decide +kernel)
theorem tw_1109 : (Jvm.Cond.privateMethod ({ cls := "FoundryNineModel", name := "settlesNow", desc := "()I" } : Jvm.MethodName)) ∈ lw_tbl := List.mem_of_getElem? (i := 1176) (by decide +kernel)
theorem tw_1110 : (Jvm.Cond.instanceMethod ({ cls := "FoundryNineModel", name := "settlesNow", desc := "()I" } : Jvm.MethodName)) ∈ lw_tbl := List.mem_of_getElem? (i := 1177) (by decide +kernel)
set_option maxRecDepth 20000 in
theorem tw_1111 : (Jvm.Cond.code ({ cls := "FoundryNineModel", name := "settlesNow", desc := "()I" } : Jvm.MethodName) prog_7_method_67_code (3 : Nat) (Option.some Jvm.ClassFile.FieldType.int)) ∈ lw_tbl := in_t5 (List.mem_of_getElem? (i := 151) rfl)
theorem tw_1112 : (Jvm.Cond.methodLink "FoundryNineLaw" (180 : Nat) ({ cls := "FoundryNineModel", name := "longestWith", desc := "(II)I" } : Jvm.MethodName)) ∈ lw_tbl := List.mem_of_getElem? (i := 1179) (by decide +kernel)
theorem tw_1113 : (Jvm.Cond.instanceMethod ({ cls := "FoundryNineModel", name := "longestWith", desc := "(II)I" } : Jvm.MethodName)) ∈ lw_tbl := List.mem_of_getElem? (i := 1180) (by decide +kernel)
theorem tw_1114 : (Jvm.Cond.selects "FoundryNineModel" ({ cls := "FoundryNineModel", name := "longestWith", desc := "(II)I" } : Jvm.MethodName) ({ cls := "FoundryNineModel", name := "longestWith", desc := "(II)I" } : Jvm.MethodName)) ∈ lw_tbl := List.mem_of_getElem? (i := 1181) (by decide +kernel)
set_option maxRecDepth 20000 in
theorem tw_1115 : (Jvm.Cond.code ({ cls := "FoundryNineModel", name := "longestWith", desc := "(II)I" } : Jvm.MethodName) prog_7_method_69_code (5 : Nat) (Option.some Jvm.ClassFile.FieldType.int)) ∈ lw_tbl := in_t5 (List.mem_of_getElem? (i := 155) rfl)
theorem tw_1116 : (Jvm.Cond.methodLink "FoundryNineLaw" (185 : Nat) ({ cls := "FoundryNineModel", name := "meanArrival", desc := "()D" } : Jvm.MethodName)) ∈ lw_tbl := List.mem_of_getElem? (i := 1183) (by decide +kernel)
theorem tw_1117 : (Jvm.Cond.instanceMethod ({ cls := "FoundryNineModel", name := "meanArrival", desc := "()D" } : Jvm.MethodName)) ∈ lw_tbl := List.mem_of_getElem? (i := 1184) (by decide +kernel)
theorem tw_1118 : (Jvm.Cond.selects "FoundryNineModel" ({ cls := "FoundryNineModel", name := "meanArrival", desc := "()D" } : Jvm.MethodName) ({ cls := "FoundryNineModel", name := "meanArrival", desc := "()D" } : Jvm.MethodName)) ∈ lw_tbl := List.mem_of_getElem? (i := 1185) (by decide +kernel)
set_option maxRecDepth 20000 in
theorem tw_1119 : (Jvm.Cond.code ({ cls := "FoundryNineModel", name := "meanArrival", desc := "()D" } : Jvm.MethodName) prog_7_method_70_code (4 : Nat) (Option.some Jvm.ClassFile.FieldType.double)) ∈ lw_tbl := in_t5 (List.mem_of_getElem? (i := 159) rfl)
theorem tw_1120 : (Jvm.Cond.methodLink "FoundryNineLaw" (190 : Nat) ({ cls := "FoundryNineModel", name := "digest", desc := "()J" } : Jvm.MethodName)) ∈ lw_tbl := List.mem_of_getElem? (i := 1187) (by decide +kernel)
theorem tw_1121 : (Jvm.Cond.instanceMethod ({ cls := "FoundryNineModel", name := "digest", desc := "()J" } : Jvm.MethodName)) ∈ lw_tbl := List.mem_of_getElem? (i := 1188) (by decide +kernel)
theorem tw_1122 : (Jvm.Cond.selects "FoundryNineModel" ({ cls := "FoundryNineModel", name := "digest", desc := "()J" } : Jvm.MethodName) ({ cls := "FoundryNineModel", name := "digest", desc := "()J" } : Jvm.MethodName)) ∈ lw_tbl := List.mem_of_getElem? (i := 1189) (by decide +kernel)
set_option maxRecDepth 20000 in
theorem tw_1123 : (Jvm.Cond.code ({ cls := "FoundryNineModel", name := "digest", desc := "()J" } : Jvm.MethodName) prog_7_method_71_code (5 : Nat) (Option.some Jvm.ClassFile.FieldType.long)) ∈ lw_tbl := in_t5 (List.mem_of_getElem? (i := 163) rfl)
theorem tw_1124 : (Jvm.Cond.constantLong "FoundryNineModel" (214 : Nat) (1800170 : Int64)) ∈ lw_tbl := List.mem_of_getElem? (i := 1191) (by decide +kernel)
theorem tw_1125 : (Jvm.Cond.constantLong "FoundryNineModel" (216 : Nat) (31 : Int64)) ∈ lw_tbl := List.mem_of_getElem? (i := 1192) (by decide +kernel)
theorem tw_1126 : (Jvm.Cond.arrayClass Jvm.ClassFile.FieldType.long) ∈ lw_tbl := List.mem_of_getElem? (i := 1193) (by decide +kernel)
theorem tw_1127 : (Jvm.Cond.sameMethod "java/lang/Throwable" "java/lang/Throwable" "fillInStackTrace" "(I)Ljava/lang/Throwable;") ∈ lw_tbl := List.mem_of_getElem? (i := 1194) (by decide +kernel)
theorem ts_0 : Cond.selects "FoundryNine$Run" ⟨"FoundryNine$Run", "clear", "()V"⟩ ⟨"FoundryNine$Run", "clear", "()V"⟩ ∈ lw_tbl := List.mem_of_getElem? (i := 0) (by decide +kernel)
theorem ts_1 : Cond.selects "FoundryNine$Run" ⟨"FoundryNine$Run", "giveUpAll", "()V"⟩ ⟨"FoundryNine$Run", "giveUpAll", "()V"⟩ ∈ lw_tbl := List.mem_of_getElem? (i := 1) (by decide +kernel)
theorem ts_2 : Cond.selects "FoundryNine$Run" ⟨"FoundryNine$Run", "beginCounting", "()V"⟩ ⟨"FoundryNine$Run", "beginCounting", "()V"⟩ ∈ lw_tbl := List.mem_of_getElem? (i := 2) (by decide +kernel)
theorem ts_3 : Cond.selects "FoundryNine$Arrivals" ⟨"FoundryNine$Arrivals", "arrivalOf", "(I)I"⟩ ⟨"FoundryNine$Arrivals", "arrivalOf", "(I)I"⟩ ∈ lw_tbl := List.mem_of_getElem? (i := 3) (by decide +kernel)
theorem ts_4 : Cond.selects "FoundryNine" ⟨"FoundryNine", "digestOfTimes", "(J)J"⟩ ⟨"FoundryNine", "digestOfTimes", "(J)J"⟩ ∈ lw_tbl := List.mem_of_getElem? (i := 4) (by decide +kernel)
theorem ts_5 : Cond.selects "FoundryNine$Run" ⟨"FoundryNine$Run", "nextLine", "(I)I"⟩ ⟨"FoundryNine$Run", "nextLine", "(I)I"⟩ ∈ lw_tbl := List.mem_of_getElem? (i := 5) (by decide +kernel)
theorem ts_6 : Cond.selects "FoundryNine$Run" ⟨"FoundryNine$Run", "comesAheadOf", "(II)Z"⟩ ⟨"FoundryNine$Run", "comesAheadOf", "(II)Z"⟩ ∈ lw_tbl := List.mem_of_getElem? (i := 6) (by decide +kernel)
theorem ts_7 : Cond.selects "java/lang/Throwable" ⟨"java/lang/Throwable", "fillInStackTrace", "(I)Ljava/lang/Throwable;"⟩ ⟨"java/lang/Throwable", "fillInStackTrace", "(I)Ljava/lang/Throwable;"⟩ ∈ lw_tbl := List.mem_of_getElem? (i := 7) (by decide +kernel)
theorem ts_8 : Cond.selects "FoundryNine" ⟨"FoundryNine", "digestOfCircuit", "(J)J"⟩ ⟨"FoundryNine", "digestOfCircuit", "(J)J"⟩ ∈ lw_tbl := List.mem_of_getElem? (i := 8) (by decide +kernel)
theorem ts_9 : Cond.selects "FoundryNine" ⟨"FoundryNine", "digestOfWires", "(J)J"⟩ ⟨"FoundryNine", "digestOfWires", "(J)J"⟩ ∈ lw_tbl := List.mem_of_getElem? (i := 9) (by decide +kernel)
theorem ts_10 : Cond.selects "FoundryNine" ⟨"FoundryNine", "digestOfRun", "(J)J"⟩ ⟨"FoundryNine", "digestOfRun", "(J)J"⟩ ∈ lw_tbl := List.mem_of_getElem? (i := 10) (by decide +kernel)
theorem ts_11 : Cond.selects "FoundryNine" ⟨"FoundryNine", "checkLine", "(I)V"⟩ ⟨"FoundryNine", "checkLine", "(I)V"⟩ ∈ lw_tbl := List.mem_of_getElem? (i := 11) (by decide +kernel)
theorem ts_12 : Cond.selects "FoundryNine" ⟨"FoundryNine", "checkRunning", "()V"⟩ ⟨"FoundryNine", "checkRunning", "()V"⟩ ∈ lw_tbl := List.mem_of_getElem? (i := 12) (by decide +kernel)
theorem ts_13 : Cond.selects "FoundryNine$Run" ⟨"FoundryNine$Run", "change", "(II)V"⟩ ⟨"FoundryNine$Run", "change", "(II)V"⟩ ∈ lw_tbl := List.mem_of_getElem? (i := 13) (by decide +kernel)
theorem ts_14 : Cond.selects "FoundryNine$Run" ⟨"FoundryNine$Run", "askRegister", "(III)V"⟩ ⟨"FoundryNine$Run", "askRegister", "(III)V"⟩ ∈ lw_tbl := List.mem_of_getElem? (i := 14) (by decide +kernel)
theorem ts_15 : Cond.selects "FoundryNine$Run" ⟨"FoundryNine$Run", "valueOf", "(I)I"⟩ ⟨"FoundryNine$Run", "valueOf", "(I)I"⟩ ∈ lw_tbl := List.mem_of_getElem? (i := 15) (by decide +kernel)
theorem ts_16 : Cond.selects "FoundryNine$Run" ⟨"FoundryNine$Run", "makePending", "(II)V"⟩ ⟨"FoundryNine$Run", "makePending", "(II)V"⟩ ∈ lw_tbl := List.mem_of_getElem? (i := 16) (by decide +kernel)
theorem ts_17 : Cond.selects "FoundryNine$Run" ⟨"FoundryNine$Run", "rise", "(I)V"⟩ ⟨"FoundryNine$Run", "rise", "(I)V"⟩ ∈ lw_tbl := List.mem_of_getElem? (i := 17) (by decide +kernel)
theorem ts_18 : Cond.selects "FoundryNine$Run" ⟨"FoundryNine$Run", "isRecent", "(II)Z"⟩ ⟨"FoundryNine$Run", "isRecent", "(II)Z"⟩ ∈ lw_tbl := List.mem_of_getElem? (i := 18) (by decide +kernel)
theorem ts_19 : Cond.selects "FoundryNine$Run" ⟨"FoundryNine$Run", "noteHazard", "(II)V"⟩ ⟨"FoundryNine$Run", "noteHazard", "(II)V"⟩ ∈ lw_tbl := List.mem_of_getElem? (i := 19) (by decide +kernel)
theorem ts_20 : Cond.selects "FoundryNine$Run" ⟨"FoundryNine$Run", "askGate", "(I)V"⟩ ⟨"FoundryNine$Run", "askGate", "(I)V"⟩ ∈ lw_tbl := List.mem_of_getElem? (i := 20) (by decide +kernel)
theorem ts_21 : Cond.selects "FoundryNine" ⟨"FoundryNine", "checkRoom", "()V"⟩ ⟨"FoundryNine", "checkRoom", "()V"⟩ ∈ lw_tbl := List.mem_of_getElem? (i := 21) (by decide +kernel)
theorem ts_22 : Cond.selects "FoundryNine" ⟨"FoundryNine", "addLine", "(IIIIII)I"⟩ ⟨"FoundryNine", "addLine", "(IIIIII)I"⟩ ∈ lw_tbl := List.mem_of_getElem? (i := 22) (by decide +kernel)
theorem ts_23 : Cond.selects "FoundryNine$Circuit" ⟨"FoundryNine$Circuit", "noteUse", "(II)V"⟩ ⟨"FoundryNine$Circuit", "noteUse", "(II)V"⟩ ∈ lw_tbl := List.mem_of_getElem? (i := 23) (by decide +kernel)
theorem ts_24 : Cond.selects "FoundryNine$Flaws" ⟨"FoundryNine$Flaws", "note", "(II)V"⟩ ⟨"FoundryNine$Flaws", "note", "(II)V"⟩ ∈ lw_tbl := List.mem_of_getElem? (i := 24) (by decide +kernel)
theorem ts_25 : Cond.selects "FoundryNine$Flaws" ⟨"FoundryNine$Flaws", "findReach", "(LFoundryNine$Circuit;)V"⟩ ⟨"FoundryNine$Flaws", "findReach", "(LFoundryNine$Circuit;)V"⟩ ∈ lw_tbl := List.mem_of_getElem? (i := 25) (by decide +kernel)
theorem ts_26 : Cond.selects "FoundryNine$Flaws" ⟨"FoundryNine$Flaws", "reachOf", "(I)I"⟩ ⟨"FoundryNine$Flaws", "reachOf", "(I)I"⟩ ∈ lw_tbl := List.mem_of_getElem? (i := 26) (by decide +kernel)
theorem ts_27 : Cond.selects "FoundryNine$Arrivals" ⟨"FoundryNine$Arrivals", "arrivalBy", "(LFoundryNine$Circuit;LFoundryNine$Flaws;II)I"⟩ ⟨"FoundryNine$Arrivals", "arrivalBy", "(LFoundryNine$Circuit;LFoundryNine$Flaws;II)I"⟩ ∈ lw_tbl := List.mem_of_getElem? (i := 27) (by decide +kernel)
theorem ts_28 : Cond.selects "FoundryNine" ⟨"FoundryNine", "checkHasDelay", "(I)V"⟩ ⟨"FoundryNine", "checkHasDelay", "(I)V"⟩ ∈ lw_tbl := List.mem_of_getElem? (i := 28) (by decide +kernel)
theorem ts_29 : Cond.selects "FoundryNine" ⟨"FoundryNine", "checkSetting", "(II)V"⟩ ⟨"FoundryNine", "checkSetting", "(II)V"⟩ ∈ lw_tbl := List.mem_of_getElem? (i := 29) (by decide +kernel)
theorem ts_30 : Cond.selects "FoundryNine$Run" ⟨"FoundryNine$Run", "noteHazardsOfGates", "()V"⟩ ⟨"FoundryNine$Run", "noteHazardsOfGates", "()V"⟩ ∈ lw_tbl := List.mem_of_getElem? (i := 30) (by decide +kernel)
theorem ts_31 : Cond.selects "FoundryNineModel" ⟨"FoundryNineModel", "clear", "()V"⟩ ⟨"FoundryNineModel", "clear", "()V"⟩ ∈ lw_tbl := List.mem_of_getElem? (i := 31) (by decide +kernel)
theorem ts_32 : Cond.selects "FoundryNineModel" ⟨"FoundryNineModel", "no", "(I)I"⟩ ⟨"FoundryNineModel", "no", "(I)I"⟩ ∈ lw_tbl := List.mem_of_getElem? (i := 32) (by decide +kernel)
theorem ts_33 : Cond.selects "FoundryNineModel" ⟨"FoundryNineModel", "add", "(IIIIII)I"⟩ ⟨"FoundryNineModel", "add", "(IIIIII)I"⟩ ∈ lw_tbl := List.mem_of_getElem? (i := 33) (by decide +kernel)
theorem ts_34 : Cond.selects "FoundryNineModel" ⟨"FoundryNineModel", "isLine", "(I)Z"⟩ ⟨"FoundryNineModel", "isLine", "(I)Z"⟩ ∈ lw_tbl := List.mem_of_getElem? (i := 34) (by decide +kernel)
theorem ts_35 : Cond.selects "FoundryNineModel" ⟨"FoundryNineModel", "ok", "(I)I"⟩ ⟨"FoundryNineModel", "ok", "(I)I"⟩ ∈ lw_tbl := List.mem_of_getElem? (i := 35) (by decide +kernel)
theorem ts_36 : Cond.selects "FoundryNineModel" ⟨"FoundryNineModel", "noteFlaws", "()V"⟩ ⟨"FoundryNineModel", "noteFlaws", "()V"⟩ ∈ lw_tbl := List.mem_of_getElem? (i := 36) (by decide +kernel)
theorem ts_37 : Cond.selects "FoundryNineModel" ⟨"FoundryNineModel", "note", "(II)V"⟩ ⟨"FoundryNineModel", "note", "(II)V"⟩ ∈ lw_tbl := List.mem_of_getElem? (i := 37) (by decide +kernel)
theorem ts_38 : Cond.selects "FoundryNineModel" ⟨"FoundryNineModel", "usersNow", "(I)I"⟩ ⟨"FoundryNineModel", "usersNow", "(I)I"⟩ ∈ lw_tbl := List.mem_of_getElem? (i := 38) (by decide +kernel)
theorem ts_39 : Cond.selects "FoundryNineModel" ⟨"FoundryNineModel", "uses", "(II)Z"⟩ ⟨"FoundryNineModel", "uses", "(II)Z"⟩ ∈ lw_tbl := List.mem_of_getElem? (i := 39) (by decide +kernel)
theorem ts_40 : Cond.selects "FoundryNineModel" ⟨"FoundryNineModel", "isGate", "(I)Z"⟩ ⟨"FoundryNineModel", "isGate", "(I)Z"⟩ ∈ lw_tbl := List.mem_of_getElem? (i := 40) (by decide +kernel)
theorem ts_41 : Cond.selects "FoundryNineModel" ⟨"FoundryNineModel", "isInRing", "(I)Z"⟩ ⟨"FoundryNineModel", "isInRing", "(I)Z"⟩ ∈ lw_tbl := List.mem_of_getElem? (i := 41) (by decide +kernel)
theorem ts_42 : Cond.selects "FoundryNineModel" ⟨"FoundryNineModel", "usesAny", "(I[Z)Z"⟩ ⟨"FoundryNineModel", "usesAny", "(I[Z)Z"⟩ ∈ lw_tbl := List.mem_of_getElem? (i := 42) (by decide +kernel)
theorem ts_43 : Cond.selects "FoundryNineModel" ⟨"FoundryNineModel", "tellArrivals", "()V"⟩ ⟨"FoundryNineModel", "tellArrivals", "()V"⟩ ∈ lw_tbl := List.mem_of_getElem? (i := 43) (by decide +kernel)
theorem ts_44 : Cond.selects "FoundryNineModel" ⟨"FoundryNineModel", "tellArrival", "(I)I"⟩ ⟨"FoundryNineModel", "tellArrival", "(I)I"⟩ ∈ lw_tbl := List.mem_of_getElem? (i := 44) (by decide +kernel)
theorem ts_45 : Cond.selects "FoundryNineModel" ⟨"FoundryNineModel", "driver", "(I)I"⟩ ⟨"FoundryNineModel", "driver", "(I)I"⟩ ∈ lw_tbl := List.mem_of_getElem? (i := 45) (by decide +kernel)
theorem ts_46 : Cond.selects "FoundryNineModel" ⟨"FoundryNineModel", "behind", "(II)I"⟩ ⟨"FoundryNineModel", "behind", "(II)I"⟩ ∈ lw_tbl := List.mem_of_getElem? (i := 46) (by decide +kernel)
theorem ts_47 : Cond.selects "FoundryNineModel" ⟨"FoundryNineModel", "longestNow", "()I"⟩ ⟨"FoundryNineModel", "longestNow", "()I"⟩ ∈ lw_tbl := List.mem_of_getElem? (i := 47) (by decide +kernel)
theorem ts_48 : Cond.selects "FoundryNineModel" ⟨"FoundryNineModel", "wayNow", "(I)I"⟩ ⟨"FoundryNineModel", "wayNow", "(I)I"⟩ ∈ lw_tbl := List.mem_of_getElem? (i := 48) (by decide +kernel)
theorem ts_49 : Cond.selects "FoundryNineModel" ⟨"FoundryNineModel", "change", "(II)V"⟩ ⟨"FoundryNineModel", "change", "(II)V"⟩ ∈ lw_tbl := List.mem_of_getElem? (i := 49) (by decide +kernel)
theorem ts_50 : Cond.selects "FoundryNineModel" ⟨"FoundryNineModel", "valueOf", "(I)I"⟩ ⟨"FoundryNineModel", "valueOf", "(I)I"⟩ ∈ lw_tbl := List.mem_of_getElem? (i := 50) (by decide +kernel)
theorem ts_51 : Cond.selects "FoundryNineModel" ⟨"FoundryNineModel", "askGate", "(I)V"⟩ ⟨"FoundryNineModel", "askGate", "(I)V"⟩ ∈ lw_tbl := List.mem_of_getElem? (i := 51) (by decide +kernel)
theorem ts_52 : Cond.selects "FoundryNineModel" ⟨"FoundryNineModel", "reckon", "(I)I"⟩ ⟨"FoundryNineModel", "reckon", "(I)I"⟩ ∈ lw_tbl := List.mem_of_getElem? (i := 52) (by decide +kernel)
theorem ts_53 : Cond.selects "FoundryNineModel" ⟨"FoundryNineModel", "pend", "(II)V"⟩ ⟨"FoundryNineModel", "pend", "(II)V"⟩ ∈ lw_tbl := List.mem_of_getElem? (i := 53) (by decide +kernel)
theorem ts_54 : Cond.selects "FoundryNineModel" ⟨"FoundryNineModel", "askRegister", "(III)V"⟩ ⟨"FoundryNineModel", "askRegister", "(III)V"⟩ ∈ lw_tbl := List.mem_of_getElem? (i := 54) (by decide +kernel)
theorem ts_55 : Cond.selects "FoundryNineModel" ⟨"FoundryNineModel", "noteHazard", "(II)V"⟩ ⟨"FoundryNineModel", "noteHazard", "(II)V"⟩ ∈ lw_tbl := List.mem_of_getElem? (i := 55) (by decide +kernel)
theorem ts_56 : Cond.selects "FoundryNineModel" ⟨"FoundryNineModel", "pendingLines", "()I"⟩ ⟨"FoundryNineModel", "pendingLines", "()I"⟩ ∈ lw_tbl := List.mem_of_getElem? (i := 56) (by decide +kernel)
theorem ts_57 : Cond.selects "FoundryNineModel" ⟨"FoundryNineModel", "asked", "(III)I"⟩ ⟨"FoundryNineModel", "asked", "(III)I"⟩ ∈ lw_tbl := List.mem_of_getElem? (i := 57) (by decide +kernel)
theorem ts_58 : Cond.selects "FoundryNineModel" ⟨"FoundryNineModel", "isInput", "(I)Z"⟩ ⟨"FoundryNineModel", "isInput", "(I)Z"⟩ ∈ lw_tbl := List.mem_of_getElem? (i := 58) (by decide +kernel)
theorem ts_59 : Cond.selects "FoundryNineModel" ⟨"FoundryNineModel", "setNow", "(II)I"⟩ ⟨"FoundryNineModel", "setNow", "(II)I"⟩ ∈ lw_tbl := List.mem_of_getElem? (i := 59) (by decide +kernel)
theorem ts_60 : Cond.selects "FoundryNineModel" ⟨"FoundryNineModel", "beginCounting", "()V"⟩ ⟨"FoundryNineModel", "beginCounting", "()V"⟩ ∈ lw_tbl := List.mem_of_getElem? (i := 60) (by decide +kernel)
theorem ts_61 : Cond.selects "FoundryNineModel" ⟨"FoundryNineModel", "passTo", "(I)I"⟩ ⟨"FoundryNineModel", "passTo", "(I)I"⟩ ∈ lw_tbl := List.mem_of_getElem? (i := 61) (by decide +kernel)
theorem ts_62 : Cond.selects "FoundryNineModel" ⟨"FoundryNineModel", "nextLine", "()I"⟩ ⟨"FoundryNineModel", "nextLine", "()I"⟩ ∈ lw_tbl := List.mem_of_getElem? (i := 62) (by decide +kernel)
theorem ts_63 : Cond.selects "FoundryNineModel" ⟨"FoundryNineModel", "settleNow", "()I"⟩ ⟨"FoundryNineModel", "settleNow", "()I"⟩ ∈ lw_tbl := List.mem_of_getElem? (i := 63) (by decide +kernel)
theorem ts_64 : Cond.selects "FoundryNineModel" ⟨"FoundryNineModel", "toldNow", "(I)I"⟩ ⟨"FoundryNineModel", "toldNow", "(I)I"⟩ ∈ lw_tbl := List.mem_of_getElem? (i := 64) (by decide +kernel)
theorem ts_65 : Cond.selects "FoundryNineModel" ⟨"FoundryNineModel", "putBy", "()[I"⟩ ⟨"FoundryNineModel", "putBy", "()[I"⟩ ∈ lw_tbl := List.mem_of_getElem? (i := 65) (by decide +kernel)
theorem ts_66 : Cond.selects "FoundryNineModel" ⟨"FoundryNineModel", "settlesNow", "()I"⟩ ⟨"FoundryNineModel", "settlesNow", "()I"⟩ ∈ lw_tbl := List.mem_of_getElem? (i := 66) (by decide +kernel)
end

section
-- ===== PART A: goes FIRST, ahead of the names: the tables' words, and 'selects' of the private methods out of them =====
/-- a private method of a class that the tables say can be made, by its rows of tables_1 -/
def lw_okq (q : MethodName × Nat) : Prop := (q.1.cls ≠ "java/lang/invoke/MethodHandle" ∧ q.1.cls ≠ "java/lang/invoke/VarHandle") ∧ Cond.instantiable q.1.cls q.2 ∈ tables_1 ∧ Cond.privateMethod q.1 ∈ tables_1 ∧ Cond.instanceMethod q.1 ∈ tables_1
theorem lw_p0 : lw_okq (⟨"java/lang/Throwable", "fillInStackTrace", "(I)Ljava/lang/Throwable;"⟩, 6) := ⟨⟨by decide +kernel, by decide +kernel⟩, List.mem_of_getElem? (i := 68) (by decide +kernel), List.mem_of_getElem? (i := 66) (by decide +kernel), List.mem_of_getElem? (i := 67) (by decide +kernel)⟩
theorem lw_p1 : lw_okq (⟨"FoundryNine$Arrivals", "arrivalOf", "(I)I"⟩, 1) := ⟨⟨by decide +kernel, by decide +kernel⟩, List.mem_of_getElem? (i := 132) (by decide +kernel), List.mem_of_getElem? (i := 130) (by decide +kernel), List.mem_of_getElem? (i := 131) (by decide +kernel)⟩
theorem lw_p2 : lw_okq (⟨"FoundryNine", "checkRunning", "()V"⟩, 7) := ⟨⟨by decide +kernel, by decide +kernel⟩, List.mem_of_getElem? (i := 142) (by decide +kernel), List.mem_of_getElem? (i := 140) (by decide +kernel), List.mem_of_getElem? (i := 141) (by decide +kernel)⟩
theorem lw_p3 : lw_okq (⟨"FoundryNine", "checkSetting", "(II)V"⟩, 7) := ⟨⟨by decide +kernel, by decide +kernel⟩, List.mem_of_getElem? (i := 142) (by decide +kernel), List.mem_of_getElem? (i := 161) (by decide +kernel), List.mem_of_getElem? (i := 162) (by decide +kernel)⟩
theorem lw_p4 : lw_okq (⟨"FoundryNine$Run", "beginCounting", "()V"⟩, 18) := ⟨⟨by decide +kernel, by decide +kernel⟩, List.mem_of_getElem? (i := 193) (by decide +kernel), List.mem_of_getElem? (i := 191) (by decide +kernel), List.mem_of_getElem? (i := 192) (by decide +kernel)⟩
theorem lw_p5 : lw_okq (⟨"FoundryNine$Run", "change", "(II)V"⟩, 18) := ⟨⟨by decide +kernel, by decide +kernel⟩, List.mem_of_getElem? (i := 193) (by decide +kernel), List.mem_of_getElem? (i := 202) (by decide +kernel), List.mem_of_getElem? (i := 203) (by decide +kernel)⟩
theorem lw_p6 : lw_okq (⟨"FoundryNine$Run", "askRegister", "(III)V"⟩, 18) := ⟨⟨by decide +kernel, by decide +kernel⟩, List.mem_of_getElem? (i := 193) (by decide +kernel), List.mem_of_getElem? (i := 211) (by decide +kernel), List.mem_of_getElem? (i := 212) (by decide +kernel)⟩
theorem lw_p7 : lw_okq (⟨"FoundryNine$Run", "valueOf", "(I)I"⟩, 18) := ⟨⟨by decide +kernel, by decide +kernel⟩, List.mem_of_getElem? (i := 193) (by decide +kernel), List.mem_of_getElem? (i := 215) (by decide +kernel), List.mem_of_getElem? (i := 216) (by decide +kernel)⟩
theorem lw_p8 : lw_okq (⟨"FoundryNine$Run", "makePending", "(II)V"⟩, 18) := ⟨⟨by decide +kernel, by decide +kernel⟩, List.mem_of_getElem? (i := 193) (by decide +kernel), List.mem_of_getElem? (i := 219) (by decide +kernel), List.mem_of_getElem? (i := 220) (by decide +kernel)⟩
theorem lw_p9 : lw_okq (⟨"FoundryNine$Run", "rise", "(I)V"⟩, 18) := ⟨⟨by decide +kernel, by decide +kernel⟩, List.mem_of_getElem? (i := 193) (by decide +kernel), List.mem_of_getElem? (i := 223) (by decide +kernel), List.mem_of_getElem? (i := 224) (by decide +kernel)⟩
theorem lw_p10 : lw_okq (⟨"FoundryNine$Run", "isRecent", "(II)Z"⟩, 18) := ⟨⟨by decide +kernel, by decide +kernel⟩, List.mem_of_getElem? (i := 193) (by decide +kernel), List.mem_of_getElem? (i := 227) (by decide +kernel), List.mem_of_getElem? (i := 228) (by decide +kernel)⟩
theorem lw_p11 : lw_okq (⟨"FoundryNine$Run", "noteHazard", "(II)V"⟩, 18) := ⟨⟨by decide +kernel, by decide +kernel⟩, List.mem_of_getElem? (i := 193) (by decide +kernel), List.mem_of_getElem? (i := 231) (by decide +kernel), List.mem_of_getElem? (i := 232) (by decide +kernel)⟩
theorem lw_p12 : lw_okq (⟨"FoundryNine$Run", "askGate", "(I)V"⟩, 18) := ⟨⟨by decide +kernel, by decide +kernel⟩, List.mem_of_getElem? (i := 193) (by decide +kernel), List.mem_of_getElem? (i := 235) (by decide +kernel), List.mem_of_getElem? (i := 236) (by decide +kernel)⟩
theorem lw_p13 : lw_okq (⟨"FoundryNine$Run", "nextLine", "(I)I"⟩, 18) := ⟨⟨by decide +kernel, by decide +kernel⟩, List.mem_of_getElem? (i := 193) (by decide +kernel), List.mem_of_getElem? (i := 266) (by decide +kernel), List.mem_of_getElem? (i := 267) (by decide +kernel)⟩
theorem lw_p14 : lw_okq (⟨"FoundryNine$Run", "comesAheadOf", "(II)Z"⟩, 18) := ⟨⟨by decide +kernel, by decide +kernel⟩, List.mem_of_getElem? (i := 193) (by decide +kernel), List.mem_of_getElem? (i := 270) (by decide +kernel), List.mem_of_getElem? (i := 271) (by decide +kernel)⟩
theorem lw_p15 : lw_okq (⟨"FoundryNine$Run", "giveUpAll", "()V"⟩, 18) := ⟨⟨by decide +kernel, by decide +kernel⟩, List.mem_of_getElem? (i := 193) (by decide +kernel), List.mem_of_getElem? (i := 274) (by decide +kernel), List.mem_of_getElem? (i := 275) (by decide +kernel)⟩
def lw_privs_1 : List (MethodName × Nat) := [(⟨"java/lang/Throwable", "fillInStackTrace", "(I)Ljava/lang/Throwable;"⟩, 6), (⟨"FoundryNine$Arrivals", "arrivalOf", "(I)I"⟩, 1), (⟨"FoundryNine", "checkRunning", "()V"⟩, 7), (⟨"FoundryNine", "checkSetting", "(II)V"⟩, 7), (⟨"FoundryNine$Run", "beginCounting", "()V"⟩, 18), (⟨"FoundryNine$Run", "change", "(II)V"⟩, 18), (⟨"FoundryNine$Run", "askRegister", "(III)V"⟩, 18), (⟨"FoundryNine$Run", "valueOf", "(I)I"⟩, 18), (⟨"FoundryNine$Run", "makePending", "(II)V"⟩, 18), (⟨"FoundryNine$Run", "rise", "(I)V"⟩, 18), (⟨"FoundryNine$Run", "isRecent", "(II)Z"⟩, 18), (⟨"FoundryNine$Run", "noteHazard", "(II)V"⟩, 18), (⟨"FoundryNine$Run", "askGate", "(I)V"⟩, 18), (⟨"FoundryNine$Run", "nextLine", "(I)I"⟩, 18), (⟨"FoundryNine$Run", "comesAheadOf", "(II)Z"⟩, 18), (⟨"FoundryNine$Run", "giveUpAll", "()V"⟩, 18)]
theorem lw_r1 : ∀ q ∈ lw_privs_1, lw_okq q := List.forall_mem_cons.mpr ⟨lw_p0, List.forall_mem_cons.mpr ⟨lw_p1, List.forall_mem_cons.mpr ⟨lw_p2, List.forall_mem_cons.mpr ⟨lw_p3, List.forall_mem_cons.mpr ⟨lw_p4, List.forall_mem_cons.mpr ⟨lw_p5, List.forall_mem_cons.mpr ⟨lw_p6, List.forall_mem_cons.mpr ⟨lw_p7, List.forall_mem_cons.mpr ⟨lw_p8, List.forall_mem_cons.mpr ⟨lw_p9, List.forall_mem_cons.mpr ⟨lw_p10, List.forall_mem_cons.mpr ⟨lw_p11, List.forall_mem_cons.mpr ⟨lw_p12, List.forall_mem_cons.mpr ⟨lw_p13, List.forall_mem_cons.mpr ⟨lw_p14, List.forall_mem_cons.mpr ⟨lw_p15, fun _ h => absurd h List.not_mem_nil⟩⟩⟩⟩⟩⟩⟩⟩⟩⟩⟩⟩⟩⟩⟩⟩
theorem lw_p16 : lw_okq (⟨"FoundryNine$Run", "noteHazardsOfGates", "()V"⟩, 18) := ⟨⟨by decide +kernel, by decide +kernel⟩, List.mem_of_getElem? (i := 193) (by decide +kernel), List.mem_of_getElem? (i := 288) (by decide +kernel), List.mem_of_getElem? (i := 289) (by decide +kernel)⟩
theorem lw_p17 : lw_okq (⟨"FoundryNine", "checkLine", "(I)V"⟩, 7) := ⟨⟨by decide +kernel, by decide +kernel⟩, List.mem_of_getElem? (i := 142) (by decide +kernel), List.mem_of_getElem? (i := 316) (by decide +kernel), List.mem_of_getElem? (i := 317) (by decide +kernel)⟩
theorem lw_p18 : lw_okq (⟨"FoundryNine", "checkHasDelay", "(I)V"⟩, 7) := ⟨⟨by decide +kernel, by decide +kernel⟩, List.mem_of_getElem? (i := 142) (by decide +kernel), List.mem_of_getElem? (i := 348) (by decide +kernel), List.mem_of_getElem? (i := 349) (by decide +kernel)⟩
theorem lw_p19 : lw_okq (⟨"FoundryNine$Arrivals", "arrivalBy", "(LFoundryNine$Circuit;LFoundryNine$Flaws;II)I"⟩, 1) := ⟨⟨by decide +kernel, by decide +kernel⟩, List.mem_of_getElem? (i := 132) (by decide +kernel), List.mem_of_getElem? (i := 362) (by decide +kernel), List.mem_of_getElem? (i := 363) (by decide +kernel)⟩
theorem lw_p20 : lw_okq (⟨"FoundryNine", "digestOfTimes", "(J)J"⟩, 7) := ⟨⟨by decide +kernel, by decide +kernel⟩, List.mem_of_getElem? (i := 142) (by decide +kernel), List.mem_of_getElem? (i := 385) (by decide +kernel), List.mem_of_getElem? (i := 386) (by decide +kernel)⟩
theorem lw_p21 : lw_okq (⟨"FoundryNine", "digestOfCircuit", "(J)J"⟩, 7) := ⟨⟨by decide +kernel, by decide +kernel⟩, List.mem_of_getElem? (i := 142) (by decide +kernel), List.mem_of_getElem? (i := 390) (by decide +kernel), List.mem_of_getElem? (i := 391) (by decide +kernel)⟩
theorem lw_p22 : lw_okq (⟨"FoundryNine", "digestOfWires", "(J)J"⟩, 7) := ⟨⟨by decide +kernel, by decide +kernel⟩, List.mem_of_getElem? (i := 142) (by decide +kernel), List.mem_of_getElem? (i := 401) (by decide +kernel), List.mem_of_getElem? (i := 402) (by decide +kernel)⟩
theorem lw_p23 : lw_okq (⟨"FoundryNine", "digestOfRun", "(J)J"⟩, 7) := ⟨⟨by decide +kernel, by decide +kernel⟩, List.mem_of_getElem? (i := 142) (by decide +kernel), List.mem_of_getElem? (i := 417) (by decide +kernel), List.mem_of_getElem? (i := 418) (by decide +kernel)⟩
theorem lw_p24 : lw_okq (⟨"FoundryNine$Run", "clear", "()V"⟩, 18) := ⟨⟨by decide +kernel, by decide +kernel⟩, List.mem_of_getElem? (i := 193) (by decide +kernel), List.mem_of_getElem? (i := 549) (by decide +kernel), List.mem_of_getElem? (i := 550) (by decide +kernel)⟩
theorem lw_p25 : lw_okq (⟨"FoundryNineLaw$Bench", "clear", "()V"⟩, 14) := ⟨⟨by decide +kernel, by decide +kernel⟩, List.mem_of_getElem? (i := 425) (by decide +kernel), List.mem_of_getElem? (i := 645) (by decide +kernel), List.mem_of_getElem? (i := 646) (by decide +kernel)⟩
theorem lw_p26 : lw_okq (⟨"FoundryNineLaw$Bench", "put", "(IIIIII)Z"⟩, 14) := ⟨⟨by decide +kernel, by decide +kernel⟩, List.mem_of_getElem? (i := 425) (by decide +kernel), List.mem_of_getElem? (i := 711) (by decide +kernel), List.mem_of_getElem? (i := 712) (by decide +kernel)⟩
theorem lw_p27 : lw_okq (⟨"FoundryNine", "checkRoom", "()V"⟩, 7) := ⟨⟨by decide +kernel, by decide +kernel⟩, List.mem_of_getElem? (i := 142) (by decide +kernel), List.mem_of_getElem? (i := 719) (by decide +kernel), List.mem_of_getElem? (i := 720) (by decide +kernel)⟩
theorem lw_p28 : lw_okq (⟨"FoundryNine", "addLine", "(IIIIII)I"⟩, 7) := ⟨⟨by decide +kernel, by decide +kernel⟩, List.mem_of_getElem? (i := 142) (by decide +kernel), List.mem_of_getElem? (i := 724) (by decide +kernel), List.mem_of_getElem? (i := 725) (by decide +kernel)⟩
theorem lw_p29 : lw_okq (⟨"FoundryNine$Circuit", "noteUse", "(II)V"⟩, 12) := ⟨⟨by decide +kernel, by decide +kernel⟩, List.mem_of_getElem? (i := 436) (by decide +kernel), List.mem_of_getElem? (i := 732) (by decide +kernel), List.mem_of_getElem? (i := 733) (by decide +kernel)⟩
theorem lw_p30 : lw_okq (⟨"FoundryNine$Flaws", "note", "(II)V"⟩, 6) := ⟨⟨by decide +kernel, by decide +kernel⟩, List.mem_of_getElem? (i := 503) (by decide +kernel), List.mem_of_getElem? (i := 740) (by decide +kernel), List.mem_of_getElem? (i := 741) (by decide +kernel)⟩
theorem lw_p31 : lw_okq (⟨"FoundryNine$Flaws", "findReach", "(LFoundryNine$Circuit;)V"⟩, 6) := ⟨⟨by decide +kernel, by decide +kernel⟩, List.mem_of_getElem? (i := 503) (by decide +kernel), List.mem_of_getElem? (i := 744) (by decide +kernel), List.mem_of_getElem? (i := 745) (by decide +kernel)⟩
def lw_privs_2 : List (MethodName × Nat) := [(⟨"FoundryNine$Run", "noteHazardsOfGates", "()V"⟩, 18), (⟨"FoundryNine", "checkLine", "(I)V"⟩, 7), (⟨"FoundryNine", "checkHasDelay", "(I)V"⟩, 7), (⟨"FoundryNine$Arrivals", "arrivalBy", "(LFoundryNine$Circuit;LFoundryNine$Flaws;II)I"⟩, 1), (⟨"FoundryNine", "digestOfTimes", "(J)J"⟩, 7), (⟨"FoundryNine", "digestOfCircuit", "(J)J"⟩, 7), (⟨"FoundryNine", "digestOfWires", "(J)J"⟩, 7), (⟨"FoundryNine", "digestOfRun", "(J)J"⟩, 7), (⟨"FoundryNine$Run", "clear", "()V"⟩, 18), (⟨"FoundryNineLaw$Bench", "clear", "()V"⟩, 14), (⟨"FoundryNineLaw$Bench", "put", "(IIIIII)Z"⟩, 14), (⟨"FoundryNine", "checkRoom", "()V"⟩, 7), (⟨"FoundryNine", "addLine", "(IIIIII)I"⟩, 7), (⟨"FoundryNine$Circuit", "noteUse", "(II)V"⟩, 12), (⟨"FoundryNine$Flaws", "note", "(II)V"⟩, 6), (⟨"FoundryNine$Flaws", "findReach", "(LFoundryNine$Circuit;)V"⟩, 6)]
theorem lw_r2 : ∀ q ∈ lw_privs_2, lw_okq q := List.forall_mem_cons.mpr ⟨lw_p16, List.forall_mem_cons.mpr ⟨lw_p17, List.forall_mem_cons.mpr ⟨lw_p18, List.forall_mem_cons.mpr ⟨lw_p19, List.forall_mem_cons.mpr ⟨lw_p20, List.forall_mem_cons.mpr ⟨lw_p21, List.forall_mem_cons.mpr ⟨lw_p22, List.forall_mem_cons.mpr ⟨lw_p23, List.forall_mem_cons.mpr ⟨lw_p24, List.forall_mem_cons.mpr ⟨lw_p25, List.forall_mem_cons.mpr ⟨lw_p26, List.forall_mem_cons.mpr ⟨lw_p27, List.forall_mem_cons.mpr ⟨lw_p28, List.forall_mem_cons.mpr ⟨lw_p29, List.forall_mem_cons.mpr ⟨lw_p30, List.forall_mem_cons.mpr ⟨lw_p31, fun _ h => absurd h List.not_mem_nil⟩⟩⟩⟩⟩⟩⟩⟩⟩⟩⟩⟩⟩⟩⟩⟩
theorem lw_p32 : lw_okq (⟨"FoundryNine$Flaws", "reachOf", "(I)I"⟩, 6) := ⟨⟨by decide +kernel, by decide +kernel⟩, List.mem_of_getElem? (i := 503) (by decide +kernel), List.mem_of_getElem? (i := 750) (by decide +kernel), List.mem_of_getElem? (i := 751) (by decide +kernel)⟩
theorem lw_p33 : lw_okq (⟨"FoundryNineLaw$Bench", "from", "(II)I"⟩, 14) := ⟨⟨by decide +kernel, by decide +kernel⟩, List.mem_of_getElem? (i := 425) (by decide +kernel), List.mem_of_getElem? (i := 769) (by decide +kernel), List.mem_of_getElem? (i := 770) (by decide +kernel)⟩
theorem lw_p34 : lw_okq (⟨"FoundryNineLaw$Bench", "leads", "(II[Z)Z"⟩, 14) := ⟨⟨by decide +kernel, by decide +kernel⟩, List.mem_of_getElem? (i := 425) (by decide +kernel), List.mem_of_getElem? (i := 817) (by decide +kernel), List.mem_of_getElem? (i := 818) (by decide +kernel)⟩
theorem lw_p35 : lw_okq (⟨"FoundryNineLaw$Bench", "change", "(II)V"⟩, 14) := ⟨⟨by decide +kernel, by decide +kernel⟩, List.mem_of_getElem? (i := 425) (by decide +kernel), List.mem_of_getElem? (i := 826) (by decide +kernel), List.mem_of_getElem? (i := 827) (by decide +kernel)⟩
theorem lw_p36 : lw_okq (⟨"FoundryNineLaw$Bench", "ask", "(III)V"⟩, 14) := ⟨⟨by decide +kernel, by decide +kernel⟩, List.mem_of_getElem? (i := 425) (by decide +kernel), List.mem_of_getElem? (i := 830) (by decide +kernel), List.mem_of_getElem? (i := 831) (by decide +kernel)⟩
theorem lw_p37 : lw_okq (⟨"FoundryNineLaw$Bench", "reckon", "(I)I"⟩, 14) := ⟨⟨by decide +kernel, by decide +kernel⟩, List.mem_of_getElem? (i := 425) (by decide +kernel), List.mem_of_getElem? (i := 834) (by decide +kernel), List.mem_of_getElem? (i := 835) (by decide +kernel)⟩
theorem lw_p38 : lw_okq (⟨"FoundryNineLaw$Bench", "drop", "(I)V"⟩, 14) := ⟨⟨by decide +kernel, by decide +kernel⟩, List.mem_of_getElem? (i := 425) (by decide +kernel), List.mem_of_getElem? (i := 846) (by decide +kernel), List.mem_of_getElem? (i := 847) (by decide +kernel)⟩
theorem lw_p39 : lw_okq (⟨"FoundryNineLaw$Bench", "pend", "(II)V"⟩, 14) := ⟨⟨by decide +kernel, by decide +kernel⟩, List.mem_of_getElem? (i := 425) (by decide +kernel), List.mem_of_getElem? (i := 853) (by decide +kernel), List.mem_of_getElem? (i := 854) (by decide +kernel)⟩
theorem lw_p40 : lw_okq (⟨"FoundryNineLaw$Bench", "note", "(II)V"⟩, 14) := ⟨⟨by decide +kernel, by decide +kernel⟩, List.mem_of_getElem? (i := 425) (by decide +kernel), List.mem_of_getElem? (i := 860) (by decide +kernel), List.mem_of_getElem? (i := 861) (by decide +kernel)⟩
def lw_privs_3 : List (MethodName × Nat) := [(⟨"FoundryNine$Flaws", "reachOf", "(I)I"⟩, 6), (⟨"FoundryNineLaw$Bench", "from", "(II)I"⟩, 14), (⟨"FoundryNineLaw$Bench", "leads", "(II[Z)Z"⟩, 14), (⟨"FoundryNineLaw$Bench", "change", "(II)V"⟩, 14), (⟨"FoundryNineLaw$Bench", "ask", "(III)V"⟩, 14), (⟨"FoundryNineLaw$Bench", "reckon", "(I)I"⟩, 14), (⟨"FoundryNineLaw$Bench", "drop", "(I)V"⟩, 14), (⟨"FoundryNineLaw$Bench", "pend", "(II)V"⟩, 14), (⟨"FoundryNineLaw$Bench", "note", "(II)V"⟩, 14)]
theorem lw_r3 : ∀ q ∈ lw_privs_3, lw_okq q := List.forall_mem_cons.mpr ⟨lw_p32, List.forall_mem_cons.mpr ⟨lw_p33, List.forall_mem_cons.mpr ⟨lw_p34, List.forall_mem_cons.mpr ⟨lw_p35, List.forall_mem_cons.mpr ⟨lw_p36, List.forall_mem_cons.mpr ⟨lw_p37, List.forall_mem_cons.mpr ⟨lw_p38, List.forall_mem_cons.mpr ⟨lw_p39, List.forall_mem_cons.mpr ⟨lw_p40, fun _ h => absurd h List.not_mem_nil⟩⟩⟩⟩⟩⟩⟩⟩⟩
def lw_privs : List (MethodName × Nat) := lw_privs_1 ++ (lw_privs_2 ++ (lw_privs_3))
def lw_tbl : List Cond := k2_sels lw_privs ++ tables_1
theorem lw_privs_ok : ∀ q ∈ lw_privs, lw_okq q := by
  show ∀ q ∈ lw_privs_1 ++ (lw_privs_2 ++ (lw_privs_3)), lw_okq q
  exact List.forall_mem_append.mpr ⟨lw_r1, List.forall_mem_append.mpr ⟨lw_r2, lw_r3⟩⟩
end
section
/-! ===== BEGIN words of one list among another's, by their places ===== -/
theorem goodIn_r {big : List Cond} (ws : List Cond) (ps : List Nat) (hp : ws = ps.filterMap (fun i => big[i]?)) (h : ws.all goodWord = true) : GoodIn big ws := by
  intro w hw
  have h1 := List.all_eq_true.mp h w hw
  rw [hp] at hw
  obtain ⟨i, -, hi⟩ := List.mem_filterMap.mp hw
  have hm : w ∈ big := by first | exact List.mem_of_getElem? hi | exact List.getElem?_mem hi
  exact ⟨hm, good_of_word h1⟩
theorem goodIn_app {big a b : List Cond} (ha : GoodIn big a) (hb : GoodIn big b) : GoodIn big (a ++ b) := fun w h => (List.mem_append.mp h).elim (ha w) (hb w)
theorem goodIn_ca {big a b : List Cond} {c : Cond} (ha : GoodIn big (c :: a)) (hb : GoodIn big b) : GoodIn big (c :: (a ++ b)) := fun w h => (List.mem_cons.mp h).elim (fun e => ha w (List.mem_cons.mpr (Or.inl e))) (fun h => (List.mem_append.mp h).elim (fun h => ha w (List.mem_cons.mpr (Or.inr h))) (hb w))
theorem goodIn_sub {big ws : List Cond} (hm : ∀ w ∈ ws, w ∈ big) (h : ws.all goodWord = true) : GoodIn big ws := fun w hw => ⟨hm w hw, good_of_word (List.all_eq_true.mp h w hw)⟩
/-! ===== END ===== -/

/-! ===== BEGIN exceptions that leave a method, and their catching by the caller (launches without stack traces) ===== -/
section VXA
/-! The laws vx_back, vx_callV, vx_callS, vx_callSW, vx_throw0, vx_throwS follow proofs of the library, with one case more: JvmDerived/Free/Laws.lean (Back.of_free), Shelf42/LK1.lean (callV, callS), Shelf/KitTraced.lean (throwNew0V, throwNewS). -/
/-- where a method has thrown q: the class by its name, the cell, what was written, the world -/
def vx_T (XC : String → State → State → Prop) (st : State) (q : Addr) (t : State) (mc ms : Nat) (free : Addr → Prop) : Prop :=
  ∃ (E : String) (ce : Cell) (L : List Loc), XC E st t ∧ t.heap[q]? = some ce ∧ ce.vm = .none ∧ st.vm.findClass E = some ce.cls ∧ st.WarmedH t.vm ∧ st.sameButNew ({ t with vm := st.vm } : State) L mc ms ∧ ∀ z ∈ L, free z.base
def vx_Q (Qc : Array Value → State → Outcome → State → Prop) (XC : String → State → State → Prop) (mc ms : Nat) (free : Addr → Prop) : Array Value → State → Outcome → State → Prop := fun a st o t =>
  (Qc a st o t ∧ ∃ L, FrameEnd st o t L mc ms ∧ ∀ q ∈ L, free q.base) ∨ ∃ q, o = .threw q ∧ vx_T XC st q t mc ms free
/-- a callee that returns or throws -/
def vx_Met (l : Launch) (y : MethodName) (ws : List Cond) (rm : Room) (Pc : Array Value → State → Prop) (Qc : Array Value → State → Outcome → State → Prop) (XC : String → State → State → Prop) (mc ms : Nat) (free : Addr → Prop) : Prop :=
  MetFree l y (headSpec ws rm) Pc (fun _ _ _ _ _ => True) (vx_Q Qc XC mc ms free)
def vx_Post (XC : String → State → State → Prop) (mc ms : Nat) (free : Addr → Prop) : Pt → Array Value → Addr → Pt → Prop := fun A a q B =>
  ∃ (g : JFrame) (mk : MethodId) (t : State) (L : List Loc) (E : String) (ce : Cell), B.U.heap = t.heap ∧ B.U.vm = t.vm ∧ XC E (A.U.calling g mk a) t ∧ t.heap[q]? = some ce ∧ ce.vm = .none ∧ A.U.vm.findClass E = some ce.cls ∧ B.locs = A.locs ++ L ∧ (∀ z ∈ L, free z.base) ∧ B.cells = A.cells + mc ∧ B.slots = A.slots + ms
def vx_Back (l : Launch) (R : Room) (p : Program) (e : Env) (below : List Frame) (s : State) (sargs : Array Value) (y : MethodName) (len W9 : Nat)
    (Pre : Pt → Array Value → Prop) (Post : Pt → Array Value → Option Value → Pt → Prop) (PostX : Pt → Array Value → Addr → Pt → Prop) : Prop :=
  ∀ (m : MethodId) (meth : Method) (c : Code) (A : Pt) (g : JFrame) (ig : Instr) (mk : MethodId) (a : Array Value),
    Stand p l e R s m sargs below meth c A.U A.locs A.cells A.slots → g.method = m → g.locals.size = c.maxLocals → decode c.code g.pc = .ok (ig, len) →
    2 * g.monitorRoom + (g.stack.map fun v => v.category).sum ≤ W9 → A.U.methodNamed? y = some mk → Pre A a →
    (∃ (v : Option Value) (B : Pt), Stand p l e R s m sargs below meth c B.U B.locs B.cells B.slots ∧ Post A a v B ∧
      Steps p.tables e below (doInvoke e (A.U.setTop g) [] mk a).1 (B.U.setTop { g with pc := g.pc + len, stack := v.toList ++ g.stack })) ∨
    (∃ (q : Addr) (B : Pt), Stand p l e R s m sargs below meth c B.U B.locs B.cells B.slots ∧ PostX A a q B ∧
      Steps p.tables e below (doInvoke e (A.U.setTop g) [] mk a).1 ((B.U.setTop g).pushFrame (.throwing q)))
section Payer
variable {l : Launch} {R : Room} {p : Program} {e : Env} {below : List Frame} {s : State} {sargs : Array Value} {y : MethodName} {len W9 : Nat}
theorem vx_back {ws : List Cond} {rm : Room} {Pc : Array Value → State → Prop} {Qc : Array Value → State → Outcome → State → Prop} {XC : String → State → State → Prop} {mc ms : Nat} {free : Addr → Prop} {bytes : ByteArray} {maxL : Nat} {ret : Option FieldType}
    (hM : vx_Met l y ws rm Pc Qc XC mc ms free) (hblind : FrameBlind Pc) (hrc : rm.cells = mc) (hrs : rm.slots = ms)
    (hframes : rm.frames + 1 ≤ R.frames) (hlocals : W9 + (maxL + 11) + rm.locals ≤ R.locals)
    (hws : ∀ w ∈ ws, ∀ a' U, s.WarmedH U.vm → w.before a' U = true) (hcode : Cond.code y bytes maxL ret ∈ ws) (hinit : ∀ a' U, s.WarmedH U.vm → (Cond.initialized y.cls).before a' U = true) :
    vx_Back l R p e below s sargs y len W9 (PreOf R mc ms Pc) (PostOf Qc mc ms free) (vx_Post XC mc ms free) := by
  intro m meth c A g ig mk a X hg hsize hdg hW hn hp
  have h1 : (headSpec ws rm).pre.before a A.U = true := atoms_intro fun w hw => hws w hw _ _ X.warmed
  have h2 : (Cond.code y bytes maxL ret).before a A.U = true := hws _ hcode _ _ X.warmed
  have h3 : (Cond.initialized y.cls).before a A.U = true := hinit _ _ X.warmed
  have h4 : A.cells + (headSpec ws rm).room.cells ≤ R.cells := by rw [show (headSpec ws rm).room.cells = mc from hrc]; exact hp.1
  have h5 : A.slots + (headSpec ws rm).room.slots ≤ R.slots := by rw [show (headSpec ws rm).room.slots = ms from hrs]; exact hp.2.1
  have hPc : Pc a (A.U.calling g mk a) := hblind _ _ _ _ hp.2.2
  obtain ⟨U, Ls, c0, s0⟩ := A
  dsimp only [Pt.U, Pt.locs, Pt.cells, Pt.slots] at h1 h2 h3 h4 h5 X hn hPc ⊢
  obtain ⟨methY, cY, hmY, hcY, -, hlY, -, -, -, -⟩ := Cond.code_spec hn h2
  obtain ⟨kY, hkY, -⟩ := className_of_methodNamed hn
  have hinitY : kY.init = .initialized := Cond.initialized_spec (findClass_of_methodNamed hn) hkY h3
  have h : At U g.method c below := by rw [hg]; exact X.here
  have hlocals9 : W9 + (maxL + 11) + (headSpec ws rm).room.locals ≤ R.locals := hlocals
  have happ : (headSpec ws rm).appliesLoose y e.platform (U.calling g mk a) = true :=
    Spec.appliesLoose_calling (g := g) h hdg hn hkY hinitY
      (X.room_calling (g := g) (R' := (headSpec ws rm).room) hsize hmY hcY hframes (by rw [hlY]; omega) h4 h5) h1
  obtain ⟨mid, hmid⟩ := h.above
  have hfr : (U.setTop g).frames = (.java g :: mid) ++ below := by rw [State.frames_setTop' g h.top, hmid]; rfl
  obtain ⟨o, s₂, hsteps, -, hend, hq⟩ := Steps.callFree hM p X.admits X.cas X.clock (acts := []) hfr happ hPc trivial
  have hq' : vx_Q Qc XC mc ms free a (U.calling g mk a) o s₂ := hq
  rw [State.frames_setTop' g h.top] at hend
  obtain ⟨g₀, hg0⟩ := Option.isSome_iff_exists.mp h.top
  obtain ⟨r, hr⟩ := State.topJava?_eq_some.mp hg0
  have hr' : (({ U with heap := s₂.heap, slotsUsed := s₂.slotsUsed } : State).setVm s₂.vm).frames = .java g₀ :: r := hr
  rcases hq' with ⟨hqc, L, hfe, hL⟩ | ⟨q, rfl, E, ce, L, hx, hce, hcv, hcl, hW₂, hsm, hL⟩
  · obtain ⟨⟨v, rfl⟩, hW₂, e2, q2, q3, q4, q5, q6⟩ := id hfe
    have e3 : s₂ = ({ (U.calling g mk a).setFrames s₂.frames with heap := s₂.heap, slotsUsed := s₂.slotsUsed } : State).setVm s₂.vm := by
      have : s₂ = ({ s₂ with vm := (U.calling g mk a).vm } : State).setVm s₂.vm := rfl
      rw [e2] at this
      exact this
    obtain ⟨c₂, i₂, len₂, hc₂, hd₂, hf₂⟩ := hend
    have hW' : U.WarmedH s₂.vm := hW₂
    have hcc : c₂ = c := by
      have h1 : s₂.code? g.method = U.code? g.method := by
        rw [State.code?_eq, State.code?_eq, hW'.alike.method?]
      exact Option.some.inj (hc₂.symm.trans (h1.trans h.code))
    subst hcc
    have hlen : len₂ = len := by rw [hdg] at hd₂; cases hd₂; rfl
    subst hlen
    have hs₂ : s₂ = (({ U with heap := s₂.heap, slotsUsed := s₂.slotsUsed } : State).setVm s₂.vm).setTop { g with pc := g.pc + len₂, stack := v.toList ++ g.stack } := by
      refine e3.trans ?_
      rw [hf₂, State.calling_eq h.top, State.setFrames_setFrames, State.setTop_of_frames _ hr', hr]
      rfl
    have hsame : U.sameButNew ({ U with heap := s₂.heap, slotsUsed := s₂.slotsUsed } : State) L mc ms := by
      refine ⟨?_, q2, q3, q4, q5, q6⟩
      obtain ⟨t, ht, -⟩ := State.frames_cons hr
      show ({ U with heap := s₂.heap, slotsUsed := s₂.slotsUsed } : State) = { U.setFrames U.frames with heap := s₂.heap, slotsUsed := s₂.slotsUsed }
      rw [State.setFrames_self ht]
    subst hg
    refine Or.inl ⟨v, ⟨(({ U with heap := s₂.heap, slotsUsed := s₂.slotsUsed } : State).setVm s₂.vm), Ls ++ L, c0 + mc, s0 + ms⟩,
      ⟨X.admits, X.cas, X.clock, X.frames, X.room, X.hears, X.method, X.code, (X.here.setHeapUsed s₂.heap s₂.slotsUsed).setVm hW'.alike, X.tail, State.WarmedH.trans X.warmed hW', X.limits, X.bytes, X.same.trans (hsame.setVm s.vm)⟩,
      ⟨g, mk, s₂, L, rfl, rfl, hqc, rfl, hL, rfl, rfl⟩, ?_⟩
    show Steps p.tables e below _ ((({ U with heap := s₂.heap, slotsUsed := s₂.slotsUsed } : State).setVm s₂.vm).setTop { g with pc := g.pc + len₂, stack := v.toList ++ g.stack })
    rw [← hs₂]
    exact hsteps
  · obtain ⟨e2, q2, q3, q4, q5, q6⟩ := id hsm
    have e3 : s₂ = ({ (U.calling g mk a).setFrames s₂.frames with heap := s₂.heap, slotsUsed := s₂.slotsUsed } : State).setVm s₂.vm := by
      have : s₂ = ({ s₂ with vm := (U.calling g mk a).vm } : State).setVm s₂.vm := rfl
      rw [e2] at this
      exact this
    have hf₂ : s₂.frames = .throwing q :: .java g :: U.frames.tail := hend
    have hW' : U.WarmedH s₂.vm := hW₂
    have hs₂ : s₂ = ((({ U with heap := s₂.heap, slotsUsed := s₂.slotsUsed } : State).setVm s₂.vm).setTop g).pushFrame (.throwing q) := by
      refine e3.trans ?_
      rw [hf₂, State.calling_eq h.top, State.setFrames_setFrames, State.pushFrame, State.frames_setTop _ hr', State.setTop_of_frames _ hr', State.setFrames_setFrames, hr]
      rfl
    have hsame : U.sameButNew ({ U with heap := s₂.heap, slotsUsed := s₂.slotsUsed } : State) L mc ms := by
      refine ⟨?_, q2, q3, q4, q5, q6⟩
      obtain ⟨t, ht, -⟩ := State.frames_cons hr
      show ({ U with heap := s₂.heap, slotsUsed := s₂.slotsUsed } : State) = { U.setFrames U.frames with heap := s₂.heap, slotsUsed := s₂.slotsUsed }
      rw [State.setFrames_self ht]
    subst hg
    refine Or.inr ⟨q, ⟨(({ U with heap := s₂.heap, slotsUsed := s₂.slotsUsed } : State).setVm s₂.vm), Ls ++ L, c0 + mc, s0 + ms⟩,
      ⟨X.admits, X.cas, X.clock, X.frames, X.room, X.hears, X.method, X.code, (X.here.setHeapUsed s₂.heap s₂.slotsUsed).setVm hW'.alike, X.tail, State.WarmedH.trans X.warmed hW', X.limits, X.bytes, X.same.trans (hsame.setVm s.vm)⟩,
      ⟨g, mk, s₂, L, E, ce, rfl, rfl, hx, hce, hcv, hcl, rfl, hL, rfl, rfl⟩, ?_⟩
    show Steps p.tables e below _ (((({ U with heap := s₂.heap, slotsUsed := s₂.slotsUsed } : State).setVm s₂.vm).setTop g).pushFrame (.throwing q))
    rw [← hs₂]
    exact hsteps
end Payer
section Calls
variable {p : Program} {l : Launch} {e : Env} {R : Room} {s : State} {m : MethodId} {args : Array Value} {below : List Frame} {meth : Method} {c : Code} {T : State} {locs : List Loc} {cells slots : Nat}
theorem vx_callV (X : Stand p l e R s m args below meth c T locs cells slots) (hexec : p.tables.exec = Jvm.exec) {own C : String} {index : Nat} {y : MethodName} {bytes : ByteArray} {maxL : Nat} {ret : Option FieldType}
    (hown : s.vm.findClass own = some m.cls) (hlink : (Cond.methodLink own index y).before args s = true) (hinst : (Cond.instanceMethod y).before args s = true) (hsel : (Cond.selects C y y).before args s = true)
    (hcode : (Cond.code y bytes maxL ret).before args s = true) (hy : y.cls ≠ "java/lang/invoke/MethodHandle" ∧ y.cls ≠ "java/lang/invoke/VarHandle")
    {W9 : Nat} {Pre : Pt → Array Value → Prop} {Post : Pt → Array Value → Option Value → Pt → Prop} {PostX : Pt → Array Value → Addr → Pt → Prop} (hK : vx_Back l R p e below s args y 3 W9 Pre Post PostX)
    {b : Addr} {cellB : Cell} (hcell : T.heap[b]? = some cellB) (hobj : cellB.vm.isStatics = false) (hcls : s.vm.findClass C = some cellB.cls)
    {g : JFrame} (hg : g.method = m) (hsize : g.locals.size = c.maxLocals) {argsL rest : List Value} (hlen : ∀ sig, parseMethodDescriptor y.desc = some sig → argsL.length = sig.parameters.length)
    (hstack : g.stack = argsL.reverse ++ .ref b :: rest) (hW : 2 * g.monitorRoom + (rest.map fun v => v.category).sum ≤ W9) (hdg : decode c.code g.pc = .ok (.invokevirtual index, 3))
    (hpre : ∀ vm₁, s.WarmedH vm₁ → Pre ⟨T.setVm vm₁, locs, cells, slots⟩ (Value.ref b :: argsL).toArray) :
    (∃ (v : Option Value) (vm₁ : Vm) (B : Pt), s.WarmedH vm₁ ∧ Stand p l e R s m args below meth c B.U B.locs B.cells B.slots ∧ Post ⟨T.setVm vm₁, locs, cells, slots⟩ (Value.ref b :: argsL).toArray v B ∧
      ∀ target, Steps p.tables e below (B.U.setTop { g with pc := g.pc + 3, stack := v.toList ++ rest }) target → Steps p.tables e below (T.setTop g) target) ∨
    (∃ (q : Addr) (vm₁ : Vm) (B : Pt), s.WarmedH vm₁ ∧ Stand p l e R s m args below meth c B.U B.locs B.cells B.slots ∧ PostX ⟨T.setVm vm₁, locs, cells, slots⟩ (Value.ref b :: argsL).toArray q B ∧
      Steps p.tables e below (T.setTop g) ((B.U.setTop { g with stack := rest }).pushFrame (.throwing q))) := by
  obtain ⟨mk, methM, hnamed, hmethM, hstM, habM⟩ := Cond.instanceMethod_spec hinst
  obtain ⟨methM', cM, hmethM', -, -, -, -, -, -, hsigM⟩ := Cond.code_spec hnamed hcode
  cases hmethM.symm.trans hmethM'
  obtain ⟨c2, r2, m2, q1, q2, q3, q4, kP, hkP, hkPi⟩ := Cond.selects_spec hsel
  cases hcls.symm.trans q1
  cases (State.methodFound?_of_named hnamed hy).symm.trans q2
  cases hnamed.symm.trans q3
  have hselP : selectMethod e.platform s.vm cellB.cls mk = .method mk := by rw [Launch.admits_selectMethod X.admits]; exact q4
  obtain ⟨vm₁, X₁, hstep₁⟩ := X.invokevirtual hexec hown hlink hnamed hmethM hstM hkP hkPi hy (a := b) (cell := cellB) hcell
    (fun z h => by rw [h] at hobj; cases hobj) hselP hmethM habM hkP hkPi (g := g) hg (argsL := argsL) (rest := rest) (hlen _ hsigM) hstack hdg
  rcases hK m meth c ⟨T.setVm vm₁, locs, cells, slots⟩ { g with stack := rest } (.invokevirtual index) mk (Value.ref b :: argsL).toArray X₁ hg hsize hdg hW (X₁.named hnamed) (hpre vm₁ X₁.warmed) with ⟨v, B, X', hpost, hsteps⟩ | ⟨q, B, X', hpost, hsteps⟩
  · exact Or.inl ⟨v, vm₁, B, X₁.warmed, X', hpost, fun target h => hstep₁ _ fun acts => by rw [doInvoke_state]; exact hsteps.trans h⟩
  · exact Or.inr ⟨q, vm₁, B, X₁.warmed, X', hpost, hstep₁ _ fun acts => by rw [doInvoke_state]; exact hsteps⟩
theorem vx_callS (X : Stand p l e R s m args below meth c T locs cells slots) (hexec : p.tables.exec = Jvm.exec) {own : String} {index : Nat} {y : MethodName} {bytes : ByteArray} {maxL : Nat} {ret : Option FieldType}
    (hown : s.vm.findClass own = some m.cls) (hlink : (Cond.methodLink own index y).before args s = true) (hstat : (Cond.static y).before args s = true) (hinit : (Cond.initialized y.cls).before args s = true)
    (hcode : (Cond.code y bytes maxL ret).before args s = true) (hy : y.cls ≠ "java/lang/invoke/MethodHandle" ∧ y.cls ≠ "java/lang/invoke/VarHandle")
    {W9 : Nat} {Pre : Pt → Array Value → Prop} {Post : Pt → Array Value → Option Value → Pt → Prop} {PostX : Pt → Array Value → Addr → Pt → Prop} (hK : vx_Back l R p e below s args y 3 W9 Pre Post PostX)
    {g : JFrame} (hg : g.method = m) (hsize : g.locals.size = c.maxLocals) {argsL rest : List Value} (hlen : ∀ sig, parseMethodDescriptor y.desc = some sig → argsL.length = sig.parameters.length)
    (hstack : g.stack = argsL.reverse ++ rest) (hW : 2 * g.monitorRoom + (rest.map fun v => v.category).sum ≤ W9) (hdg : decode c.code g.pc = .ok (.invokestatic index, 3))
    (hpre : ∀ vm₁, s.WarmedH vm₁ → Pre ⟨T.setVm vm₁, locs, cells, slots⟩ argsL.toArray) :
    (∃ (v : Option Value) (vm₁ : Vm) (B : Pt), s.WarmedH vm₁ ∧ Stand p l e R s m args below meth c B.U B.locs B.cells B.slots ∧ Post ⟨T.setVm vm₁, locs, cells, slots⟩ argsL.toArray v B ∧
      ∀ target, Steps p.tables e below (B.U.setTop { g with pc := g.pc + 3, stack := v.toList ++ rest }) target → Steps p.tables e below (T.setTop g) target) ∨
    (∃ (q : Addr) (vm₁ : Vm) (B : Pt), s.WarmedH vm₁ ∧ Stand p l e R s m args below meth c B.U B.locs B.cells B.slots ∧ PostX ⟨T.setVm vm₁, locs, cells, slots⟩ argsL.toArray q B ∧
      Steps p.tables e below (T.setTop g) ((B.U.setTop { g with stack := rest }).pushFrame (.throwing q))) := by
  obtain ⟨mk, hnamed⟩ := Cond.code_named hcode
  obtain ⟨methM, cM, hmethM, -, -, -, -, -, -, hsigM⟩ := Cond.code_spec hnamed hcode
  have hstatic : methM.isStatic = true := Cond.static_spec hnamed hmethM hstat
  obtain ⟨kP, hkP, -⟩ := className_of_methodNamed hnamed
  have hinitP : kP.init = .initialized := Cond.initialized_spec (findClass_of_methodNamed hnamed) hkP hinit
  obtain ⟨vm₁, X₁, hstep₁⟩ := X.invokestatic hexec hown hlink hnamed hmethM hstatic hkP hinitP hy (g := g) hg (argsL := argsL) (rest := rest) (hlen _ hsigM) hstack hdg
  rcases hK m meth c ⟨T.setVm vm₁, locs, cells, slots⟩ { g with stack := rest } (.invokestatic index) mk argsL.toArray X₁ hg hsize hdg hW (X₁.named hnamed) (hpre vm₁ X₁.warmed) with ⟨v, B, X', hpost, hsteps⟩ | ⟨q, B, X', hpost, hsteps⟩
  · exact Or.inl ⟨v, vm₁, B, X₁.warmed, X', hpost, fun target h => hstep₁ _ fun acts => by rw [doInvoke_state]; exact hsteps.trans h⟩
  · exact Or.inr ⟨q, vm₁, B, X₁.warmed, X', hpost, hstep₁ _ fun acts => by rw [doInvoke_state]; exact hsteps⟩
end Calls
theorem vx_cls {s : State} {T : State} {vm₁ : Vm} {E : String} {k : ClassId} (hW : s.WarmedH vm₁) (h : (T.setVm vm₁).vm.findClass E = some k) : s.vm.findClass E = some k := by
  have h1 : vm₁.findClass E = some k := h
  rw [hW.alike.findClass] at h1
  exact h1
/-- the method's frame g, with q thrown over it -/
def vx_W (p : Program) (l : Launch) (e : Env) (R : Room) (s : State) (m : MethodId) (args : Array Value) (below : List Frame) (meth : Method) (c : Code) (H : Heap) (locs : List Loc) (cells slots : Nat) (Q : State → Prop) (g : JFrame) (q : Addr) : Prop :=
  ∀ T : State, T.heap = H → Stand p l e R s m args below meth c T locs cells slots → ∃ t, Steps p.tables e below ((T.setTop g).pushFrame (.throwing q)) t ∧ Q t
def vx_Run (p : Program) (l : Launch) (e : Env) (R : Room) (s : State) (m : MethodId) (args : Array Value) (below : List Frame) (meth : Method) (c : Code) (H : Heap) (locs : List Loc) (cells slots mc ms : Nat) (g : JFrame) (rest : List Value) (Qa : State → Outcome → State → Prop) (XC : String → State → State → Prop) (free : Addr → Prop) : Prop :=
  ∀ T : State, T.heap = H → Stand p l e R s m args below meth c T locs cells slots →
    (∃ (v : Option Value) (st₀ t T' : State) (L : List Loc), st₀.heap = H ∧ Stand p l e R s m args below meth c T' (locs ++ L) (cells + mc) (slots + ms) ∧ (∀ q ∈ L, free q.base) ∧ T'.heap = t.heap ∧ T'.vm = t.vm ∧ Qa st₀ (.returned v) t ∧
      Goes p e below T g T' { g with pc := g.pc + 3, stack := v.toList ++ rest }) ∨
    (∃ (q : Addr) (st₀ t T' : State) (L : List Loc) (E : String) (ce : Cell), st₀.heap = H ∧ Stand p l e R s m args below meth c T' (locs ++ L) (cells + mc) (slots + ms) ∧ (∀ z ∈ L, free z.base) ∧ T'.heap = t.heap ∧ T'.vm = t.vm ∧ XC E st₀ t ∧ t.heap[q]? = some ce ∧ ce.vm = .none ∧ s.vm.findClass E = some ce.cls ∧
      Steps p.tables e below (T.setTop g) ((T'.setTop { g with stack := rest }).pushFrame (.throwing q)))
def vx_X {S : Type} (px : S → Prop) (B : String → S → State → Prop) (A : Nat → Prop) : String → State → State → Prop := fun E st t => ∃ u : S, px u ∧ B E u t ∧ va_F A st t
section Runs
variable {p : Program} {l : Launch} {e : Env} {R : Room} {s : State} {m : MethodId} {args : Array Value} {below : List Frame} {meth : Method} {c : Code} {H : Heap} {locs : List Loc} {cells slots : Nat}
variable {y : MethodName} {bytes cc : ByteArray} {maxL nL mc ms n index : Nat} {ret : Option FieldType} {ws : List Cond} {rm : Room} {Pc : Array Value → State → Prop} {Qc : Array Value → State → Outcome → State → Prop} {XC : String → State → State → Prop} {free : Addr → Prop} {Ts : List Cond} {own C : String} {b : Addr} {As rest : List Value} {g : JFrame}
theorem vx_callBack (cb : CallB R s args own index y bytes maxL ret ws rm mc ms n) (hM : vx_Met l y ws rm Pc Qc XC mc ms free) (hbl : FrameBlind Pc) : vx_Back l R p e below s args y 3 8 (PreOf R mc ms Pc) (PostOf Qc mc ms free) (vx_Post XC mc ms free) := by
  obtain ⟨hrc, hrs, hfr, hlo, hws, hcw, -, hini, -⟩ := cb
  exact vx_back (bytes := bytes) (maxL := maxL) (ret := ret) hM hbl hrc hrs hfr hlo hws hcw (fun a' U hW => word_at hW (Or.inl (by first | rfl | simp [Cond.onTables, Cond.keeps, Cond.steady])) hini)
theorem vx_runV (S : CallFix p m c cc nL s args Ts own) (hM : vx_Met l y ws rm Pc Qc XC mc ms free) (cw : CallW R s args own C index y bytes maxL ret ws rm mc ms n) (hp : PreV s H C b Pc As)
    (hg : g.method = m) (hn : As.length = n) (hsize : g.locals.size = nL) (hstack : g.stack = As.reverse ++ .ref b :: rest) (hW : 2 * g.monitorRoom + (rest.map fun v => v.category).sum ≤ 8) (hdg : decode cc g.pc = .ok (.invokevirtual index, 3)) (hf : cells + mc ≤ R.cells ∧ slots + ms ≤ R.slots) :
    vx_Run p l e R s m args below meth c H locs cells slots mc ms g rest (Qc (Value.ref b :: As).toArray) XC free := by
  have hK : vx_Back l R p e below s args y 3 8 (PreOf R mc ms Pc) (PostOf Qc mc ms free) (vx_Post XC mc ms free) := vx_callBack cw.1 hM hp.1
  obtain ⟨⟨-, -, -, -, -, -, hcode, -, hy, hlen, hl⟩, hin, hse⟩ := cw
  obtain ⟨hx, hb, hml, ho, -⟩ := S
  obtain ⟨-, ⟨cellB, hcB, hoB, hclB⟩, hPc⟩ := hp
  intro T hT X
  rcases vx_callV X hx (C := C) (bytes := bytes) (maxL := maxL) (ret := ret) ho hl hin hse hcode hy hK (by rw [hT]; exact hcB) hoB hclB hg (hsize.trans hml.symm) (argsL := As) (rest := rest) (fun sig h => hn.trans (hlen sig h)) hstack hW (by rw [hb]; exact hdg)
    (fun vm₁ hW₁ => ⟨hf.1, hf.2, hPc (T.setVm vm₁) hT hW₁⟩) with ⟨v, vm₁, ⟨U', l2, c2, s2⟩, hW₁, X', ⟨g', mk, t, L, e1, e2, hq, h1, hL, h2, h3⟩, st⟩ | ⟨q, vm₁, ⟨U', l2, c2, s2⟩, hW₁, X', ⟨g', mk, t, L, E, ce, e1, e2, hq, hce, hcv, hcl, h1, hL, h2, h3⟩, st⟩
  · dsimp only [Pt.U, Pt.locs, Pt.cells, Pt.slots] at X' e1 e2 h1 h2 h3 st
    subst h1; subst h2; subst h3
    exact Or.inl ⟨v, (T.setVm vm₁).calling g' mk (Value.ref b :: As).toArray, t, U', L, hT, X', hL, e1, e2, hq, st⟩
  · dsimp only [Pt.U, Pt.locs, Pt.cells, Pt.slots] at X' e1 e2 h1 h2 h3 st hcl
    subst h1; subst h2; subst h3
    exact Or.inr ⟨q, (T.setVm vm₁).calling g' mk (Value.ref b :: As).toArray, t, U', L, E, ce, hT, X', hL, e1, e2, hq, hce, hcv, vx_cls hW₁ hcl, st⟩
theorem vx_runS (S : CallFix p m c cc nL s args Ts own) (hM : vx_Met l y ws rm Pc Qc XC mc ms free) (cw : CallB R s args own index y bytes maxL ret ws rm mc ms n ∧ (Cond.static y).before args s = true) (hp : PreS s H Pc As)
    (hg : g.method = m) (hn : As.length = n) (hsize : g.locals.size = nL) (hstack : g.stack = As.reverse ++ rest) (hW : 2 * g.monitorRoom + (rest.map fun v => v.category).sum ≤ 8) (hdg : decode cc g.pc = .ok (.invokestatic index, 3)) (hf : cells + mc ≤ R.cells ∧ slots + ms ≤ R.slots) :
    vx_Run p l e R s m args below meth c H locs cells slots mc ms g rest (Qc As.toArray) XC free := by
  have hK : vx_Back l R p e below s args y 3 8 (PreOf R mc ms Pc) (PostOf Qc mc ms free) (vx_Post XC mc ms free) := vx_callBack cw.1 hM hp.1
  obtain ⟨⟨-, -, -, -, -, -, hcode, hini, hy, hlen, hl⟩, hstt⟩ := cw
  obtain ⟨hx, hb, hml, ho, -⟩ := S
  intro T hT X
  rcases vx_callS X hx (bytes := bytes) (maxL := maxL) (ret := ret) ho hl hstt hini hcode hy hK hg (hsize.trans hml.symm) (argsL := As) (rest := rest) (fun sig h => hn.trans (hlen sig h)) hstack hW (by rw [hb]; exact hdg)
    (fun vm₁ hW₁ => ⟨hf.1, hf.2, hp.2 (T.setVm vm₁) hT hW₁⟩) with ⟨v, vm₁, ⟨U', l2, c2, s2⟩, hW₁, X', ⟨g', mk, t, L, e1, e2, hq, h1, hL, h2, h3⟩, st⟩ | ⟨q, vm₁, ⟨U', l2, c2, s2⟩, hW₁, X', ⟨g', mk, t, L, E, ce, e1, e2, hq, hce, hcv, hcl, h1, hL, h2, h3⟩, st⟩
  · dsimp only [Pt.U, Pt.locs, Pt.cells, Pt.slots] at X' e1 e2 h1 h2 h3 st
    subst h1; subst h2; subst h3
    exact Or.inl ⟨v, (T.setVm vm₁).calling g' mk As.toArray, t, U', L, hT, X', hL, e1, e2, hq, st⟩
  · dsimp only [Pt.U, Pt.locs, Pt.cells, Pt.slots] at X' e1 e2 h1 h2 h3 st hcl
    subst h1; subst h2; subst h3
    exact Or.inr ⟨q, (T.setVm vm₁).calling g' mk As.toArray, t, U', L, E, ce, hT, X', hL, e1, e2, hq, hce, hcv, vx_cls hW₁ hcl, st⟩
end Runs
section Rows
variable {p : Program} {l : Launch} {e : Env} {R : Room} {s : State} {m : MethodId} {args : Array Value} {below : List Frame} {meth : Method} {c : Code} {H : Heap} {locs : List Loc} {cells slots : Nat} {Q : State → Prop}
variable {mc ms : Nat} {free : Addr → Prop} {A0 A1 : Nat → Prop} {H0 : Heap} {a : Array Value} {pc : Nat} {ls : Array Slot} {st0 rest : List Value}
theorem vx_keep {st₀ t T' : State} {L : List Loc} (h0 : st₀.heap = H) (e1 : T'.heap = t.heap) (hS : va_S A0 H0 H locs) (hA : ∀ q, q < H.size → A1 q → A0 q) (hf : ∀ q, free q → A0 q) (hL : ∀ q ∈ L, free q.base) (hF : va_F A1 st₀ t) :
    H.size ≤ T'.heap.size ∧ (∀ q : Nat, q < H.size → ¬ A1 q → T'.heap[q]? = H[q]?) ∧ va_S A0 H0 T'.heap (locs ++ L) := by
  obtain ⟨hz, hk⟩ := hF
  rw [h0] at hz hk
  exact ⟨by rw [e1]; exact hz, fun q h1 h2 => by rw [e1]; exact hk q h1 h2,
    ⟨Nat.le_trans hS.1 (by rw [e1]; exact hz), fun q h1 h2 => by rw [e1, hk q (Nat.lt_of_lt_of_le h1 hS.1) (fun z => h2 (hA q (Nat.lt_of_lt_of_le h1 hS.1) z))]; exact hS.2.1 q h1 h2, fun q hq => by
      rcases List.mem_append.mp hq with h | h
      · exact hS.2.2 q h
      · exact hf _ (hL q h)⟩⟩
theorem vx_calli {S SX : Type} {post : Int32 → S → Prop} {px : SX → Prop} {B : S → State → Prop} {BX : String → SX → State → Prop} {AX : Nat → Prop} (hr : vx_Run p l e R s m args below meth c H locs cells slots mc ms (F0 m pc ls st0) rest (va_Qi post B A1 a) (vx_X px BX AX) free) (hS : va_S A0 H0 H locs) (hA : ∀ q, q < H.size → A1 q → A0 q) (hf : ∀ q, free q → A0 q) (hAX : ∀ q, q < H.size → AX q → A0 q)
    (kx : ∀ (E : String) (ce : Cell) (q9 : Addr) (u : SX) (t : State) (H1 : Heap) (locs1 : List Loc), t.heap = H1 → s.vm.Alike t.vm → px u → BX E u t → H.size ≤ H1.size → (∀ q : Nat, q < H.size → ¬ AX q → H1[q]? = H[q]?) → va_S A0 H0 H1 locs1 → H1[q9]? = some ce → ce.vm = .none → s.vm.findClass E = some ce.cls → vx_W p l e R s m args below meth c H1 locs1 (cells + mc) (slots + ms) Q (F0 m pc ls rest) q9)
    (kk : ∀ (r : Int32) (u : S) (t : State) (H1 : Heap) (locs1 : List Loc), t.heap = H1 → s.vm.Alike t.vm → post r u → B u t → H.size ≤ H1.size → (∀ q : Nat, q < H.size → ¬ A1 q → H1[q]? = H[q]?) → va_S A0 H0 H1 locs1 → W p l e R s m args below meth c H1 locs1 (cells + mc) (slots + ms) Q (F0 m (pc + 3) ls (.int r :: rest))) : W p l e R s m args below meth c H locs cells slots Q (F0 m pc ls st0) := by
  intro T hT X
  rcases hr T hT X with ⟨v, st₀, t, T', L, h0, X', hL, e1, e2, ⟨⟨r, u, hv, hp, hb⟩, hF⟩, st⟩ | ⟨q, st₀, t, T', L, E, ce, h0, X', hL, e1, e2, ⟨u, hp, hb, hF⟩, hce, hcv, hcl, st⟩
  · cases hv
    obtain ⟨k1, k2, k3⟩ := vx_keep h0 e1 hS hA hf hL hF
    obtain ⟨t2, a1, b1⟩ := kk r u t T'.heap (locs ++ L) e1.symm (by rw [← e2]; exact X'.warmed.alike) hp hb k1 k2 k3 T' rfl X'
    exact ⟨t2, st t2 a1, b1⟩
  · obtain ⟨k1, k2, k3⟩ := vx_keep h0 e1 hS hAX hf hL hF
    obtain ⟨t2, a1, b1⟩ := kx E ce q u t T'.heap (locs ++ L) e1.symm (by rw [← e2]; exact X'.warmed.alike) hp hb k1 k2 k3 (by rw [e1]; exact hce) hcv hcl T' rfl X'
    exact ⟨t2, st.trans a1, b1⟩
theorem vx_calll {S SX : Type} {post : Int64 → S → Prop} {px : SX → Prop} {B : S → State → Prop} {BX : String → SX → State → Prop} {AX : Nat → Prop} (hr : vx_Run p l e R s m args below meth c H locs cells slots mc ms (F0 m pc ls st0) rest (va_Ql post B A1 a) (vx_X px BX AX) free) (hS : va_S A0 H0 H locs) (hA : ∀ q, q < H.size → A1 q → A0 q) (hf : ∀ q, free q → A0 q) (hAX : ∀ q, q < H.size → AX q → A0 q)
    (kx : ∀ (E : String) (ce : Cell) (q9 : Addr) (u : SX) (t : State) (H1 : Heap) (locs1 : List Loc), t.heap = H1 → s.vm.Alike t.vm → px u → BX E u t → H.size ≤ H1.size → (∀ q : Nat, q < H.size → ¬ AX q → H1[q]? = H[q]?) → va_S A0 H0 H1 locs1 → H1[q9]? = some ce → ce.vm = .none → s.vm.findClass E = some ce.cls → vx_W p l e R s m args below meth c H1 locs1 (cells + mc) (slots + ms) Q (F0 m pc ls rest) q9)
    (kk : ∀ (r : Int64) (u : S) (t : State) (H1 : Heap) (locs1 : List Loc), t.heap = H1 → s.vm.Alike t.vm → post r u → B u t → H.size ≤ H1.size → (∀ q : Nat, q < H.size → ¬ A1 q → H1[q]? = H[q]?) → va_S A0 H0 H1 locs1 → W p l e R s m args below meth c H1 locs1 (cells + mc) (slots + ms) Q (F0 m (pc + 3) ls (.long r :: rest))) : W p l e R s m args below meth c H locs cells slots Q (F0 m pc ls st0) := by
  intro T hT X
  rcases hr T hT X with ⟨v, st₀, t, T', L, h0, X', hL, e1, e2, ⟨⟨r, u, hv, hp, hb⟩, hF⟩, st⟩ | ⟨q, st₀, t, T', L, E, ce, h0, X', hL, e1, e2, ⟨u, hp, hb, hF⟩, hce, hcv, hcl, st⟩
  · cases hv
    obtain ⟨k1, k2, k3⟩ := vx_keep h0 e1 hS hA hf hL hF
    obtain ⟨t2, a1, b1⟩ := kk r u t T'.heap (locs ++ L) e1.symm (by rw [← e2]; exact X'.warmed.alike) hp hb k1 k2 k3 T' rfl X'
    exact ⟨t2, st t2 a1, b1⟩
  · obtain ⟨k1, k2, k3⟩ := vx_keep h0 e1 hS hAX hf hL hF
    obtain ⟨t2, a1, b1⟩ := kx E ce q u t T'.heap (locs ++ L) e1.symm (by rw [← e2]; exact X'.warmed.alike) hp hb k1 k2 k3 (by rw [e1]; exact hce) hcv hcl T' rfl X'
    exact ⟨t2, st.trans a1, b1⟩
theorem vx_callf {S SX : Type} {post : UInt32 → S → Prop} {px : SX → Prop} {B : S → State → Prop} {BX : String → SX → State → Prop} {AX : Nat → Prop} (hr : vx_Run p l e R s m args below meth c H locs cells slots mc ms (F0 m pc ls st0) rest (va_Qf post B A1 a) (vx_X px BX AX) free) (hS : va_S A0 H0 H locs) (hA : ∀ q, q < H.size → A1 q → A0 q) (hf : ∀ q, free q → A0 q) (hAX : ∀ q, q < H.size → AX q → A0 q)
    (kx : ∀ (E : String) (ce : Cell) (q9 : Addr) (u : SX) (t : State) (H1 : Heap) (locs1 : List Loc), t.heap = H1 → s.vm.Alike t.vm → px u → BX E u t → H.size ≤ H1.size → (∀ q : Nat, q < H.size → ¬ AX q → H1[q]? = H[q]?) → va_S A0 H0 H1 locs1 → H1[q9]? = some ce → ce.vm = .none → s.vm.findClass E = some ce.cls → vx_W p l e R s m args below meth c H1 locs1 (cells + mc) (slots + ms) Q (F0 m pc ls rest) q9)
    (kk : ∀ (r : UInt32) (u : S) (t : State) (H1 : Heap) (locs1 : List Loc), t.heap = H1 → s.vm.Alike t.vm → post r u → B u t → H.size ≤ H1.size → (∀ q : Nat, q < H.size → ¬ A1 q → H1[q]? = H[q]?) → va_S A0 H0 H1 locs1 → W p l e R s m args below meth c H1 locs1 (cells + mc) (slots + ms) Q (F0 m (pc + 3) ls (.float r :: rest))) : W p l e R s m args below meth c H locs cells slots Q (F0 m pc ls st0) := by
  intro T hT X
  rcases hr T hT X with ⟨v, st₀, t, T', L, h0, X', hL, e1, e2, ⟨⟨r, u, hv, hp, hb⟩, hF⟩, st⟩ | ⟨q, st₀, t, T', L, E, ce, h0, X', hL, e1, e2, ⟨u, hp, hb, hF⟩, hce, hcv, hcl, st⟩
  · cases hv
    obtain ⟨k1, k2, k3⟩ := vx_keep h0 e1 hS hA hf hL hF
    obtain ⟨t2, a1, b1⟩ := kk r u t T'.heap (locs ++ L) e1.symm (by rw [← e2]; exact X'.warmed.alike) hp hb k1 k2 k3 T' rfl X'
    exact ⟨t2, st t2 a1, b1⟩
  · obtain ⟨k1, k2, k3⟩ := vx_keep h0 e1 hS hAX hf hL hF
    obtain ⟨t2, a1, b1⟩ := kx E ce q u t T'.heap (locs ++ L) e1.symm (by rw [← e2]; exact X'.warmed.alike) hp hb k1 k2 k3 (by rw [e1]; exact hce) hcv hcl T' rfl X'
    exact ⟨t2, st.trans a1, b1⟩
theorem vx_calld {S SX : Type} {post : UInt64 → S → Prop} {px : SX → Prop} {B : S → State → Prop} {BX : String → SX → State → Prop} {AX : Nat → Prop} (hr : vx_Run p l e R s m args below meth c H locs cells slots mc ms (F0 m pc ls st0) rest (va_Qd post B A1 a) (vx_X px BX AX) free) (hS : va_S A0 H0 H locs) (hA : ∀ q, q < H.size → A1 q → A0 q) (hf : ∀ q, free q → A0 q) (hAX : ∀ q, q < H.size → AX q → A0 q)
    (kx : ∀ (E : String) (ce : Cell) (q9 : Addr) (u : SX) (t : State) (H1 : Heap) (locs1 : List Loc), t.heap = H1 → s.vm.Alike t.vm → px u → BX E u t → H.size ≤ H1.size → (∀ q : Nat, q < H.size → ¬ AX q → H1[q]? = H[q]?) → va_S A0 H0 H1 locs1 → H1[q9]? = some ce → ce.vm = .none → s.vm.findClass E = some ce.cls → vx_W p l e R s m args below meth c H1 locs1 (cells + mc) (slots + ms) Q (F0 m pc ls rest) q9)
    (kk : ∀ (r : UInt64) (u : S) (t : State) (H1 : Heap) (locs1 : List Loc), t.heap = H1 → s.vm.Alike t.vm → post r u → B u t → H.size ≤ H1.size → (∀ q : Nat, q < H.size → ¬ A1 q → H1[q]? = H[q]?) → va_S A0 H0 H1 locs1 → W p l e R s m args below meth c H1 locs1 (cells + mc) (slots + ms) Q (F0 m (pc + 3) ls (.double r :: rest))) : W p l e R s m args below meth c H locs cells slots Q (F0 m pc ls st0) := by
  intro T hT X
  rcases hr T hT X with ⟨v, st₀, t, T', L, h0, X', hL, e1, e2, ⟨⟨r, u, hv, hp, hb⟩, hF⟩, st⟩ | ⟨q, st₀, t, T', L, E, ce, h0, X', hL, e1, e2, ⟨u, hp, hb, hF⟩, hce, hcv, hcl, st⟩
  · cases hv
    obtain ⟨k1, k2, k3⟩ := vx_keep h0 e1 hS hA hf hL hF
    obtain ⟨t2, a1, b1⟩ := kk r u t T'.heap (locs ++ L) e1.symm (by rw [← e2]; exact X'.warmed.alike) hp hb k1 k2 k3 T' rfl X'
    exact ⟨t2, st t2 a1, b1⟩
  · obtain ⟨k1, k2, k3⟩ := vx_keep h0 e1 hS hAX hf hL hF
    obtain ⟨t2, a1, b1⟩ := kx E ce q u t T'.heap (locs ++ L) e1.symm (by rw [← e2]; exact X'.warmed.alike) hp hb k1 k2 k3 (by rw [e1]; exact hce) hcv hcl T' rfl X'
    exact ⟨t2, st.trans a1, b1⟩
theorem vx_callv {S SX : Type} {post : S → Prop} {px : SX → Prop} {B : S → State → Prop} {BX : String → SX → State → Prop} {AX : Nat → Prop} (hr : vx_Run p l e R s m args below meth c H locs cells slots mc ms (F0 m pc ls st0) rest (va_Qv post B A1 a) (vx_X px BX AX) free) (hS : va_S A0 H0 H locs) (hA : ∀ q, q < H.size → A1 q → A0 q) (hf : ∀ q, free q → A0 q) (hAX : ∀ q, q < H.size → AX q → A0 q)
    (kx : ∀ (E : String) (ce : Cell) (q9 : Addr) (u : SX) (t : State) (H1 : Heap) (locs1 : List Loc), t.heap = H1 → s.vm.Alike t.vm → px u → BX E u t → H.size ≤ H1.size → (∀ q : Nat, q < H.size → ¬ AX q → H1[q]? = H[q]?) → va_S A0 H0 H1 locs1 → H1[q9]? = some ce → ce.vm = .none → s.vm.findClass E = some ce.cls → vx_W p l e R s m args below meth c H1 locs1 (cells + mc) (slots + ms) Q (F0 m pc ls rest) q9)
    (kk : ∀ (u : S) (t : State) (H1 : Heap) (locs1 : List Loc), t.heap = H1 → s.vm.Alike t.vm → post u → B u t → H.size ≤ H1.size → (∀ q : Nat, q < H.size → ¬ A1 q → H1[q]? = H[q]?) → va_S A0 H0 H1 locs1 → W p l e R s m args below meth c H1 locs1 (cells + mc) (slots + ms) Q (F0 m (pc + 3) ls (rest))) : W p l e R s m args below meth c H locs cells slots Q (F0 m pc ls st0) := by
  intro T hT X
  rcases hr T hT X with ⟨v, st₀, t, T', L, h0, X', hL, e1, e2, ⟨⟨u, hv, hp, hb⟩, hF⟩, st⟩ | ⟨q, st₀, t, T', L, E, ce, h0, X', hL, e1, e2, ⟨u, hp, hb, hF⟩, hce, hcv, hcl, st⟩
  · cases hv
    obtain ⟨k1, k2, k3⟩ := vx_keep h0 e1 hS hA hf hL hF
    obtain ⟨t2, a1, b1⟩ := kk u t T'.heap (locs ++ L) e1.symm (by rw [← e2]; exact X'.warmed.alike) hp hb k1 k2 k3 T' rfl X'
    exact ⟨t2, st t2 a1, b1⟩
  · obtain ⟨k1, k2, k3⟩ := vx_keep h0 e1 hS hAX hf hL hF
    obtain ⟨t2, a1, b1⟩ := kx E ce q u t T'.heap (locs ++ L) e1.symm (by rw [← e2]; exact X'.warmed.alike) hp hb k1 k2 k3 (by rw [e1]; exact hce) hcv hcl T' rfl X'
    exact ⟨t2, st.trans a1, b1⟩
/-- caught by the row x of this method's table; the rows ahead don't take it -/
theorem vx_catch {own name : String} {E : String} {ce : Cell} {q : Addr} (hown : s.vm.findClass own = some m.cls) (pre : List ExceptionTableEntry) (x : ExceptionTableEntry) (suf : List ExceptionTableEntry) (hsplit : c.exceptionTable.toList = pre ++ x :: suf)
    (hpass : ∀ z ∈ pre, covers z pc = false ∨ (z.catchType ≠ 0 ∧ ∃ nm : String, (Cond.classLink own z.catchType nm).before args s = true ∧ va_Nc E nm s)) (hx : covers x pc = true) (h0 : x.catchType ≠ 0)
    (hlink : (Cond.classLink own x.catchType name).before args s = true) (hcast : (Cond.castable E name).before args s = true) (hcell : H[q]? = some ce) (hv : ce.vm = .none) (hcl : s.vm.findClass E = some ce.cls)
    (kk : W p l e R s m args below meth c H locs cells slots Q (F0 m x.handlerPc ls [.ref q])) : vx_W p l e R s m args below meth c H locs cells slots Q (F0 m pc ls rest) q := by
  intro T hT X
  have hpl : e.platform.magicAccessors = ({} : Platform).magicAccessors := by rw [X.admits.platform]
  obtain ⟨c3, c4, hc3, hc4, hasg⟩ := Cond.castable_spec hcast
  cases Option.some.inj (hc3.symm.trans hcl)
  obtain ⟨c5, hc5, hcl5⟩ := Cond.classLink_spec hown hlink e.platform hpl
  cases Option.some.inj (hc4.symm.trans hc5)
  obtain ⟨vm', X', st⟩ := X.thenCaughtThrough q (g := F0 m pc ls rest) rfl (Steps.refl _) (by rw [hT]; exact hcell) (by rw [hv]; rfl) (by obtain ⟨k9, h9, -⟩ := Vm.findClass_spec hcl; exact ⟨k9, h9⟩) pre x suf hsplit
    (fun z hz => by
      rcases hpass z hz with h | ⟨hz0, nm, hl1, hn1⟩
      · exact Or.inl h
      · obtain ⟨c6, hc6, hcl6⟩ := Cond.classLink_spec hown hl1 e.platform hpl
        obtain ⟨a8, b8, h1, h2, h3⟩ := hn1
        cases Option.some.inj (h1.symm.trans hcl)
        cases Option.some.inj (h2.symm.trans hc6)
        exact Or.inr ⟨hz0, _, hcl6, h3⟩) hx (Or.inr ⟨h0, c4, hcl5, hasg⟩)
  obtain ⟨t, a1, b1⟩ := kk (T.setVm vm') hT X'
  exact ⟨t, st.trans a1, b1⟩
end Rows
section Ends
variable {p : Program} {l : Launch} {e : Env} {R : Room} {s : State} {m : MethodId} {args : Array Value} {below : List Frame} {meth : Method} {c : Code} {H : Heap} {locs : List Loc} {cells slots : Nat} {Q : State → Prop}
variable {mc ms : Nat} {free : Addr → Prop} {A0 A1 : Nat → Prop} {H0 : Heap} {a : Array Value} {ls : Array Slot} {st0 rest : List Value}
variable {Qc : Array Value → State → Outcome → State → Prop} {XC : String → State → State → Prop}
/-- what a body that may throw owes at its end -/
def vx_MQ (below : List Frame) (Qc : Array Value → State → Outcome → State → Prop) (XC : String → State → State → Prop) (a : Array Value) (s : State) (mc ms : Nat) (free : Addr → Prop) : State → Prop := fun t =>
  ∃ o, t.status = .running ∧ Ended t below o ∧ vx_Q Qc XC mc ms free a s o t
theorem vx_ret {g : JFrame} {mc ms : Nat} (k : W p l e R s m args below meth c H locs cells slots (MQ below Qc args s mc ms free) g) : W p l e R s m args below meth c H locs cells slots (vx_MQ below Qc XC args s mc ms free) g := by
  intro T hT X
  obtain ⟨t, a1, o, b1, b2, b3, b4⟩ := k T hT X
  exact ⟨t, a1, o, b1, b2, Or.inl ⟨b3, b4⟩⟩
/-- not caught here: it goes on to the caller -/
theorem vx_widen {g : JFrame} {q : Addr} {k n : Nat} (h1 : cells ≤ k) (h2 : slots ≤ n) (kk : vx_W p l e R s m args below meth c H locs k n Q g q) : vx_W p l e R s m args below meth c H locs cells slots Q g q := fun T hT X => kk T hT (stand_widen X h1 h2)
theorem vx_out {pc : Nat} {E : String} {ce : Cell} {q : Addr} {mc ms : Nat} (hout : ∀ x ∈ c.exceptionTable.toList, covers x pc = false) (hlocks : meth.locks = false) (hcell : H[q]? = some ce) (hv : ce.vm = .none) (hcl : s.vm.findClass E = some ce.cls)
    (hx : ∀ t : State, t.heap = H → s.vm.Alike t.vm → XC E s t) (hf : ∀ z ∈ locs, free z.base) (hc : cells ≤ mc) (hs : slots ≤ ms) :
    vx_W p l e R s m args below meth c H locs cells slots (vx_MQ below Qc XC args s mc ms free) (F0 m pc ls rest) q := by
  intro T hT X
  obtain ⟨st1, hrun, hend, hW, hsm⟩ := X.leaveThrown q (g := F0 m pc ls rest) rfl rfl rfl hout hlocks
  have hcell9 : (T.setFrames (.throwing q :: below)).heap[q]? = some ce := by
    show T.heap[q]? = some ce
    rw [hT]; exact hcell
  exact ⟨_, st1, .threw q, hrun, hend, Or.inr ⟨q, rfl, E, ce, locs, hx _ hT hW.alike, hcell9, hv, hcl, hW, hsm.mono hc hs, hf⟩⟩
theorem vx_frame {U : State} {k n : Nat} (h : s.sameButNew ({ U with vm := s.vm } : State) locs k n) : s.heap.size ≤ U.heap.size ∧ ∀ q : Nat, q < s.heap.size → (∀ z ∈ locs, z.base ≠ q) → U.heap[q]? = s.heap[q]? := by
  obtain ⟨-, h2, -, -, -, h6⟩ := h
  refine ⟨h2, fun q hq hz => ?_⟩
  obtain ⟨c9, e1, e2, e3, e4⟩ := h6 q _ (Array.getElem?_eq_getElem hq)
  have hs : c9.slots = (s.heap[q]).slots := Array.ext_getElem? fun i => e4 i fun hm => hz _ hm rfl
  have h9 : c9 = s.heap[q] := by
    rw [hs] at e2
    exact e2
  have e5 : U.heap[q]? = some c9 := e1
  rw [e5, h9, Array.getElem?_eq_getElem hq]
/-- the words of a throw but the four that speak of the heap -/
def vx_no (w : Cond) : Bool := decide (w ≠ .isRef (.static Bundle.tN "UNASSIGNED_STACK" Bundle.steD)) && decide (w ≠ .isRef (.static Bundle.tN "SUPPRESSED_SENTINEL" Bundle.listD)) && decide (w ≠ .laysStatic Bundle.tN "UNASSIGNED_STACK" Bundle.steD) && decide (w ≠ .laysStatic Bundle.tN "SUPPRESSED_SENTINEL" Bundle.listD)
def vx_at0 (own : String) (ic : Nat) (X : String) (names : List String) : List Cond := (Bundle.ownAtoms0 own ic X names).filter vx_no
def vx_atS (own : String) (ic : Nat) (X : String) (names : List String) : List Cond := (Bundle.ownAtoms own ic X names).filter vx_no
/-- a word that the tables alone decide, or a good one -/
def vx_ot (w : Cond) : Bool := w.onTables || goodWord w
theorem vx_ot_at {args a' : Array Value} {s U : State} {w : Cond} (hW : s.WarmedH U.vm) (hvm : s.vm = U.vm) (hg : vx_ot w = true) (h : w.before args s = true) : w.before a' U = true := by
  simp only [vx_ot, Bool.or_eq_true] at hg
  rcases hg with hg | hg
  · exact va_tabs hg hvm h
  · exact word_at hW (good_of_word hg) h
/-- a list's words: the good ones out of the method's own list, the others by premises of their own -/
theorem vx_hat {args : Array Value} {s : State} {L B : List Cond} (h1 : ∀ w ∈ L.filter goodWord, w.before args s = true) (h2 : ∀ w ∈ L.filter (fun w => !goodWord w), w ∈ B) (h3 : ∀ w ∈ B, w.before args s = true) : ∀ w ∈ L, w.before args s = true := by
  intro w hw
  by_cases g : goodWord w = true
  · exact h1 w (List.mem_filter.mpr ⟨hw, g⟩)
  · refine h3 w (h2 w (List.mem_filter.mpr ⟨hw, ?_⟩))
    show (!goodWord w) = true
    cases hgw : goodWord w
    · rfl
    · exact absurd hgw g
theorem vx_c {args : Array Value} {s : State} {w : Cond} {B : List Cond} (h : w.before args s = true) (t : ∀ w ∈ B, w.before args s = true) : ∀ w' ∈ w :: B, w'.before args s = true := fun w' h' => (List.mem_cons.mp h').elim (fun e => by rw [e]; exact h) (t w')
theorem vx_n {args : Array Value} {s : State} : ∀ w ∈ ([] : List Cond), w.before args s = true := fun _ h => nomatch h
theorem vx_own {args : Array Value} {s : State} {L : List Cond} (h1 : ∀ w ∈ L.filter vx_no, w.before args s = true)
    (hU : (Cond.isRef (.static Bundle.tN "UNASSIGNED_STACK" Bundle.steD)).before args s = true) (hN : (Cond.isRef (.static Bundle.tN "SUPPRESSED_SENTINEL" Bundle.listD)).before args s = true)
    (lU : (Cond.laysStatic Bundle.tN "UNASSIGNED_STACK" Bundle.steD).before args s = true) (lN : (Cond.laysStatic Bundle.tN "SUPPRESSED_SENTINEL" Bundle.listD).before args s = true) : ∀ w ∈ L, w.before args s = true := by
  intro w hw
  by_cases e1 : w = .isRef (.static Bundle.tN "UNASSIGNED_STACK" Bundle.steD)
  · rw [e1]; exact hU
  · by_cases e2 : w = .isRef (.static Bundle.tN "SUPPRESSED_SENTINEL" Bundle.listD)
    · rw [e2]; exact hN
    · by_cases e3 : w = .laysStatic Bundle.tN "UNASSIGNED_STACK" Bundle.steD
      · rw [e3]; exact lU
      · by_cases e4 : w = .laysStatic Bundle.tN "SUPPRESSED_SENTINEL" Bundle.listD
        · rw [e4]; exact lN
        · exact h1 w (List.mem_filter.mpr ⟨hw, by unfold vx_no; rw [decide_eq_true e1, decide_eq_true e2, decide_eq_true e3, decide_eq_true e4]; rfl⟩)
/-- where a static field lies, its class's statics cell in H -/
def vx_L (C n d : String) (A : Nat → Prop) (U : State) (H : Heap) : Prop := ∃ (c : ClassId) (k : Class) (i : Nat) (f : Field) (a : Nat) (cell : Cell), U.vm.findClass C = some c ∧ U.fieldFound? C n d = some (c, k, i, f) ∧ f.isStatic = true ∧ k.statics = some a ∧ H[a]? = some cell ∧ cell.vm.isStatics = true ∧ cell.cls = c ∧ f.slot < cell.slots.size ∧ k.staticTypes[f.slot]? = some f.type ∧ ¬ A a
theorem vx_L.moved {C n d : String} {A : Nat → Prop} {u U : State} {H : Heap} (hvm : u.vm.Alike U.vm) (h : vx_L C n d A u H) : vx_L C n d A U H := by
  obtain ⟨c, k, i, f, a, cell, h1, h2, h3, h4, h5, h6, h7, h8, h9, h10⟩ := h
  obtain ⟨k', hi', he⟩ := State.fieldFound?_setVm hvm h2
  exact ⟨c, k', i, f, a, cell, by rw [hvm.findClass]; exact h1, hi', h3, by rw [he]; exact h4, h5, h6, h7, h8, by rw [he]; exact h9, h10⟩
theorem vx_L.kept {C n d : String} {A : Nat → Prop} {U : State} {H H1 : Heap} (h : vx_L C n d A U H) (hq : ∀ a : Nat, a < H.size → ¬ A a → H1[a]? = H[a]?) : vx_L C n d A U H1 := by
  obtain ⟨c, k, i, f, a, cell, h1, h2, h3, h4, h5, h6, h7, h8, h9, h10⟩ := h
  exact ⟨c, k, i, f, a, cell, h1, h2, h3, h4, by rw [hq a (Array.getElem?_eq_some_iff.mp h5).1 h10]; exact h5, h6, h7, h8, h9, h10⟩
theorem vx_L.narrow {C n d : String} {A B : Nat → Prop} {U : State} {H : Heap} (h : vx_L C n d A U H) (hAB : ∀ q, B q → A q) : vx_L C n d B U H := by
  obtain ⟨c, k, i, f, a, cell, h1, h2, h3, h4, h5, h6, h7, h8, h9, h10⟩ := h
  exact ⟨c, k, i, f, a, cell, h1, h2, h3, h4, h5, h6, h7, h8, h9, fun z => h10 (hAB _ z)⟩
theorem vx_L.word {C n d : String} {A : Nat → Prop} {s : State} {args : Array Value} (h : vx_L C n d A s s.heap) : (Cond.laysStatic C n d).before args s = true := by
  obtain ⟨c, k, i, f, a, cell, h1, h2, h3, h4, h5, h6, h7, h8, h9, -⟩ := h
  show (Cond.laysStatic C n d).holds args s none s [] = true
  exact Cond.laysStatic_of h1 h2 h3 h4 h5 h6 h7 h8 h9
/-- .. and what it holds: null or some reference -/
def vx_Zq (C n d : String) (A : Nat → Prop) (U : State) (H : Heap) : Prop := va_Zq C n d A U H ∧ vx_L C n d A U H
theorem vx_Zq.moved {C n d : String} {A : Nat → Prop} {u U : State} {H : Heap} (hvm : u.vm.Alike U.vm) (h : vx_Zq C n d A u H) : vx_Zq C n d A U H := ⟨va_Zq.moved hvm h.1, vx_L.moved hvm h.2⟩
theorem vx_Zq.kept {C n d : String} {A : Nat → Prop} {U : State} {H H1 : Heap} (h : vx_Zq C n d A U H) (hq : ∀ a : Nat, a < H.size → ¬ A a → H1[a]? = H[a]?) : vx_Zq C n d A U H1 := ⟨va_Zq.kept h.1 hq, vx_L.kept h.2 hq⟩
theorem vx_Zq.narrow {C n d : String} {A B : Nat → Prop} {U : State} {H : Heap} (h : vx_Zq C n d A U H) (hAB : ∀ q, B q → A q) : vx_Zq C n d B U H := ⟨va_Zq.narrow h.1 hAB, vx_L.narrow h.2 hAB⟩
theorem vx_Zqof {args : Array Value} {s : State} {C n d : String} {A : Nat → Prop} (hl : (Cond.laysStatic C n d).before args s = true) (hini : (Cond.initialized C).before args s = true) (h : (Cond.isRef (.static C n d)).before args s = true) (hA : ∀ a : Nat, a < s.heap.size → ¬ A a) : vx_Zq C n d A s s.heap := by
  refine ⟨va_Zqof hl hini h hA, ?_⟩
  obtain ⟨c, k, i, f, a, cell, h1, h2, h3, h4, h5, h6, h7, h8, h9⟩ := Cond.laysStatic_spec hl
  exact ⟨c, k, i, f, a, cell, h1, h2, h3, h4, h5, h6, h7, h8, h9, hA a (Array.getElem?_eq_some_iff.mp h5).1⟩
theorem vx_isRef {C n d : String} {v : Value} {A : Nat → Prop} {s : State} {args : Array Value} (h : va_Z C n d v A s s.heap) (hv : v.isRef = true) : (Cond.isRef (.static C n d)).before args s = true := by
  obtain ⟨cf, kf, fi, f, a, cell, h1, h2, h3, h4, h5, h6, h7, -⟩ := h
  have he : (Term.static C n d).eval args s none [] s = some v := by
    simp [Term.eval, State.fieldNamed?, h1, h2, h4, h5, h6, h7]
  simp only [Cond.before, Cond.holds, Cond.value, he]
  cases v <;> simp_all [Value.isRef]
theorem vx_isRefq {C n d : String} {A : Nat → Prop} {s : State} {args : Array Value} (h : va_Zq C n d A s s.heap) : (Cond.isRef (.static C n d)).before args s = true := by
  rcases h with h | ⟨t, h⟩
  · exact vx_isRef h rfl
  · exact vx_isRef h rfl
/-- the same frame, seen from here: as if the method were called anew in this heap -/
theorem vx_rebase {T : State} (X : Stand p l e R s m args below meth c T locs cells slots) {R' : Room} (hf : R'.frames ≤ R.frames) (hl : R'.locals ≤ R.locals) (hc : cells + R'.cells ≤ R.cells) (hs : slots + R'.slots ≤ R.slots) :
    Stand p l e R' ((T.setVm s.vm).setFrames (.invoking m args :: below)) m args below meth c T [] 0 0 := by
  have htop : (T.setVm s.vm).topJava?.isSome := X.here.top
  have hF : ((T.setVm s.vm).setFrames (.invoking m args :: below)).frames = .invoking m args :: below := State.frames_setFrames _ (State.cur_lt_of_top htop)
  obtain ⟨g₀, hg0⟩ := Option.isSome_iff_exists.mp htop
  obtain ⟨r, hr⟩ := State.topJava?_eq_some.mp hg0
  have hl9 : e.platform.stackLimits (T.setVm s.vm).me = e.platform.stackLimits s.me := X.limits
  have hb9 : (T.setVm s.vm).me.stackBytes = s.me.stackBytes := X.bytes
  refine ⟨X.admits, X.cas, X.clock, hF, ?_, X.hears, X.method, X.code, X.here, X.tail, X.warmed, ?_, ?_, ?_⟩
  · have h := X.room
    have hU : ((T.setVm s.vm).setFrames (.invoking m args :: below)).localsInUse = s.localsInUse := by
      rw [State.localsInUse_invoking hF (meth := meth) (c := c) X.method X.code, State.localsInUse_invoking X.frames X.method X.code]
    simp only [State.hasRoom, Bool.and_eq_true, decide_eq_true_eq] at h ⊢
    obtain ⟨⟨⟨⟨h1, h2, h3, h4, h5, h6⟩, h7⟩, h8⟩, h9⟩ := h
    rw [X.frames, List.length_cons] at h2 h3
    have q1 := X.heapSize
    have q2 := X.used
    simp only [hF, hU, List.length_cons, State.stackLimits_setFrames, State.stackBytes_setFrames, hl9, hb9]
    refine ⟨⟨⟨⟨by omega, by omega, by omega, by omega, by omega, h6⟩, ?_⟩, ?_⟩, X.book⟩
    · show T.heap.size + R'.cells ≤ e.platform.maxCells
      omega
    · show T.slotsUsed + R'.slots ≤ e.platform.maxSlots
      omega
  · rw [State.stackLimits_setFrames]; rfl
  · rw [State.stackBytes_setFrames]; rfl
  · refine ⟨?_, Nat.le_refl _, Nat.le_refl _, ?_, ?_, fun a c9 h9 => ⟨c9, h9, rfl, rfl, fun _ _ => rfl⟩⟩
    · obtain ⟨t, ht, -⟩ := State.frames_cons hr
      show T.setVm s.vm = { ((T.setVm s.vm).setFrames (.invoking m args :: below)).setFrames (T.setVm s.vm).frames with heap := T.heap, slotsUsed := T.slotsUsed }
      rw [State.setFrames_setFrames, State.setFrames_self ht]
      rfl
    · show T.slotsUsed = T.slotsUsed + ((T.heap.toList.drop T.heap.size).map (·.slots.size)).sum
      rw [List.drop_eq_nil_of_le (Nat.le_of_eq Array.length_toList)]
      rfl
    · show ((T.heap.toList.drop T.heap.size).map (·.slots.size)).sum ≤ 0
      rw [List.drop_eq_nil_of_le (Nat.le_of_eq Array.length_toList)]
      exact Nat.le_refl _
/-- 'throw new E()': new; dup; invokespecial; athrow -/
theorem vx_throw0 {cc : ByteArray} {pc : Nat} (hexec : p.tables.exec = Jvm.exec) (hb : c.code = cc) (hl : l.stackTraces = false) {own cls : String} {names : List String} {ik ic mc ms : Nat} {A : Nat → Prop}
    (hown : s.vm.findClass own = some m.cls) (hcls : Bundle.fit cls = true) (hnames : ∀ n ∈ names, Bundle.fit n = true)
    (hk : (Cond.classLink own ik cls).before args s = true) (hini : (Cond.initialized cls).before args s = true) (hat : ∀ w ∈ vx_at0 own ic cls names, w.before args s = true)
    (hgood : ∀ w ∈ Cond.classLink own ik cls :: Cond.initialized cls :: vx_at0 own ic cls names, vx_ot w = true)
    (hU : vx_Zq Bundle.tN "UNASSIGNED_STACK" Bundle.steD A s s.heap) (hN : vx_Zq Bundle.tN "SUPPRESSED_SENTINEL" Bundle.listD A s s.heap) (hS : va_S A s.heap H locs) (hsize : ls.size = c.maxLocals)
    (d0 : decode cc pc = .ok (.new ik, 3)) (d3 : decode cc (pc + 3) = .ok (.dup, 1)) (d4 : decode cc (pc + 4) = .ok (.invokespecial ic, 3)) (d7 : decode cc (pc + 7) = .ok (.athrow, 1))
    (hout : ∀ x ∈ c.exceptionTable.toList, covers x (pc + 7) = false)
    (hRframes : names.length + 3 < R.frames) (hRlocals : (rest.map fun v => v.category).sum + (13 * (names.length + 1) + 42) ≤ R.locals) (hRcells : cells + 1 ≤ R.cells) (hRslots : slots + 6 ≤ R.slots) (hlocks : meth.locks = false)
    (hx : ∀ t : State, s.vm.Alike t.vm → H.size ≤ t.heap.size → (∀ q : Nat, q < H.size → t.heap[q]? = H[q]?) → XC cls s t)
    (hf : ∀ z ∈ locs, free z.base) (hc : cells + 1 ≤ mc) (hs : slots + 6 ≤ ms) :
    W p l e R s m args below meth c H locs cells slots (vx_MQ below Qc XC args s mc ms free) (F0 m pc ls rest) := by
  intro T hT X
  have htr : e.platform.stackTraces = false := (show e.platform.stackTraces = l.stackTraces by rw [X.admits.platform]).trans hl
  have Y := vx_rebase X (R' := { frames := R.frames, locals := R.locals, cells := 1, slots := 6 }) (Nat.le_refl _) (Nat.le_refl _) hRcells hRslots
  obtain ⟨s', hA⟩ : ∃ z, z = (T.setVm s.vm).setFrames (.invoking m args :: below) := ⟨_, rfl⟩
  rw [← hA] at Y
  have hvm : s'.vm = s.vm := by rw [hA]; rfl
  have hhp : s'.heap = H := by rw [hA]; exact hT
  have hW0 : s.WarmedH s'.vm := by rw [hvm]; exact State.WarmedH.refl s
  have hat' : ∀ w ∈ vx_at0 own ic cls names, w.before args s' = true := fun w hw => vx_ot_at hW0 hvm.symm (hgood w (List.mem_cons_of_mem _ (List.mem_cons_of_mem _ hw))) (hat w hw)
  have hk' : (Cond.classLink own ik cls).before args s' = true := vx_ot_at hW0 hvm.symm (hgood _ List.mem_cons_self) hk
  have hini' : (Cond.initialized cls).before args s' = true := vx_ot_at hW0 hvm.symm (hgood _ (List.mem_cons_of_mem _ List.mem_cons_self)) hini
  have hU' : vx_Zq Bundle.tN "UNASSIGNED_STACK" Bundle.steD A s' s'.heap := by rw [hhp]; exact vx_Zq.moved hW0.alike (hU.kept hS.2.1)
  have hN' : vx_Zq Bundle.tN "SUPPRESSED_SENTINEL" Bundle.listD A s' s'.heap := by rw [hhp]; exact vx_Zq.moved hW0.alike (hN.kept hS.2.1)
  have h : ∀ w ∈ Bundle.ownAtoms0 own ic cls names, w.before args s' = true := vx_own hat' (vx_isRefq hU'.1) (vx_isRefq hN'.1) hU'.2.word hN'.2.word
  have hown' : s'.vm.findClass own = some m.cls := by rw [hvm]; exact hown
  have hins : (Cond.instantiable cls 6).before args s' = true := h _ (by simp [Bundle.ownAtoms0])
  obtain ⟨vm₁, cX, kX, hfX, hkX, -, -, X₁, st1⟩ := Y.newCold hexec (own := own) (C := cls) (index := ik) (n := 6) hown' hk' hins hini'
    (g := F0 m pc ls rest) rfl (by rw [hb]; exact d0) (Nat.le_refl _) (Nat.le_refl _)
  generalize hT1 : (T.setVm vm₁).pushCell { cls := cX, slots := kX.instanceTypes.map defaultValue, vm := .none } = T1 at X₁ st1
  have hcat : (Value.ref T.heap.size).category = 1 := rfl
  have hcellA : T1.heap[T.heap.size]? = some (freshCell cX kX) := by rw [← hT1]; exact State.heap_pushCell_size _ _
  have d3' : decode c.code (pc + 3) = .ok (.dup, 1) := by rw [hb]; exact d3
  obtain ⟨U, hsteps, hrun, hend, hW, hsame, ce, hce, hO⟩ := X₁.ctorThrow0 hexec htr (own := own) (cls := cls) (names := names) (ic := ic) hown' hcls hnames h (fun x hx => nomatch hx) hfX hkX hcellA (by rw [hhp, hT]; exact Nat.le_refl _)
    (g := { method := m, pc := pc + 4, locals := ls, stack := .ref T.heap.size :: .ref T.heap.size :: rest, locked := none }) rfl hsize rfl rfl (rest := rest) rfl
    (by rw [hb]; exact d4) (by rw [hb]; exact d7) hout hRframes (by simp only [List.map_cons, List.sum_cons, hcat]; omega) hlocks
  obtain ⟨f1, f2⟩ := vx_frame hsame
  rw [hhp] at f1 f2
  have hWs : s.WarmedH U.vm := State.WarmedH.trans hW0 hW
  have hcl : s.vm.findClass cls = some ce.cls := by
    have h9 := hO.cls
    rw [hvm] at h9
    exact h9
  have hall : s.sameButNew ({ U with vm := s.vm } : State) locs mc ms := by
    subst hA
    obtain ⟨e1, e2⟩ := hsame
    rw [State.setFrames_setFrames] at e1
    have h2 : (T.setVm s.vm).sameButNew ({ U with vm := s.vm } : State) [] (0 + 1) (0 + 6) := ⟨e1, e2⟩
    have h3 := X.same.trans h2
    rw [List.append_nil] at h3
    exact h3.mono hc hs
  refine ⟨U, ?_, .threw T.heap.size, hrun, hend, Or.inr ⟨T.heap.size, rfl, cls, ce, locs, hx U hWs.alike f1 (fun q hq => f2 q hq (fun z hz => nomatch hz)), hce, hO.vm, hcl, hWs, hall, hf⟩⟩
  refine st1 _ ?_
  show Steps p.tables e below (T1.setTop { method := m, pc := pc + 3, locals := ls, stack := .ref T.heap.size :: rest, locked := none }) _
  jvm_step X₁.here [X₁.here.top, hexec, d3', Value.category]
  exact hsteps
/-- 'throw new E("text")': new; dup; ldc; invokespecial; athrow -/
theorem vx_throwS {cc : ByteArray} {pc : Nat} (hexec : p.tables.exec = Jvm.exec) (hb : c.code = cc) (hl : l.stackTraces = false) {own cls text : String} {names : List String} {ik is ic mc ms sa : Nat} {A : Nat → Prop}
    (hown : s.vm.findClass own = some m.cls) (hcls : Bundle.fit cls = true) (hnames : ∀ n ∈ names, Bundle.fit n = true)
    (hk : (Cond.classLink own ik cls).before args s = true) (hini : (Cond.initialized cls).before args s = true) (hstr : vk_R own is text sa s) (hat : ∀ w ∈ vx_atS own ic cls names, w.before args s = true)
    (hgood : ∀ w ∈ Cond.classLink own ik cls :: Cond.initialized cls :: vx_atS own ic cls names, vx_ot w = true)
    (hU : vx_Zq Bundle.tN "UNASSIGNED_STACK" Bundle.steD A s s.heap) (hN : vx_Zq Bundle.tN "SUPPRESSED_SENTINEL" Bundle.listD A s s.heap) (hS : va_S A s.heap H locs) (hsize : ls.size = c.maxLocals)
    (d0 : decode cc pc = .ok (.new ik, 3)) (d3 : decode cc (pc + 3) = .ok (.dup, 1)) (d4 : decode cc (pc + 4) = .ok (.ldc is, 2)) (d6 : decode cc (pc + 6) = .ok (.invokespecial ic, 3)) (d9 : decode cc (pc + 9) = .ok (.athrow, 1))
    (hout : ∀ x ∈ c.exceptionTable.toList, covers x (pc + 9) = false)
    (hRframes : names.length + 3 < R.frames) (hRlocals : (rest.map fun v => v.category).sum + (13 * (names.length + 1) + 43) ≤ R.locals) (hRcells : cells + 1 ≤ R.cells) (hRslots : slots + 6 ≤ R.slots) (hlocks : meth.locks = false)
    (hx : ∀ t : State, s.vm.Alike t.vm → H.size ≤ t.heap.size → (∀ q : Nat, q < H.size → t.heap[q]? = H[q]?) → XC cls s t)
    (hf : ∀ z ∈ locs, free z.base) (hc : cells + 1 ≤ mc) (hs : slots + 6 ≤ ms) :
    W p l e R s m args below meth c H locs cells slots (vx_MQ below Qc XC args s mc ms free) (F0 m pc ls rest) := by
  intro T hT X
  have htr : e.platform.stackTraces = false := (show e.platform.stackTraces = l.stackTraces by rw [X.admits.platform]).trans hl
  have Y := vx_rebase X (R' := { frames := R.frames, locals := R.locals, cells := 1, slots := 6 }) (Nat.le_refl _) (Nat.le_refl _) hRcells hRslots
  obtain ⟨s', hA⟩ : ∃ z, z = (T.setVm s.vm).setFrames (.invoking m args :: below) := ⟨_, rfl⟩
  rw [← hA] at Y
  have hvm : s'.vm = s.vm := by rw [hA]; rfl
  have hhp : s'.heap = H := by rw [hA]; exact hT
  have hW0 : s.WarmedH s'.vm := by rw [hvm]; exact State.WarmedH.refl s
  have hat' : ∀ w ∈ vx_atS own ic cls names, w.before args s' = true := fun w hw => vx_ot_at hW0 hvm.symm (hgood w (List.mem_cons_of_mem _ (List.mem_cons_of_mem _ hw))) (hat w hw)
  have hk' : (Cond.classLink own ik cls).before args s' = true := vx_ot_at hW0 hvm.symm (hgood _ List.mem_cons_self) hk
  have hini' : (Cond.initialized cls).before args s' = true := vx_ot_at hW0 hvm.symm (hgood _ (List.mem_cons_of_mem _ List.mem_cons_self)) hini
  have hU' : vx_Zq Bundle.tN "UNASSIGNED_STACK" Bundle.steD A s' s'.heap := by rw [hhp]; exact vx_Zq.moved hW0.alike (hU.kept hS.2.1)
  have hN' : vx_Zq Bundle.tN "SUPPRESSED_SENTINEL" Bundle.listD A s' s'.heap := by rw [hhp]; exact vx_Zq.moved hW0.alike (hN.kept hS.2.1)
  have h : ∀ w ∈ Bundle.ownAtoms own ic cls names, w.before args s' = true := vx_own hat' (vx_isRefq hU'.1) (vx_isRefq hN'.1) hU'.2.word hN'.2.word
  have hown' : s'.vm.findClass own = some m.cls := by rw [hvm]; exact hown
  have hins : (Cond.instantiable cls 6).before args s' = true := h _ (by simp [Bundle.ownAtoms])
  obtain ⟨vm₁, cX, kX, hfX, hkX, -, -, X₁, st1⟩ := Y.newCold hexec (own := own) (C := cls) (index := ik) (n := 6) hown' hk' hins hini'
    (g := F0 m pc ls rest) rfl (by rw [hb]; exact d0) (Nat.le_refl _) (Nat.le_refl _)
  generalize hT1 : (T.setVm vm₁).pushCell { cls := cX, slots := kX.instanceTypes.map defaultValue, vm := .none } = T1 at X₁ st1
  have hcat : (Value.ref T.heap.size).category = 1 := rfl
  have hcellA : T1.heap[T.heap.size]? = some (freshCell cX kX) := by rw [← hT1]; exact State.heap_pushCell_size _ _
  have d3' : decode c.code (pc + 3) = .ok (.dup, 1) := by rw [hb]; exact d3
  have d4' : decode c.code (pc + 4) = .ok (.ldc is, 2) := by rw [hb]; exact d4
  have hstr' : vk_R own is text sa s' := vk_R.warm hW0 hstr
  obtain ⟨U, hsteps, hrun, hend, hW, hsame, ce, hce, hO⟩ := X₁.ctorThrowS hexec htr (own := own) (cls := cls) (names := names) (ic := ic) hown' hcls hnames h (fun x hx => nomatch hx) hfX hkX hcellA (by rw [hhp, hT]; exact Nat.le_refl _) (msg := .ref sa) rfl
    (g := { method := m, pc := pc + 6, locals := ls, stack := .ref sa :: .ref T.heap.size :: .ref T.heap.size :: rest, locked := none }) rfl hsize rfl rfl (rest := rest) rfl
    (by rw [hb]; exact d6) (by rw [hb]; exact d9) hout hRframes (by simp only [List.map_cons, List.sum_cons, hcat]; omega) hlocks
  obtain ⟨f1, f2⟩ := vx_frame hsame
  rw [hhp] at f1 f2
  have hWs : s.WarmedH U.vm := State.WarmedH.trans hW0 hW
  have hcl : s.vm.findClass cls = some ce.cls := by
    have h9 := hO.cls
    rw [hvm] at h9
    exact h9
  have hall : s.sameButNew ({ U with vm := s.vm } : State) locs mc ms := by
    subst hA
    obtain ⟨e1, e2⟩ := hsame
    rw [State.setFrames_setFrames] at e1
    have h2 : (T.setVm s.vm).sameButNew ({ U with vm := s.vm } : State) [] (0 + 1) (0 + 6) := ⟨e1, e2⟩
    have h3 := X.same.trans h2
    rw [List.append_nil] at h3
    exact h3.mono hc hs
  refine ⟨U, ?_, .threw T.heap.size, hrun, hend, Or.inr ⟨T.heap.size, rfl, cls, ce, locs, hx U hWs.alike f1 (fun q hq => f2 q hq (fun z hz => nomatch hz)), hce, hO.vm, hcl, hWs, hall, hf⟩⟩
  refine st1 _ ?_
  show Steps p.tables e below (T1.setTop { method := m, pc := pc + 3, locals := ls, stack := .ref T.heap.size :: rest, locked := none }) _
  jvm_step X₁.here [X₁.here.top, hexec, d3', Value.category]
  exact X₁.ldcString hexec (own := own) (text := text) (index := is) (a := sa) hown' hstr'.1 hstr'.2
    (g := { method := m, pc := pc + 4, locals := ls, stack := .ref T.heap.size :: .ref T.heap.size :: rest, locked := none }) rfl d4' _ hsteps
/-- 'throw new E("text")', the text by a wide index -/
theorem vx_throwSW {cc : ByteArray} {pc : Nat} (hexec : p.tables.exec = Jvm.exec) (hb : c.code = cc) (hl : l.stackTraces = false) {own cls text : String} {names : List String} {ik is ic mc ms sa : Nat} {A : Nat → Prop}
    (hown : s.vm.findClass own = some m.cls) (hcls : Bundle.fit cls = true) (hnames : ∀ n ∈ names, Bundle.fit n = true)
    (hk : (Cond.classLink own ik cls).before args s = true) (hini : (Cond.initialized cls).before args s = true) (hstr : vk_R own is text sa s) (hat : ∀ w ∈ vx_atS own ic cls names, w.before args s = true)
    (hgood : ∀ w ∈ Cond.classLink own ik cls :: Cond.initialized cls :: vx_atS own ic cls names, vx_ot w = true)
    (hU : vx_Zq Bundle.tN "UNASSIGNED_STACK" Bundle.steD A s s.heap) (hN : vx_Zq Bundle.tN "SUPPRESSED_SENTINEL" Bundle.listD A s s.heap) (hS : va_S A s.heap H locs) (hsize : ls.size = c.maxLocals)
    (d0 : decode cc pc = .ok (.new ik, 3)) (d3 : decode cc (pc + 3) = .ok (.dup, 1)) (d4 : decode cc (pc + 4) = .ok (.ldc_w is, 3)) (d7 : decode cc (pc + 7) = .ok (.invokespecial ic, 3)) (d10 : decode cc (pc + 10) = .ok (.athrow, 1))
    (hout : ∀ x ∈ c.exceptionTable.toList, covers x (pc + 10) = false)
    (hRframes : names.length + 3 < R.frames) (hRlocals : (rest.map fun v => v.category).sum + (13 * (names.length + 1) + 43) ≤ R.locals) (hRcells : cells + 1 ≤ R.cells) (hRslots : slots + 6 ≤ R.slots) (hlocks : meth.locks = false)
    (hx : ∀ t : State, s.vm.Alike t.vm → H.size ≤ t.heap.size → (∀ q : Nat, q < H.size → t.heap[q]? = H[q]?) → XC cls s t)
    (hf : ∀ z ∈ locs, free z.base) (hc : cells + 1 ≤ mc) (hs : slots + 6 ≤ ms) :
    W p l e R s m args below meth c H locs cells slots (vx_MQ below Qc XC args s mc ms free) (F0 m pc ls rest) := by
  intro T hT X
  have htr : e.platform.stackTraces = false := (show e.platform.stackTraces = l.stackTraces by rw [X.admits.platform]).trans hl
  have Y := vx_rebase X (R' := { frames := R.frames, locals := R.locals, cells := 1, slots := 6 }) (Nat.le_refl _) (Nat.le_refl _) hRcells hRslots
  obtain ⟨s', hA⟩ : ∃ z, z = (T.setVm s.vm).setFrames (.invoking m args :: below) := ⟨_, rfl⟩
  rw [← hA] at Y
  have hvm : s'.vm = s.vm := by rw [hA]; rfl
  have hhp : s'.heap = H := by rw [hA]; exact hT
  have hW0 : s.WarmedH s'.vm := by rw [hvm]; exact State.WarmedH.refl s
  have hat' : ∀ w ∈ vx_atS own ic cls names, w.before args s' = true := fun w hw => vx_ot_at hW0 hvm.symm (hgood w (List.mem_cons_of_mem _ (List.mem_cons_of_mem _ hw))) (hat w hw)
  have hk' : (Cond.classLink own ik cls).before args s' = true := vx_ot_at hW0 hvm.symm (hgood _ List.mem_cons_self) hk
  have hini' : (Cond.initialized cls).before args s' = true := vx_ot_at hW0 hvm.symm (hgood _ (List.mem_cons_of_mem _ List.mem_cons_self)) hini
  have hU' : vx_Zq Bundle.tN "UNASSIGNED_STACK" Bundle.steD A s' s'.heap := by rw [hhp]; exact vx_Zq.moved hW0.alike (hU.kept hS.2.1)
  have hN' : vx_Zq Bundle.tN "SUPPRESSED_SENTINEL" Bundle.listD A s' s'.heap := by rw [hhp]; exact vx_Zq.moved hW0.alike (hN.kept hS.2.1)
  have h : ∀ w ∈ Bundle.ownAtoms own ic cls names, w.before args s' = true := vx_own hat' (vx_isRefq hU'.1) (vx_isRefq hN'.1) hU'.2.word hN'.2.word
  have hown' : s'.vm.findClass own = some m.cls := by rw [hvm]; exact hown
  have hins : (Cond.instantiable cls 6).before args s' = true := h _ (by simp [Bundle.ownAtoms])
  obtain ⟨vm₁, cX, kX, hfX, hkX, -, -, X₁, st1⟩ := Y.newCold hexec (own := own) (C := cls) (index := ik) (n := 6) hown' hk' hins hini'
    (g := F0 m pc ls rest) rfl (by rw [hb]; exact d0) (Nat.le_refl _) (Nat.le_refl _)
  generalize hT1 : (T.setVm vm₁).pushCell { cls := cX, slots := kX.instanceTypes.map defaultValue, vm := .none } = T1 at X₁ st1
  have hcat : (Value.ref T.heap.size).category = 1 := rfl
  have hcellA : T1.heap[T.heap.size]? = some (freshCell cX kX) := by rw [← hT1]; exact State.heap_pushCell_size _ _
  have d3' : decode c.code (pc + 3) = .ok (.dup, 1) := by rw [hb]; exact d3
  have d4' : decode c.code (pc + 4) = .ok (.ldc_w is, 3) := by rw [hb]; exact d4
  have hstr' : vk_R own is text sa s' := vk_R.warm hW0 hstr
  obtain ⟨U, hsteps, hrun, hend, hW, hsame, ce, hce, hO⟩ := X₁.ctorThrowS hexec htr (own := own) (cls := cls) (names := names) (ic := ic) hown' hcls hnames h (fun x hx => nomatch hx) hfX hkX hcellA (by rw [hhp, hT]; exact Nat.le_refl _) (msg := .ref sa) rfl
    (g := { method := m, pc := pc + 7, locals := ls, stack := .ref sa :: .ref T.heap.size :: .ref T.heap.size :: rest, locked := none }) rfl hsize rfl rfl (rest := rest) rfl
    (by rw [hb]; exact d7) (by rw [hb]; exact d10) hout hRframes (by simp only [List.map_cons, List.sum_cons, hcat]; omega) hlocks
  obtain ⟨f1, f2⟩ := vx_frame hsame
  rw [hhp] at f1 f2
  have hWs : s.WarmedH U.vm := State.WarmedH.trans hW0 hW
  have hcl : s.vm.findClass cls = some ce.cls := by
    have h9 := hO.cls
    rw [hvm] at h9
    exact h9
  have hall : s.sameButNew ({ U with vm := s.vm } : State) locs mc ms := by
    subst hA
    obtain ⟨e1, e2⟩ := hsame
    rw [State.setFrames_setFrames] at e1
    have h2 : (T.setVm s.vm).sameButNew ({ U with vm := s.vm } : State) [] (0 + 1) (0 + 6) := ⟨e1, e2⟩
    have h3 := X.same.trans h2
    rw [List.append_nil] at h3
    exact h3.mono hc hs
  refine ⟨U, ?_, .threw T.heap.size, hrun, hend, Or.inr ⟨T.heap.size, rfl, cls, ce, locs, hx U hWs.alike f1 (fun q hq => f2 q hq (fun z hz => nomatch hz)), hce, hO.vm, hcl, hWs, hall, hf⟩⟩
  refine st1 _ ?_
  show Steps p.tables e below (T1.setTop { method := m, pc := pc + 3, locals := ls, stack := .ref T.heap.size :: rest, locked := none }) _
  jvm_step X₁.here [X₁.here.top, hexec, d3', Value.category]
  exact X₁.ldcStringW hexec (own := own) (text := text) (index := is) (a := sa) hown' hstr'.1 hstr'.2
    (g := { method := m, pc := pc + 4, locals := ls, stack := .ref T.heap.size :: .ref T.heap.size :: rest, locked := none }) rfl d4' _ hsteps
end Ends
section Bodies
variable {l : Launch}
theorem vx_ofW {y : MethodName} {ws ws' : List Cond} {rm : Room} {Pc : Array Value → State → Prop} {Qc : Array Value → State → Outcome → State → Prop} {XC : String → State → State → Prop} {mc ms : Nat} {free : Addr → Prop} {cc : ByteArray} {maxL : Nat} {ret : Option FieldType}
    (hy : plainName y.cls = true) (hw : ws = Cond.code y cc maxL ret :: ws')
    (body : ∀ p e s m args below meth c s₁, BodyLoose p l y (headSpec ws rm) cc maxL ret e s m args below meth c s₁ → c.maxLocals = maxL → (∀ x ∈ c.exceptionTable.toList, False) → Pc args s →
      W p l e (headSpec ws rm).room s m args below meth c s.heap [] 0 0 (vx_MQ below Qc XC args s mc ms free) (entryFrame m args maxL)) : vx_Met l y ws rm Pc Qc XC mc ms free := by
  refine MetFree.of_bodyS (code := cc) (maxLocals := maxL) (ret := ret) hy ?_ ?_
  · intro args s m h hn
    obtain ⟨meth, c, h1, h2, h3, h4, h5, h6, -, -⟩ := Cond.code_spec hn (atoms_spec (ws := ws) h _ (by rw [hw]; exact List.mem_cons_self))
    exact ⟨meth, c, h1, h2, h3, h4, h5, h6⟩
  · intro p e s m args below meth c s₁ B hml hP _
    have hh0 : s₁.heap = s.heap := by rw [B.state]; rfl
    have ht : ∀ x ∈ c.exceptionTable.toList, False := by
      obtain ⟨meth9, c9, h1, h2, -, -, -, -, h7, -⟩ := Cond.code_spec B.named (atoms_spec (ws := ws) B.pre _ (by rw [hw]; exact List.mem_cons_self))
      cases Option.some.inj (h1.symm.trans B.method)
      cases Option.some.inj (h2.symm.trans (Stand.of_body B).code)
      intro x hx
      rw [Array.isEmpty_iff.mp h7] at hx
      cases hx
    obtain ⟨t, a1, o, b1, b2, b3⟩ := body p e s m args below meth c s₁ B hml ht hP s₁ hh0 (Stand.of_body B)
    exact ⟨t, o, a1, b1, b2, b3⟩
/-- the table of a body with handlers -/
theorem vx_table {p : Program} {x y : MethodName} {S : Spec} {cc bytes : ByteArray} {maxL maxL' : Nat} {ret ret' : Option FieldType} {e : Env} {s s₁ : State} {m : MethodId} {args : Array Value} {below : List Frame} {meth : Method} {c : Code} {hh : List (Nat × Nat × Nat × Nat)}
    (B : BodyLoose p l y S cc maxL ret e s m args below meth c s₁) (h : (Cond.codeWith y bytes maxL' ret' hh).before args s = true) : c.exceptionTable.toList = tableOf hh := by
  obtain ⟨m9, meth9, c9, hn9, h1, h2, -, -, h6, -⟩ := Cond.codeWith_spec h
  cases Option.some.inj (hn9.symm.trans B.named)
  cases Option.some.inj (h1.symm.trans B.method)
  cases Option.some.inj (h2.symm.trans (Stand.of_body B).code)
  rw [← h6, table_eq]
end Bodies
end VXA
/-! ===== END ===== -/
/-! ===== BEGIN a static call of a method with an exception table ===== -/
section VXS
variable {p : Program} {l : Launch} {e : Env} {R : Room} {s : State} {m : MethodId} {args : Array Value} {below : List Frame} {meth : Method} {c : Code} {T : State} {H : Heap} {locs : List Loc} {cells slots : Nat}
abbrev vx_CSW (R : Room) (s : State) (args : Array Value) (own : String) (index : Nat) (y : MethodName) (bytes : ByteArray) (maxL : Nat) (ret : Option FieldType) (hh : List (Nat × Nat × Nat × Nat)) (ws : List Cond) (rm : Room) (mc ms n : Nat) : Prop :=
  (rm.cells = mc ∧ rm.slots = ms ∧ rm.frames + 1 ≤ R.frames ∧ 8 + (maxL + 11) + rm.locals ≤ R.locals ∧ (∀ w ∈ ws, ∀ (a' : Array Value) (U : State), s.WarmedH U.vm → w.before a' U = true) ∧ Cond.codeWith y bytes maxL ret hh ∈ ws) ∧
  (Cond.codeWith y bytes maxL ret hh).before args s = true ∧ (Cond.initialized y.cls).before args s = true ∧ (y.cls ≠ "java/lang/invoke/MethodHandle" ∧ y.cls ≠ "java/lang/invoke/VarHandle") ∧
  (∀ sig, parseMethodDescriptor y.desc = some sig → n = sig.parameters.length) ∧ (Cond.methodLink own index y).before args s = true ∧ (Cond.static y).before args s = true
theorem vx_cwSW {own : String} {index maxL mc ms : Nat} {y : MethodName} {bytes : ByteArray} {ret : Option FieldType} {hh : List (Nat × Nat × Nat × Nat)} {Ts ws ws' : List Cond} {rm : Room} (n : Nat) (ht : ∀ w ∈ Ts, w.before args s = true) (hT : GoodIn Ts (va_wsS own index y ws)) (hw : ws = Cond.codeWith y bytes maxL ret hh :: ws') (hrc : rm.cells = mc) (hrs : rm.slots = ms)
    (hd : y.cls ≠ "java/lang/invoke/MethodHandle" ∧ y.cls ≠ "java/lang/invoke/VarHandle" ∧ (parseMethodDescriptor y.desc).map (fun d => d.parameters.length) = some n) (hR : rm.frames + 1 ≤ R.frames ∧ 8 + (maxL + 11) + rm.locals ≤ R.locals) :
    vx_CSW R s args own index y bytes maxL ret hh ws rm mc ms n := by
  have ok : ∀ w ∈ va_wsS own index y ws, w.before args s = true := fun w h => ht w (hT w h).1
  have hG : GoodIn Ts ws := fun w h => hT w (by unfold va_wsS; exact List.mem_append_right _ h)
  have hc : Cond.codeWith y bytes maxL ret hh ∈ ws := by rw [hw]; exact List.mem_cons_self
  refine ⟨⟨hrc, hrs, hR.1, hR.2, pay_in ht hG, hc⟩, ht _ (hG _ hc).1, ok _ (by simp [va_wsS]), ⟨hd.1, hd.2.1⟩, fun sig h => ?_, ok _ (by simp [va_wsS]), ok _ (by simp [va_wsS])⟩
  have h2 := hd.2.2
  rw [h] at h2
  exact (Option.some.inj h2).symm
theorem vx_callSW (X : Stand p l e R s m args below meth c T locs cells slots) (hexec : p.tables.exec = Jvm.exec) {own : String} {index : Nat} {y : MethodName} {bytes : ByteArray} {maxL : Nat} {ret : Option FieldType} {hh : List (Nat × Nat × Nat × Nat)}
    (hown : s.vm.findClass own = some m.cls) (hlink : (Cond.methodLink own index y).before args s = true) (hstat : (Cond.static y).before args s = true) (hinit : (Cond.initialized y.cls).before args s = true)
    (hcode : (Cond.codeWith y bytes maxL ret hh).before args s = true) (hy : y.cls ≠ "java/lang/invoke/MethodHandle" ∧ y.cls ≠ "java/lang/invoke/VarHandle")
    {W9 : Nat} {Pre : Pt → Array Value → Prop} {Post : Pt → Array Value → Option Value → Pt → Prop} (hK : Back l R p e below s args y 3 W9 Pre Post)
    {g : JFrame} (hg : g.method = m) (hsize : g.locals.size = c.maxLocals) {argsL rest : List Value} (hlen : ∀ sig, parseMethodDescriptor y.desc = some sig → argsL.length = sig.parameters.length)
    (hstack : g.stack = argsL.reverse ++ rest) (hW : 2 * g.monitorRoom + (rest.map fun v => v.category).sum ≤ W9) (hdg : decode c.code g.pc = .ok (.invokestatic index, 3))
    (hpre : ∀ vm₁, s.WarmedH vm₁ → Pre ⟨T.setVm vm₁, locs, cells, slots⟩ argsL.toArray) :
    ∃ (v : Option Value) (vm₁ : Vm) (B : Pt), s.WarmedH vm₁ ∧ Stand p l e R s m args below meth c B.U B.locs B.cells B.slots ∧ Post ⟨T.setVm vm₁, locs, cells, slots⟩ argsL.toArray v B ∧
      ∀ target, Steps p.tables e below (B.U.setTop { g with pc := g.pc + 3, stack := v.toList ++ rest }) target → Steps p.tables e below (T.setTop g) target := by
  obtain ⟨mk, methM, cM, hnamed, hmethM, -, -, -, -, -, -, hsigM⟩ := Cond.codeWith_spec hcode
  have hstatic : methM.isStatic = true := Cond.static_spec hnamed hmethM hstat
  obtain ⟨kP, hkP, -⟩ := className_of_methodNamed hnamed
  have hinitP : kP.init = .initialized := Cond.initialized_spec (findClass_of_methodNamed hnamed) hkP hinit
  obtain ⟨vm₁, X₁, hstep₁⟩ := X.invokestatic hexec hown hlink hnamed hmethM hstatic hkP hinitP hy (g := g) hg (argsL := argsL) (rest := rest) (hlen _ hsigM) hstack hdg
  obtain ⟨v, B, X', hpost, hsteps⟩ := hK m meth c ⟨T.setVm vm₁, locs, cells, slots⟩ { g with stack := rest } (.invokestatic index) mk argsL.toArray X₁ hg hsize hdg hW (X₁.named hnamed) (hpre vm₁ X₁.warmed)
  exact ⟨v, vm₁, B, X₁.warmed, X', hpost, fun target h => hstep₁ _ fun acts => by rw [doInvoke_state]; exact hsteps.trans h⟩
theorem vx_runSW {y : MethodName} {bytes cc : ByteArray} {maxL nL mc ms n index : Nat} {ret : Option FieldType} {hh : List (Nat × Nat × Nat × Nat)} {ws : List Cond} {rm : Room} {Pc : Array Value → State → Prop} {Qc : Array Value → State → Outcome → State → Prop} {free : Addr → Prop} {Ts : List Cond} {own : String} {As rest : List Value} {g : JFrame}
    (S : CallFix p m c cc nL s args Ts own) (hM : Met l y ws rm Pc Qc mc ms free) (cw : vx_CSW R s args own index y bytes maxL ret hh ws rm mc ms n) (hp : PreS s H Pc As)
    (hg : g.method = m) (hn : As.length = n) (hsize : g.locals.size = nL) (hstack : g.stack = As.reverse ++ rest) (hW : 2 * g.monitorRoom + (rest.map fun v => v.category).sum ≤ 8) (hdg : decode cc g.pc = .ok (.invokestatic index, 3)) (hf : cells + mc ≤ R.cells ∧ slots + ms ≤ R.slots) :
    va_Run p l e R s m args below meth c H locs cells slots mc ms g rest (Qc As.toArray) (free) := by
  obtain ⟨⟨hrc, hrs, hfr, hlo, hws, hcw⟩, hcode, hini, hy, hlen, hl, hstt⟩ := cw
  have hK : Back l R p e below s args y 3 8 (PreOf R mc ms Pc) (PostOf Qc mc ms free) := va_backW (hh := hh) (bytes := bytes) (maxL := maxL) (ret := ret) hM hp.1 hrc hrs hfr hlo hws hcw (fun a' U hW => word_at hW (Or.inl (by first | rfl | simp [Cond.onTables, Cond.keeps, Cond.steady])) hini)
  obtain ⟨hx, hb, hml, ho, -⟩ := S
  intro T hT X
  obtain ⟨v, vm₁, ⟨U', l2, c2, s2⟩, hW₁, X', ⟨g', mk, t, L, e1, e2, hq, h1, hL, h2, h3⟩, st⟩ := vx_callSW X hx (hh := hh) (bytes := bytes) (maxL := maxL) (ret := ret) ho hl hstt hini hcode hy hK hg (hsize.trans hml.symm) (argsL := As) (rest := rest) (fun sig h => hn.trans (hlen sig h)) hstack hW (by rw [hb]; exact hdg)
    (fun vm₁ hW₁ => ⟨hf.1, hf.2, hp.2 (T.setVm vm₁) hT hW₁⟩)
  dsimp only [Pt.U, Pt.locs, Pt.cells, Pt.slots] at X' e1 e2 h1 h2 h3 st
  subst h1; subst h2; subst h3
  exact ⟨v, (T.setVm vm₁).calling g' mk As.toArray, t, U', L, hT, X', hL, e1, e2, hq, st⟩
/-- not caught here, past rows that name other classes: it goes on to the caller -/
theorem vx_outP {p : Program} {l : Launch} {e : Env} {R : Room} {s : State} {m : MethodId} {args : Array Value} {below : List Frame} {meth : Method} {c : Code} {H : Heap} {locs : List Loc} {cells slots : Nat} {free : Addr → Prop} {ls : Array Slot} {rest : List Value} {Qc : Array Value → State → Outcome → State → Prop} {XC : String → State → State → Prop}
    {pc : Nat} {own E : String} {ce : Cell} {q : Addr} {mc ms : Nat} (hown : s.vm.findClass own = some m.cls) (hlocks : meth.locks = false)
    (hpass : ∀ z ∈ c.exceptionTable.toList, covers z pc = false ∨ (z.catchType ≠ 0 ∧ ∃ nm : String, (Cond.classLink own z.catchType nm).before args s = true ∧ va_Nc E nm s)) (hcell : H[q]? = some ce) (hv : ce.vm = .none) (hcl : s.vm.findClass E = some ce.cls)
    (hx : ∀ t : State, t.heap = H → s.vm.Alike t.vm → XC E s t) (hf : ∀ z ∈ locs, free z.base) (hc : cells ≤ mc) (hs : slots ≤ ms) :
    vx_W p l e R s m args below meth c H locs cells slots (vx_MQ below Qc XC args s mc ms free) (F0 m pc ls rest) q := by
  intro T hT X
  have hpl : e.platform.magicAccessors = ({} : Platform).magicAccessors := by rw [X.admits.platform]
  obtain ⟨vm', hW', X', st⟩ := X.outThrough hlocks q (g := F0 m pc ls rest) rfl rfl rfl (cell := ce) (by rw [hT]; exact hcell) (by rw [hv]; rfl)
    (by obtain ⟨k9, h9, -⟩ := Vm.findClass_spec hcl; exact ⟨k9, h9⟩) (fun z hz => by
      rcases hpass z hz with h | ⟨hz0, nm, hl1, hn1⟩
      · exact Or.inl h
      · obtain ⟨c6, hc6, hcl6⟩ := Cond.classLink_spec hown hl1 e.platform hpl
        obtain ⟨a8, b8, h1, h2, h3⟩ := hn1
        cases Option.some.inj (h1.symm.trans hcl)
        cases Option.some.inj (h2.symm.trans hc6)
        exact Or.inr ⟨hz0, _, hcl6, h3⟩)
  obtain ⟨g₀, hfr⟩ := X'.frames_eq
  have hcell9 : ((T.setVm vm').setFrames (.throwing q :: below)).heap[q]? = some ce := by
    show T.heap[q]? = some ce
    rw [hT]; exact hcell
  have hend : Ended ((T.setVm vm').setFrames (.throwing q :: below)) below (.threw q) := State.frames_setFrames _ (State.cur_lt_of_frames hfr)
  refine ⟨(T.setVm vm').setFrames (.throwing q :: below), ?_, .threw q, X'.here.running, hend, Or.inr ⟨q, rfl, E, ce, locs, hx _ hT (X'.ends _).1.alike, hcell9, hv, hcl, (X'.ends _).1, (X'.ends _).2.mono hc hs, hf⟩⟩
  rw [X.pushThrowing_eq]
  exact st
/-- a thing of a world lies in the heap -/
theorem vx_lt {D : va_G} {cl : List vw_C} {ws : va_W} {H1 : Heap} (h : va_P D cl ws H1) {k : Nat} {q : Nat × va_E} (hk : ws[k]? = some q) : q.1 < H1.size := (h k q hk).lt
end VXS
/-! ===== END ===== -/
/-! ===== BEGIN methods with a table of their own: called by a name, returning or throwing ===== -/
section VXH
/-! vx_backW, vx_callVX, vx_callSX, vx_callVW, vx_runVW, vx_runVX, vx_runSX, vx_ofWH follow the same proofs as their sisters above (Free/Laws.lean, Shelf42/LK1.lean); vx_outP calls Shelf42/NT130.lean (outThrough). -/
section
variable {l : Launch} {R : Room} {p : Program} {e : Env} {below : List Frame} {s : State} {sargs : Array Value} {y : MethodName} {len W9 : Nat}
theorem vx_backW {ws : List Cond} {rm : Room} {Pc : Array Value → State → Prop} {Qc : Array Value → State → Outcome → State → Prop} {XC : String → State → State → Prop} {mc ms : Nat} {free : Addr → Prop} {bytes : ByteArray} {maxL : Nat} {ret : Option FieldType} {hh : List (Nat × Nat × Nat × Nat)}
    (hM : vx_Met l y ws rm Pc Qc XC mc ms free) (hblind : FrameBlind Pc) (hrc : rm.cells = mc) (hrs : rm.slots = ms)
    (hframes : rm.frames + 1 ≤ R.frames) (hlocals : W9 + (maxL + 11) + rm.locals ≤ R.locals)
    (hws : ∀ w ∈ ws, ∀ a' U, s.WarmedH U.vm → w.before a' U = true) (hcode : Cond.codeWith y bytes maxL ret hh ∈ ws) (hinit : ∀ a' U, s.WarmedH U.vm → (Cond.initialized y.cls).before a' U = true) :
    vx_Back l R p e below s sargs y len W9 (PreOf R mc ms Pc) (PostOf Qc mc ms free) (vx_Post XC mc ms free) := by
  intro m meth c A g ig mk a X hg hsize hdg hW hn hp
  have h1 : (headSpec ws rm).pre.before a A.U = true := atoms_intro fun w hw => hws w hw _ _ X.warmed
  have h2 : (Cond.codeWith y bytes maxL ret hh).before a A.U = true := hws _ hcode _ _ X.warmed
  have h3 : (Cond.initialized y.cls).before a A.U = true := hinit _ _ X.warmed
  have h4 : A.cells + (headSpec ws rm).room.cells ≤ R.cells := by rw [show (headSpec ws rm).room.cells = mc from hrc]; exact hp.1
  have h5 : A.slots + (headSpec ws rm).room.slots ≤ R.slots := by rw [show (headSpec ws rm).room.slots = ms from hrs]; exact hp.2.1
  have hPc : Pc a (A.U.calling g mk a) := hblind _ _ _ _ hp.2.2
  obtain ⟨U, Ls, c0, s0⟩ := A
  dsimp only [Pt.U, Pt.locs, Pt.cells, Pt.slots] at h1 h2 h3 h4 h5 X hn hPc ⊢
  obtain ⟨m9, methY, cY, hn9, hmY, hcY, -, hlY, -⟩ := Cond.codeWith_spec h2
  cases Option.some.inj (hn9.symm.trans hn)
  obtain ⟨kY, hkY, -⟩ := className_of_methodNamed hn
  have hinitY : kY.init = .initialized := Cond.initialized_spec (findClass_of_methodNamed hn) hkY h3
  have h : At U g.method c below := by rw [hg]; exact X.here
  have hlocals9 : W9 + (maxL + 11) + (headSpec ws rm).room.locals ≤ R.locals := hlocals
  have happ : (headSpec ws rm).appliesLoose y e.platform (U.calling g mk a) = true :=
    Spec.appliesLoose_calling (g := g) h hdg hn hkY hinitY
      (X.room_calling (g := g) (R' := (headSpec ws rm).room) hsize hmY hcY hframes (by rw [hlY]; omega) h4 h5) h1
  obtain ⟨mid, hmid⟩ := h.above
  have hfr : (U.setTop g).frames = (.java g :: mid) ++ below := by rw [State.frames_setTop' g h.top, hmid]; rfl
  obtain ⟨o, s₂, hsteps, -, hend, hq⟩ := Steps.callFree hM p X.admits X.cas X.clock (acts := []) hfr happ hPc trivial
  have hq' : vx_Q Qc XC mc ms free a (U.calling g mk a) o s₂ := hq
  rw [State.frames_setTop' g h.top] at hend
  obtain ⟨g₀, hg0⟩ := Option.isSome_iff_exists.mp h.top
  obtain ⟨r, hr⟩ := State.topJava?_eq_some.mp hg0
  have hr' : (({ U with heap := s₂.heap, slotsUsed := s₂.slotsUsed } : State).setVm s₂.vm).frames = .java g₀ :: r := hr
  rcases hq' with ⟨hqc, L, hfe, hL⟩ | ⟨q, rfl, E, ce, L, hx, hce, hcv, hcl, hW₂, hsm, hL⟩
  · obtain ⟨⟨v, rfl⟩, hW₂, e2, q2, q3, q4, q5, q6⟩ := id hfe
    have e3 : s₂ = ({ (U.calling g mk a).setFrames s₂.frames with heap := s₂.heap, slotsUsed := s₂.slotsUsed } : State).setVm s₂.vm := by
      have : s₂ = ({ s₂ with vm := (U.calling g mk a).vm } : State).setVm s₂.vm := rfl
      rw [e2] at this
      exact this
    obtain ⟨c₂, i₂, len₂, hc₂, hd₂, hf₂⟩ := hend
    have hW' : U.WarmedH s₂.vm := hW₂
    have hcc : c₂ = c := by
      have h1 : s₂.code? g.method = U.code? g.method := by
        rw [State.code?_eq, State.code?_eq, hW'.alike.method?]
      exact Option.some.inj (hc₂.symm.trans (h1.trans h.code))
    subst hcc
    have hlen : len₂ = len := by rw [hdg] at hd₂; cases hd₂; rfl
    subst hlen
    have hs₂ : s₂ = (({ U with heap := s₂.heap, slotsUsed := s₂.slotsUsed } : State).setVm s₂.vm).setTop { g with pc := g.pc + len₂, stack := v.toList ++ g.stack } := by
      refine e3.trans ?_
      rw [hf₂, State.calling_eq h.top, State.setFrames_setFrames, State.setTop_of_frames _ hr', hr]
      rfl
    have hsame : U.sameButNew ({ U with heap := s₂.heap, slotsUsed := s₂.slotsUsed } : State) L mc ms := by
      refine ⟨?_, q2, q3, q4, q5, q6⟩
      obtain ⟨t, ht, -⟩ := State.frames_cons hr
      show ({ U with heap := s₂.heap, slotsUsed := s₂.slotsUsed } : State) = { U.setFrames U.frames with heap := s₂.heap, slotsUsed := s₂.slotsUsed }
      rw [State.setFrames_self ht]
    subst hg
    refine Or.inl ⟨v, ⟨(({ U with heap := s₂.heap, slotsUsed := s₂.slotsUsed } : State).setVm s₂.vm), Ls ++ L, c0 + mc, s0 + ms⟩,
      ⟨X.admits, X.cas, X.clock, X.frames, X.room, X.hears, X.method, X.code, (X.here.setHeapUsed s₂.heap s₂.slotsUsed).setVm hW'.alike, X.tail, State.WarmedH.trans X.warmed hW', X.limits, X.bytes, X.same.trans (hsame.setVm s.vm)⟩,
      ⟨g, mk, s₂, L, rfl, rfl, hqc, rfl, hL, rfl, rfl⟩, ?_⟩
    show Steps p.tables e below _ ((({ U with heap := s₂.heap, slotsUsed := s₂.slotsUsed } : State).setVm s₂.vm).setTop { g with pc := g.pc + len₂, stack := v.toList ++ g.stack })
    rw [← hs₂]
    exact hsteps
  · obtain ⟨e2, q2, q3, q4, q5, q6⟩ := id hsm
    have e3 : s₂ = ({ (U.calling g mk a).setFrames s₂.frames with heap := s₂.heap, slotsUsed := s₂.slotsUsed } : State).setVm s₂.vm := by
      have : s₂ = ({ s₂ with vm := (U.calling g mk a).vm } : State).setVm s₂.vm := rfl
      rw [e2] at this
      exact this
    have hf₂ : s₂.frames = .throwing q :: .java g :: U.frames.tail := hend
    have hW' : U.WarmedH s₂.vm := hW₂
    have hs₂ : s₂ = ((({ U with heap := s₂.heap, slotsUsed := s₂.slotsUsed } : State).setVm s₂.vm).setTop g).pushFrame (.throwing q) := by
      refine e3.trans ?_
      rw [hf₂, State.calling_eq h.top, State.setFrames_setFrames, State.pushFrame, State.frames_setTop _ hr', State.setTop_of_frames _ hr', State.setFrames_setFrames, hr]
      rfl
    have hsame : U.sameButNew ({ U with heap := s₂.heap, slotsUsed := s₂.slotsUsed } : State) L mc ms := by
      refine ⟨?_, q2, q3, q4, q5, q6⟩
      obtain ⟨t, ht, -⟩ := State.frames_cons hr
      show ({ U with heap := s₂.heap, slotsUsed := s₂.slotsUsed } : State) = { U.setFrames U.frames with heap := s₂.heap, slotsUsed := s₂.slotsUsed }
      rw [State.setFrames_self ht]
    subst hg
    refine Or.inr ⟨q, ⟨(({ U with heap := s₂.heap, slotsUsed := s₂.slotsUsed } : State).setVm s₂.vm), Ls ++ L, c0 + mc, s0 + ms⟩,
      ⟨X.admits, X.cas, X.clock, X.frames, X.room, X.hears, X.method, X.code, (X.here.setHeapUsed s₂.heap s₂.slotsUsed).setVm hW'.alike, X.tail, State.WarmedH.trans X.warmed hW', X.limits, X.bytes, X.same.trans (hsame.setVm s.vm)⟩,
      ⟨g, mk, s₂, L, E, ce, rfl, rfl, hx, hce, hcv, hcl, rfl, hL, rfl, rfl⟩, ?_⟩
    show Steps p.tables e below _ (((({ U with heap := s₂.heap, slotsUsed := s₂.slotsUsed } : State).setVm s₂.vm).setTop g).pushFrame (.throwing q))
    rw [← hs₂]
    exact hsteps
end
variable {p : Program} {l : Launch} {e : Env} {R : Room} {s : State} {m : MethodId} {args : Array Value} {below : List Frame} {meth : Method} {c : Code} {T : State} {H : Heap} {locs : List Loc} {cells slots : Nat}
theorem vx_callVX (X : Stand p l e R s m args below meth c T locs cells slots) (hexec : p.tables.exec = Jvm.exec) {own C : String} {index : Nat} {y : MethodName} {bytes : ByteArray} {maxL : Nat} {ret : Option FieldType} {hh : List (Nat × Nat × Nat × Nat)}
    (hown : s.vm.findClass own = some m.cls) (hlink : (Cond.methodLink own index y).before args s = true) (hinst : (Cond.instanceMethod y).before args s = true) (hsel : (Cond.selects C y y).before args s = true)
    (hcode : (Cond.codeWith y bytes maxL ret hh).before args s = true) (hy : y.cls ≠ "java/lang/invoke/MethodHandle" ∧ y.cls ≠ "java/lang/invoke/VarHandle")
    {W9 : Nat} {Pre : Pt → Array Value → Prop} {Post : Pt → Array Value → Option Value → Pt → Prop} {PostX : Pt → Array Value → Addr → Pt → Prop} (hK : vx_Back l R p e below s args y 3 W9 Pre Post PostX)
    {b : Addr} {cellB : Cell} (hcell : T.heap[b]? = some cellB) (hobj : cellB.vm.isStatics = false) (hcls : s.vm.findClass C = some cellB.cls)
    {g : JFrame} (hg : g.method = m) (hsize : g.locals.size = c.maxLocals) {argsL rest : List Value} (hlen : ∀ sig, parseMethodDescriptor y.desc = some sig → argsL.length = sig.parameters.length)
    (hstack : g.stack = argsL.reverse ++ .ref b :: rest) (hW : 2 * g.monitorRoom + (rest.map fun v => v.category).sum ≤ W9) (hdg : decode c.code g.pc = .ok (.invokevirtual index, 3))
    (hpre : ∀ vm₁, s.WarmedH vm₁ → Pre ⟨T.setVm vm₁, locs, cells, slots⟩ (Value.ref b :: argsL).toArray) :
    (∃ (v : Option Value) (vm₁ : Vm) (B : Pt), s.WarmedH vm₁ ∧ Stand p l e R s m args below meth c B.U B.locs B.cells B.slots ∧ Post ⟨T.setVm vm₁, locs, cells, slots⟩ (Value.ref b :: argsL).toArray v B ∧
      ∀ target, Steps p.tables e below (B.U.setTop { g with pc := g.pc + 3, stack := v.toList ++ rest }) target → Steps p.tables e below (T.setTop g) target) ∨
    (∃ (q : Addr) (vm₁ : Vm) (B : Pt), s.WarmedH vm₁ ∧ Stand p l e R s m args below meth c B.U B.locs B.cells B.slots ∧ PostX ⟨T.setVm vm₁, locs, cells, slots⟩ (Value.ref b :: argsL).toArray q B ∧
      Steps p.tables e below (T.setTop g) ((B.U.setTop { g with stack := rest }).pushFrame (.throwing q))) := by
  obtain ⟨mk, methM, hnamed, hmethM, hstM, habM⟩ := Cond.instanceMethod_spec hinst
  obtain ⟨m8, methM', cM, hn8, hmethM', -, -, -, -, -, -, hsigM⟩ := Cond.codeWith_spec hcode
  cases Option.some.inj (hn8.symm.trans hnamed)
  cases hmethM.symm.trans hmethM'
  obtain ⟨c2, r2, m2, q1, q2, q3, q4, kP, hkP, hkPi⟩ := Cond.selects_spec hsel
  cases hcls.symm.trans q1
  cases (State.methodFound?_of_named hnamed hy).symm.trans q2
  cases hnamed.symm.trans q3
  have hselP : selectMethod e.platform s.vm cellB.cls mk = .method mk := by rw [Launch.admits_selectMethod X.admits]; exact q4
  obtain ⟨vm₁, X₁, hstep₁⟩ := X.invokevirtual hexec hown hlink hnamed hmethM hstM hkP hkPi hy (a := b) (cell := cellB) hcell
    (fun z h => by rw [h] at hobj; cases hobj) hselP hmethM habM hkP hkPi (g := g) hg (argsL := argsL) (rest := rest) (hlen _ hsigM) hstack hdg
  rcases hK m meth c ⟨T.setVm vm₁, locs, cells, slots⟩ { g with stack := rest } (.invokevirtual index) mk (Value.ref b :: argsL).toArray X₁ hg hsize hdg hW (X₁.named hnamed) (hpre vm₁ X₁.warmed) with ⟨v, B, X', hpost, hsteps⟩ | ⟨q, B, X', hpost, hsteps⟩
  · exact Or.inl ⟨v, vm₁, B, X₁.warmed, X', hpost, fun target h => hstep₁ _ fun acts => by rw [doInvoke_state]; exact hsteps.trans h⟩
  · exact Or.inr ⟨q, vm₁, B, X₁.warmed, X', hpost, hstep₁ _ fun acts => by rw [doInvoke_state]; exact hsteps⟩
theorem vx_callSX (X : Stand p l e R s m args below meth c T locs cells slots) (hexec : p.tables.exec = Jvm.exec) {own : String} {index : Nat} {y : MethodName} {bytes : ByteArray} {maxL : Nat} {ret : Option FieldType} {hh : List (Nat × Nat × Nat × Nat)}
    (hown : s.vm.findClass own = some m.cls) (hlink : (Cond.methodLink own index y).before args s = true) (hstat : (Cond.static y).before args s = true) (hinit : (Cond.initialized y.cls).before args s = true)
    (hcode : (Cond.codeWith y bytes maxL ret hh).before args s = true) (hy : y.cls ≠ "java/lang/invoke/MethodHandle" ∧ y.cls ≠ "java/lang/invoke/VarHandle")
    {W9 : Nat} {Pre : Pt → Array Value → Prop} {Post : Pt → Array Value → Option Value → Pt → Prop} {PostX : Pt → Array Value → Addr → Pt → Prop} (hK : vx_Back l R p e below s args y 3 W9 Pre Post PostX)
    {g : JFrame} (hg : g.method = m) (hsize : g.locals.size = c.maxLocals) {argsL rest : List Value} (hlen : ∀ sig, parseMethodDescriptor y.desc = some sig → argsL.length = sig.parameters.length)
    (hstack : g.stack = argsL.reverse ++ rest) (hW : 2 * g.monitorRoom + (rest.map fun v => v.category).sum ≤ W9) (hdg : decode c.code g.pc = .ok (.invokestatic index, 3))
    (hpre : ∀ vm₁, s.WarmedH vm₁ → Pre ⟨T.setVm vm₁, locs, cells, slots⟩ argsL.toArray) :
    (∃ (v : Option Value) (vm₁ : Vm) (B : Pt), s.WarmedH vm₁ ∧ Stand p l e R s m args below meth c B.U B.locs B.cells B.slots ∧ Post ⟨T.setVm vm₁, locs, cells, slots⟩ argsL.toArray v B ∧
      ∀ target, Steps p.tables e below (B.U.setTop { g with pc := g.pc + 3, stack := v.toList ++ rest }) target → Steps p.tables e below (T.setTop g) target) ∨
    (∃ (q : Addr) (vm₁ : Vm) (B : Pt), s.WarmedH vm₁ ∧ Stand p l e R s m args below meth c B.U B.locs B.cells B.slots ∧ PostX ⟨T.setVm vm₁, locs, cells, slots⟩ argsL.toArray q B ∧
      Steps p.tables e below (T.setTop g) ((B.U.setTop { g with stack := rest }).pushFrame (.throwing q))) := by
  obtain ⟨mk, methM, cM, hnamed, hmethM, -, -, -, -, -, -, hsigM⟩ := Cond.codeWith_spec hcode
  have hstatic : methM.isStatic = true := Cond.static_spec hnamed hmethM hstat
  obtain ⟨kP, hkP, -⟩ := className_of_methodNamed hnamed
  have hinitP : kP.init = .initialized := Cond.initialized_spec (findClass_of_methodNamed hnamed) hkP hinit
  obtain ⟨vm₁, X₁, hstep₁⟩ := X.invokestatic hexec hown hlink hnamed hmethM hstatic hkP hinitP hy (g := g) hg (argsL := argsL) (rest := rest) (hlen _ hsigM) hstack hdg
  rcases hK m meth c ⟨T.setVm vm₁, locs, cells, slots⟩ { g with stack := rest } (.invokestatic index) mk argsL.toArray X₁ hg hsize hdg hW (X₁.named hnamed) (hpre vm₁ X₁.warmed) with ⟨v, B, X', hpost, hsteps⟩ | ⟨q, B, X', hpost, hsteps⟩
  · exact Or.inl ⟨v, vm₁, B, X₁.warmed, X', hpost, fun target h => hstep₁ _ fun acts => by rw [doInvoke_state]; exact hsteps.trans h⟩
  · exact Or.inr ⟨q, vm₁, B, X₁.warmed, X', hpost, hstep₁ _ fun acts => by rw [doInvoke_state]; exact hsteps⟩
theorem vx_callVW (X : Stand p l e R s m args below meth c T locs cells slots) (hexec : p.tables.exec = Jvm.exec) {own C : String} {index : Nat} {y : MethodName} {bytes : ByteArray} {maxL : Nat} {ret : Option FieldType} {hh : List (Nat × Nat × Nat × Nat)}
    (hown : s.vm.findClass own = some m.cls) (hlink : (Cond.methodLink own index y).before args s = true) (hinst : (Cond.instanceMethod y).before args s = true) (hsel : (Cond.selects C y y).before args s = true)
    (hcode : (Cond.codeWith y bytes maxL ret hh).before args s = true) (hy : y.cls ≠ "java/lang/invoke/MethodHandle" ∧ y.cls ≠ "java/lang/invoke/VarHandle")
    {W9 : Nat} {Pre : Pt → Array Value → Prop} {Post : Pt → Array Value → Option Value → Pt → Prop} (hK : Back l R p e below s args y 3 W9 Pre Post)
    {b : Addr} {cellB : Cell} (hcell : T.heap[b]? = some cellB) (hobj : cellB.vm.isStatics = false) (hcls : s.vm.findClass C = some cellB.cls)
    {g : JFrame} (hg : g.method = m) (hsize : g.locals.size = c.maxLocals) {argsL rest : List Value} (hlen : ∀ sig, parseMethodDescriptor y.desc = some sig → argsL.length = sig.parameters.length)
    (hstack : g.stack = argsL.reverse ++ .ref b :: rest) (hW : 2 * g.monitorRoom + (rest.map fun v => v.category).sum ≤ W9) (hdg : decode c.code g.pc = .ok (.invokevirtual index, 3))
    (hpre : ∀ vm₁, s.WarmedH vm₁ → Pre ⟨T.setVm vm₁, locs, cells, slots⟩ (Value.ref b :: argsL).toArray) :
    ∃ (v : Option Value) (vm₁ : Vm) (B : Pt), s.WarmedH vm₁ ∧ Stand p l e R s m args below meth c B.U B.locs B.cells B.slots ∧ Post ⟨T.setVm vm₁, locs, cells, slots⟩ (Value.ref b :: argsL).toArray v B ∧
      ∀ target, Steps p.tables e below (B.U.setTop { g with pc := g.pc + 3, stack := v.toList ++ rest }) target → Steps p.tables e below (T.setTop g) target := by
  obtain ⟨mk, methM, hnamed, hmethM, hstM, habM⟩ := Cond.instanceMethod_spec hinst
  obtain ⟨m8, methM', cM, hn8, hmethM', -, -, -, -, -, -, hsigM⟩ := Cond.codeWith_spec hcode
  cases Option.some.inj (hn8.symm.trans hnamed)
  cases hmethM.symm.trans hmethM'
  obtain ⟨c2, r2, m2, q1, q2, q3, q4, kP, hkP, hkPi⟩ := Cond.selects_spec hsel
  cases hcls.symm.trans q1
  cases (State.methodFound?_of_named hnamed hy).symm.trans q2
  cases hnamed.symm.trans q3
  have hselP : selectMethod e.platform s.vm cellB.cls mk = .method mk := by rw [Launch.admits_selectMethod X.admits]; exact q4
  obtain ⟨vm₁, X₁, hstep₁⟩ := X.invokevirtual hexec hown hlink hnamed hmethM hstM hkP hkPi hy (a := b) (cell := cellB) hcell
    (fun z h => by rw [h] at hobj; cases hobj) hselP hmethM habM hkP hkPi (g := g) hg (argsL := argsL) (rest := rest) (hlen _ hsigM) hstack hdg
  obtain ⟨v, B, X', hpost, hsteps⟩ := hK m meth c ⟨T.setVm vm₁, locs, cells, slots⟩ { g with stack := rest } (.invokevirtual index) mk (Value.ref b :: argsL).toArray X₁ hg hsize hdg hW (X₁.named hnamed) (hpre vm₁ X₁.warmed)
  exact ⟨v, vm₁, B, X₁.warmed, X', hpost, fun target h => hstep₁ _ fun acts => by rw [doInvoke_state]; exact hsteps.trans h⟩
abbrev vx_CVW (R : Room) (s : State) (args : Array Value) (own C : String) (index : Nat) (y : MethodName) (bytes : ByteArray) (maxL : Nat) (ret : Option FieldType) (hh : List (Nat × Nat × Nat × Nat)) (ws : List Cond) (rm : Room) (mc ms n : Nat) : Prop :=
  (rm.cells = mc ∧ rm.slots = ms ∧ rm.frames + 1 ≤ R.frames ∧ 8 + (maxL + 11) + rm.locals ≤ R.locals ∧ (∀ w ∈ ws, ∀ (a' : Array Value) (U : State), s.WarmedH U.vm → w.before a' U = true) ∧ Cond.codeWith y bytes maxL ret hh ∈ ws) ∧
  (Cond.codeWith y bytes maxL ret hh).before args s = true ∧ (Cond.initialized y.cls).before args s = true ∧ (y.cls ≠ "java/lang/invoke/MethodHandle" ∧ y.cls ≠ "java/lang/invoke/VarHandle") ∧
  (∀ sig, parseMethodDescriptor y.desc = some sig → n = sig.parameters.length) ∧ (Cond.methodLink own index y).before args s = true ∧ (Cond.instanceMethod y).before args s = true ∧ (Cond.selects C y y).before args s = true
theorem vx_cwVW {own C : String} {index maxL mc ms : Nat} {y : MethodName} {bytes : ByteArray} {ret : Option FieldType} {hh : List (Nat × Nat × Nat × Nat)} {Ts ws ws' : List Cond} {rm : Room} (n : Nat) (ht : ∀ w ∈ Ts, w.before args s = true) (hT : GoodIn Ts (wsV own index C y ws)) (hw : ws = Cond.codeWith y bytes maxL ret hh :: ws') (hrc : rm.cells = mc) (hrs : rm.slots = ms)
    (hd : y.cls = C ∧ y.cls ≠ "java/lang/invoke/MethodHandle" ∧ y.cls ≠ "java/lang/invoke/VarHandle" ∧ (parseMethodDescriptor y.desc).map (fun d => d.parameters.length) = some n) (hR : rm.frames + 1 ≤ R.frames ∧ 8 + (maxL + 11) + rm.locals ≤ R.locals) :
    vx_CVW R s args own C index y bytes maxL ret hh ws rm mc ms n := by
  obtain ⟨hC, hd⟩ := hd
  subst hC
  have ok : ∀ w ∈ wsV own index y.cls y ws, w.before args s = true := fun w h => ht w (hT w h).1
  have hG : GoodIn Ts ws := fun w h => hT w (by unfold wsV; exact List.mem_append_right _ h)
  have hc : Cond.codeWith y bytes maxL ret hh ∈ ws := by rw [hw]; exact List.mem_cons_self
  refine ⟨⟨hrc, hrs, hR.1, hR.2, pay_in ht hG, hc⟩, ht _ (hG _ hc).1, ok _ (by simp [wsV]), ⟨hd.1, hd.2.1⟩, fun sig h => ?_, ok _ (by simp [wsV]), ok _ (by simp [wsV]), ok _ (by simp [wsV])⟩
  have h2 := hd.2.2
  rw [h] at h2
  exact (Option.some.inj h2).symm
theorem vx_runVW {y : MethodName} {bytes cc : ByteArray} {maxL nL mc ms n index : Nat} {ret : Option FieldType} {hh : List (Nat × Nat × Nat × Nat)} {ws : List Cond} {rm : Room} {Pc : Array Value → State → Prop} {Qc : Array Value → State → Outcome → State → Prop} {free : Addr → Prop} {Ts : List Cond} {own C : String} {b : Addr} {As rest : List Value} {g : JFrame}
    (S : CallFix p m c cc nL s args Ts own) (hM : Met l y ws rm Pc Qc mc ms free) (cw : vx_CVW R s args own C index y bytes maxL ret hh ws rm mc ms n) (hp : PreV s H C b Pc As)
    (hg : g.method = m) (hn : As.length = n) (hsize : g.locals.size = nL) (hstack : g.stack = As.reverse ++ .ref b :: rest) (hW : 2 * g.monitorRoom + (rest.map fun v => v.category).sum ≤ 8) (hdg : decode cc g.pc = .ok (.invokevirtual index, 3)) (hf : cells + mc ≤ R.cells ∧ slots + ms ≤ R.slots) :
    va_Run p l e R s m args below meth c H locs cells slots mc ms g rest (Qc (Value.ref b :: As).toArray) free := by
  obtain ⟨⟨hrc, hrs, hfr, hlo, hws, hcw⟩, hcode, hini, hy, hlen, hl, hin, hse⟩ := cw
  have hK : Back l R p e below s args y 3 8 (PreOf R mc ms Pc) (PostOf Qc mc ms free) := va_backW (hh := hh) (bytes := bytes) (maxL := maxL) (ret := ret) hM hp.1 hrc hrs hfr hlo hws hcw (fun a' U hW => word_at hW (Or.inl (by first | rfl | simp [Cond.onTables, Cond.keeps, Cond.steady])) hini)
  obtain ⟨hx, hb, hml, ho, -⟩ := S
  obtain ⟨-, ⟨cellB, hcB, hoB, hclB⟩, hPc⟩ := hp
  intro T hT X
  obtain ⟨v, vm₁, ⟨U', l2, c2, s2⟩, hW₁, X', ⟨g', mk, t, L, e1, e2, hq, h1, hL, h2, h3⟩, st⟩ := vx_callVW X hx (C := C) (hh := hh) (bytes := bytes) (maxL := maxL) (ret := ret) ho hl hin hse hcode hy hK (by rw [hT]; exact hcB) hoB hclB hg (hsize.trans hml.symm) (argsL := As) (rest := rest) (fun sig h => hn.trans (hlen sig h)) hstack hW (by rw [hb]; exact hdg)
    (fun vm₁ hW₁ => ⟨hf.1, hf.2, hPc (T.setVm vm₁) hT hW₁⟩)
  dsimp only [Pt.U, Pt.locs, Pt.cells, Pt.slots] at X' e1 e2 h1 h2 h3 st
  subst h1; subst h2; subst h3
  exact ⟨v, (T.setVm vm₁).calling g' mk (Value.ref b :: As).toArray, t, U', L, hT, X', hL, e1, e2, hq, st⟩
section
variable {y : MethodName} {bytes cc : ByteArray} {maxL nL mc ms n index : Nat} {ret : Option FieldType} {ws : List Cond} {rm : Room} {Pc : Array Value → State → Prop} {Qc : Array Value → State → Outcome → State → Prop} {XC : String → State → State → Prop} {free : Addr → Prop} {Ts : List Cond} {own C : String} {b : Addr} {As rest : List Value} {g : JFrame}
theorem vx_runVX {hh : List (Nat × Nat × Nat × Nat)} (S : CallFix p m c cc nL s args Ts own) (hM : vx_Met l y ws rm Pc Qc XC mc ms free) (cw : vx_CVW R s args own C index y bytes maxL ret hh ws rm mc ms n) (hp : PreV s H C b Pc As)
    (hg : g.method = m) (hn : As.length = n) (hsize : g.locals.size = nL) (hstack : g.stack = As.reverse ++ .ref b :: rest) (hW : 2 * g.monitorRoom + (rest.map fun v => v.category).sum ≤ 8) (hdg : decode cc g.pc = .ok (.invokevirtual index, 3)) (hf : cells + mc ≤ R.cells ∧ slots + ms ≤ R.slots) :
    vx_Run p l e R s m args below meth c H locs cells slots mc ms g rest (Qc (Value.ref b :: As).toArray) XC free := by
  obtain ⟨⟨hrc, hrs, hfr, hlo, hws, hcw⟩, hcode, hini, hy, hlen, hl, hin, hse⟩ := cw
  have hK : vx_Back l R p e below s args y 3 8 (PreOf R mc ms Pc) (PostOf Qc mc ms free) (vx_Post XC mc ms free) := vx_backW (hh := hh) (bytes := bytes) (maxL := maxL) (ret := ret) hM hp.1 hrc hrs hfr hlo hws hcw (fun a' U hW => word_at hW (Or.inl (by first | rfl | simp [Cond.onTables, Cond.keeps, Cond.steady])) hini)
  obtain ⟨hx, hb, hml, ho, -⟩ := S
  obtain ⟨-, ⟨cellB, hcB, hoB, hclB⟩, hPc⟩ := hp
  intro T hT X
  rcases vx_callVX X hx (C := C) (hh := hh) (bytes := bytes) (maxL := maxL) (ret := ret) ho hl hin hse hcode hy hK (by rw [hT]; exact hcB) hoB hclB hg (hsize.trans hml.symm) (argsL := As) (rest := rest) (fun sig h => hn.trans (hlen sig h)) hstack hW (by rw [hb]; exact hdg)
    (fun vm₁ hW₁ => ⟨hf.1, hf.2, hPc (T.setVm vm₁) hT hW₁⟩) with ⟨v, vm₁, ⟨U', l2, c2, s2⟩, hW₁, X', ⟨g', mk, t, L, e1, e2, hq, h1, hL, h2, h3⟩, st⟩ | ⟨q, vm₁, ⟨U', l2, c2, s2⟩, hW₁, X', ⟨g', mk, t, L, E, ce, e1, e2, hq, hce, hcv, hcl, h1, hL, h2, h3⟩, st⟩
  · dsimp only [Pt.U, Pt.locs, Pt.cells, Pt.slots] at X' e1 e2 h1 h2 h3 st
    subst h1; subst h2; subst h3
    exact Or.inl ⟨v, (T.setVm vm₁).calling g' mk (Value.ref b :: As).toArray, t, U', L, hT, X', hL, e1, e2, hq, st⟩
  · dsimp only [Pt.U, Pt.locs, Pt.cells, Pt.slots] at X' e1 e2 h1 h2 h3 st hcl
    subst h1; subst h2; subst h3
    exact Or.inr ⟨q, (T.setVm vm₁).calling g' mk (Value.ref b :: As).toArray, t, U', L, E, ce, hT, X', hL, e1, e2, hq, hce, hcv, vx_cls hW₁ hcl, st⟩
theorem vx_runSX {hh : List (Nat × Nat × Nat × Nat)} (S : CallFix p m c cc nL s args Ts own) (hM : vx_Met l y ws rm Pc Qc XC mc ms free) (cw : vx_CSW R s args own index y bytes maxL ret hh ws rm mc ms n) (hp : PreS s H Pc As)
    (hg : g.method = m) (hn : As.length = n) (hsize : g.locals.size = nL) (hstack : g.stack = As.reverse ++ rest) (hW : 2 * g.monitorRoom + (rest.map fun v => v.category).sum ≤ 8) (hdg : decode cc g.pc = .ok (.invokestatic index, 3)) (hf : cells + mc ≤ R.cells ∧ slots + ms ≤ R.slots) :
    vx_Run p l e R s m args below meth c H locs cells slots mc ms g rest (Qc As.toArray) XC free := by
  obtain ⟨⟨hrc, hrs, hfr, hlo, hws, hcw⟩, hcode, hini, hy, hlen, hl, hstt⟩ := cw
  have hK : vx_Back l R p e below s args y 3 8 (PreOf R mc ms Pc) (PostOf Qc mc ms free) (vx_Post XC mc ms free) := vx_backW (hh := hh) (bytes := bytes) (maxL := maxL) (ret := ret) hM hp.1 hrc hrs hfr hlo hws hcw (fun a' U hW => word_at hW (Or.inl (by first | rfl | simp [Cond.onTables, Cond.keeps, Cond.steady])) hini)
  obtain ⟨hx, hb, hml, ho, -⟩ := S
  intro T hT X
  rcases vx_callSX X hx (hh := hh) (bytes := bytes) (maxL := maxL) (ret := ret) ho hl hstt hini hcode hy hK hg (hsize.trans hml.symm) (argsL := As) (rest := rest) (fun sig h => hn.trans (hlen sig h)) hstack hW (by rw [hb]; exact hdg)
    (fun vm₁ hW₁ => ⟨hf.1, hf.2, hp.2 (T.setVm vm₁) hT hW₁⟩) with ⟨v, vm₁, ⟨U', l2, c2, s2⟩, hW₁, X', ⟨g', mk, t, L, e1, e2, hq, h1, hL, h2, h3⟩, st⟩ | ⟨q, vm₁, ⟨U', l2, c2, s2⟩, hW₁, X', ⟨g', mk, t, L, E, ce, e1, e2, hq, hce, hcv, hcl, h1, hL, h2, h3⟩, st⟩
  · dsimp only [Pt.U, Pt.locs, Pt.cells, Pt.slots] at X' e1 e2 h1 h2 h3 st
    subst h1; subst h2; subst h3
    exact Or.inl ⟨v, (T.setVm vm₁).calling g' mk As.toArray, t, U', L, hT, X', hL, e1, e2, hq, st⟩
  · dsimp only [Pt.U, Pt.locs, Pt.cells, Pt.slots] at X' e1 e2 h1 h2 h3 st hcl
    subst h1; subst h2; subst h3
    exact Or.inr ⟨q, (T.setVm vm₁).calling g' mk As.toArray, t, U', L, E, ce, hT, X', hL, e1, e2, hq, hce, hcv, vx_cls hW₁ hcl, st⟩
end
end VXH
theorem vx_ofWH {l : Launch} {y : MethodName} {ws ws' : List Cond} {rm : Room} {Pc : Array Value → State → Prop} {Qc : Array Value → State → Outcome → State → Prop} {XC : String → State → State → Prop} {mc ms : Nat} {free : Addr → Prop} {cc : ByteArray} {maxL : Nat} {ret : Option FieldType} {hh : List (Nat × Nat × Nat × Nat)}
    (hy : plainName y.cls = true) (hw : ws = Cond.codeWith y cc maxL ret hh :: ws')
    (body : ∀ p e s m args below meth c s₁, BodyLoose p l y (headSpec ws rm) cc maxL ret e s m args below meth c s₁ → c.maxLocals = maxL → Pc args s →
      W p l e (headSpec ws rm).room s m args below meth c s.heap [] 0 0 (vx_MQ below Qc XC args s mc ms free) (entryFrame m args maxL)) : vx_Met l y ws rm Pc Qc XC mc ms free := by
  refine MetFree.of_bodyS (code := cc) (maxLocals := maxL) (ret := ret) hy ?_ ?_
  · intro args s m h hn
    obtain ⟨m9, meth, c, hn9, h1, h2, h3, h4, -, h5, h6, -⟩ := Cond.codeWith_spec (atoms_spec (ws := ws) h _ (by rw [hw]; exact List.mem_cons_self))
    cases hn.symm.trans hn9
    exact ⟨meth, c, h1, h2, h3, h4, h5, h6⟩
  · intro p e s m args below meth c s₁ B hml hP _
    have hh0 : s₁.heap = s.heap := by rw [B.state]; rfl
    obtain ⟨t, a1, o, b1, b2, b3⟩ := body p e s m args below meth c s₁ B hml hP s₁ hh0 (Stand.of_body B)
    exact ⟨t, o, a1, b1, b2, b3⟩
/-! ===== END ===== -/
end
section
def RX0 : String := "FoundryNine$Arrivals"
def TX0 : u_T := fun k => match k with
  | _ => ("FoundryNine$Arrivals", "arrival", "[I", true)
def tyX0 : Nat → FieldType := fun k => match k with
  | _ => .array .int
abbrev wsX00 : List Cond := u_ws RX0 TX0 1
theorem nmX0 : ∀ a, a < 1 → ∀ b, b < 1 → a ≠ b → (TX0 a).2.1 ≠ (TX0 b).2.1 := by decide +kernel
theorem tyX0_ok : ∀ k, k < 1 → parseFieldDescriptor (TX0 k).2.2.1 = some (tyX0 k) := by decide +kernel
abbrev cX0_init : ByteArray := prog_2_method_1_code
def yX0_init : MethodName := ⟨RX0, "<init>", "()V"⟩
abbrev cX0_reckon : ByteArray := prog_2_method_2_code
def yX0_reckon : MethodName := ⟨RX0, "reckon", "(LFoundryNine$Circuit;LFoundryNine$Flaws;II)V"⟩
abbrev cX0_arrivalBy : ByteArray := prog_2_method_3_code
def yX0_arrivalBy : MethodName := ⟨RX0, "arrivalBy", "(LFoundryNine$Circuit;LFoundryNine$Flaws;II)I"⟩
abbrev cX0_arrivalOf : ByteArray := prog_2_method_4_code
def yX0_arrivalOf : MethodName := ⟨RX0, "arrivalOf", "(I)I"⟩
abbrev cX0_greatest : ByteArray := prog_2_method_5_code
def yX0_greatest : MethodName := ⟨RX0, "greatest", "()I"⟩
abbrev cX0_latestDriven : ByteArray := prog_2_method_6_code
def yX0_latestDriven : MethodName := ⟨RX0, "latestDriven", "(LFoundryNine$Circuit;)I"⟩
abbrev cX0_wireBehind : ByteArray := prog_2_method_7_code
def yX0_wireBehind : MethodName := ⟨RX0, "wireBehind", "(LFoundryNine$Circuit;I)I"⟩
def RX1 : String := "FoundryNine$Circuit"
def TX1 : u_T := fun k => match k with
  | 0 => ("FoundryNine$Circuit", "kind", "[I", true)
  | 1 => ("FoundryNine$Circuit", "wire", "[I", true)
  | 2 => ("FoundryNine$Circuit", "a", "[I", true)
  | 3 => ("FoundryNine$Circuit", "b", "[I", true)
  | 4 => ("FoundryNine$Circuit", "c", "[I", true)
  | 5 => ("FoundryNine$Circuit", "delay", "[I", true)
  | 6 => ("FoundryNine$Circuit", "setup", "[I", true)
  | 7 => ("FoundryNine$Circuit", "hold", "[I", true)
  | 8 => ("FoundryNine$Circuit", "users", "[I", true)
  | 9 => ("FoundryNine$Circuit", "drivers", "[I", true)
  | 10 => ("FoundryNine$Circuit", "firstDriver", "[I", true)
  | _ => ("FoundryNine$Circuit", "count", "I", false)
def tyX1 : Nat → FieldType := fun k => match k with
  | 0 => .array .int
  | 1 => .array .int
  | 2 => .array .int
  | 3 => .array .int
  | 4 => .array .int
  | 5 => .array .int
  | 6 => .array .int
  | 7 => .array .int
  | 8 => .array .int
  | 9 => .array .int
  | 10 => .array .int
  | _ => .int
abbrev wsX10 : List Cond := u_ws RX1 TX1 12
theorem nmX1 : ∀ a, a < 12 → ∀ b, b < 12 → a ≠ b → (TX1 a).2.1 ≠ (TX1 b).2.1 := by decide +kernel
theorem tyX1_ok : ∀ k, k < 12 → parseFieldDescriptor (TX1 k).2.2.1 = some (tyX1 k) := by decide +kernel
abbrev cX1_init : ByteArray := prog_3_method_1_code
def yX1_init : MethodName := ⟨RX1, "<init>", "()V"⟩
abbrev cX1_add : ByteArray := prog_3_method_2_code
def yX1_add : MethodName := ⟨RX1, "add", "(IIIIII)I"⟩
abbrev cX1_noteUse : ByteArray := prog_3_method_3_code
def yX1_noteUse : MethodName := ⟨RX1, "noteUse", "(II)V"⟩
abbrev cX1_isGate : ByteArray := prog_3_method_4_code
def yX1_isGate : MethodName := ⟨RX1, "isGate", "(I)Z"⟩
abbrev cX1_isFirstDrivenBy : ByteArray := prog_3_method_5_code
def yX1_isFirstDrivenBy : MethodName := ⟨RX1, "isFirstDrivenBy", "(II)Z"⟩
abbrev cX1_isUsedBy : ByteArray := prog_3_method_6_code
def yX1_isUsedBy : MethodName := ⟨RX1, "isUsedBy", "(II)Z"⟩
abbrev cX1_firstLineOf : ByteArray := prog_3_method_7_code
def yX1_firstLineOf : MethodName := ⟨RX1, "firstLineOf", "(I)I"⟩
abbrev cX1_pinsOf : ByteArray := prog_3_method_8_code
def yX1_pinsOf : MethodName := ⟨RX1, "pinsOf", "(I)I"⟩
def RX2 : String := "FoundryNine$Flaws"
def TX2 : u_T := fun k => match k with
  | 0 => ("FoundryNine$Flaws", "code", "[I", true)
  | 1 => ("FoundryNine$Flaws", "place", "[I", true)
  | 2 => ("FoundryNine$Flaws", "inRing", "[Z", true)
  | 3 => ("FoundryNine$Flaws", "reach", "[I", true)
  | 4 => ("FoundryNine$Flaws", "count", "I", false)
  | _ => ("FoundryNine$Flaws", "forbidRunning", "Z", false)
def tyX2 : Nat → FieldType := fun k => match k with
  | 0 => .array .int
  | 1 => .array .int
  | 2 => .array .boolean
  | 3 => .array .int
  | 4 => .int
  | _ => .boolean
abbrev wsX20 : List Cond := u_ws RX2 TX2 6
theorem nmX2 : ∀ a, a < 6 → ∀ b, b < 6 → a ≠ b → (TX2 a).2.1 ≠ (TX2 b).2.1 := by decide +kernel
theorem tyX2_ok : ∀ k, k < 6 → parseFieldDescriptor (TX2 k).2.2.1 = some (tyX2 k) := by decide +kernel
abbrev cX2_init : ByteArray := prog_4_method_1_code
def yX2_init : MethodName := ⟨RX2, "<init>", "()V"⟩
abbrev cX2_find : ByteArray := prog_4_method_2_code
def yX2_find : MethodName := ⟨RX2, "find", "(LFoundryNine$Circuit;)V"⟩
abbrev cX2_note : ByteArray := prog_4_method_3_code
def yX2_note : MethodName := ⟨RX2, "note", "(II)V"⟩
abbrev cX2_findReach : ByteArray := prog_4_method_4_code
def yX2_findReach : MethodName := ⟨RX2, "findReach", "(LFoundryNine$Circuit;)V"⟩
abbrev cX2_reachOf : ByteArray := prog_4_method_5_code
def yX2_reachOf : MethodName := ⟨RX2, "reachOf", "(I)I"⟩
def RX3 : String := "FoundryNine$Run"
def TX3 : u_T := fun k => match k with
  | 0 => ("FoundryNine$Run", "circuit", "LFoundryNine$Circuit;", true)
  | 1 => ("FoundryNine$Run", "value", "[I", true)
  | 2 => ("FoundryNine$Run", "changedAt", "[I", true)
  | 3 => ("FoundryNine$Run", "timesChanged", "[I", true)
  | 4 => ("FoundryNine$Run", "countedFrom", "[I", true)
  | 5 => ("FoundryNine$Run", "pendingValue", "[I", true)
  | 6 => ("FoundryNine$Run", "pendingTime", "[I", true)
  | 7 => ("FoundryNine$Run", "pendingTurn", "[I", true)
  | 8 => ("FoundryNine$Run", "riseAt", "[I", true)
  | 9 => ("FoundryNine$Run", "hazardCode", "[I", true)
  | 10 => ("FoundryNine$Run", "hazardWire", "[I", true)
  | 11 => ("FoundryNine$Run", "hazardTime", "[I", true)
  | 12 => ("FoundryNine$Run", "hazardCount", "I", false)
  | 13 => ("FoundryNine$Run", "now", "I", false)
  | 14 => ("FoundryNine$Run", "turns", "I", false)
  | 15 => ("FoundryNine$Run", "swallowed", "I", false)
  | 16 => ("FoundryNine$Run", "restless", "I", false)
  | _ => ("FoundryNine$Run", "changes", "I", false)
def tyX3 : Nat → FieldType := fun k => match k with
  | 0 => .object "FoundryNine$Circuit"
  | 1 => .array .int
  | 2 => .array .int
  | 3 => .array .int
  | 4 => .array .int
  | 5 => .array .int
  | 6 => .array .int
  | 7 => .array .int
  | 8 => .array .int
  | 9 => .array .int
  | 10 => .array .int
  | 11 => .array .int
  | 12 => .int
  | 13 => .int
  | 14 => .int
  | 15 => .int
  | 16 => .int
  | _ => .int
abbrev wsX30 : List Cond := u_ws RX3 TX3 18
theorem nmX3 : ∀ a, a < 18 → ∀ b, b < 18 → a ≠ b → (TX3 a).2.1 ≠ (TX3 b).2.1 := by decide +kernel
theorem tyX3_ok : ∀ k, k < 18 → parseFieldDescriptor (TX3 k).2.2.1 = some (tyX3 k) := by decide +kernel
abbrev cX3_init : ByteArray := prog_5_method_1_code
def yX3_init : MethodName := ⟨RX3, "<init>", "(LFoundryNine$Circuit;)V"⟩
abbrev cX3_clear : ByteArray := prog_5_method_2_code
def yX3_clear : MethodName := ⟨RX3, "clear", "()V"⟩
abbrev cX3_copyFrom : ByteArray := prog_5_method_3_code
def yX3_copyFrom : MethodName := ⟨RX3, "copyFrom", "(LFoundryNine$Run;)V"⟩
abbrev cX3_begin : ByteArray := prog_5_method_4_code
def yX3_begin : MethodName := ⟨RX3, "begin", "()V"⟩
abbrev cX3_put : ByteArray := prog_5_method_5_code
def yX3_put : MethodName := ⟨RX3, "put", "(II)V"⟩
abbrev cX3_comeToRest : ByteArray := prog_5_method_6_code
def yX3_comeToRest : MethodName := ⟨RX3, "comeToRest", "()I"⟩
abbrev cX3_letCome : ByteArray := prog_5_method_7_code
def yX3_letCome : MethodName := ⟨RX3, "letCome", "(I)I"⟩
abbrev cX3_nextLine : ByteArray := prog_5_method_8_code
def yX3_nextLine : MethodName := ⟨RX3, "nextLine", "(I)I"⟩
abbrev cX3_comesAheadOf : ByteArray := prog_5_method_9_code
def yX3_comesAheadOf : MethodName := ⟨RX3, "comesAheadOf", "(II)Z"⟩
abbrev cX3_nextTime : ByteArray := prog_5_method_10_code
def yX3_nextTime : MethodName := ⟨RX3, "nextTime", "()I"⟩
abbrev cX3_linesPending : ByteArray := prog_5_method_11_code
def yX3_linesPending : MethodName := ⟨RX3, "linesPending", "()I"⟩
abbrev cX3_giveUpAll : ByteArray := prog_5_method_12_code
def yX3_giveUpAll : MethodName := ⟨RX3, "giveUpAll", "()V"⟩
abbrev cX3_beginCounting : ByteArray := prog_5_method_13_code
def yX3_beginCounting : MethodName := ⟨RX3, "beginCounting", "()V"⟩
abbrev cX3_change : ByteArray := prog_5_method_14_code
def yX3_change : MethodName := ⟨RX3, "change", "(II)V"⟩
abbrev cX3_askGate : ByteArray := prog_5_method_15_code
def yX3_askGate : MethodName := ⟨RX3, "askGate", "(I)V"⟩
abbrev cX3_askRegister : ByteArray := prog_5_method_16_code
def yX3_askRegister : MethodName := ⟨RX3, "askRegister", "(III)V"⟩
abbrev cX3_rise : ByteArray := prog_5_method_17_code
def yX3_rise : MethodName := ⟨RX3, "rise", "(I)V"⟩
abbrev cX3_isRecent : ByteArray := prog_5_method_18_code
def yX3_isRecent : MethodName := ⟨RX3, "isRecent", "(II)Z"⟩
abbrev cX3_makePending : ByteArray := prog_5_method_19_code
def yX3_makePending : MethodName := ⟨RX3, "makePending", "(II)V"⟩
abbrev cX3_valueOf : ByteArray := prog_5_method_20_code
def yX3_valueOf : MethodName := ⟨RX3, "valueOf", "(I)I"⟩
abbrev cX3_noteHazardsOfGates : ByteArray := prog_5_method_21_code
def yX3_noteHazardsOfGates : MethodName := ⟨RX3, "noteHazardsOfGates", "()V"⟩
abbrev cX3_noteHazard : ByteArray := prog_5_method_22_code
def yX3_noteHazard : MethodName := ⟨RX3, "noteHazard", "(II)V"⟩
abbrev cX3_worked : ByteArray := prog_5_method_23_code
def yX3_worked : MethodName := ⟨RX3, "worked", "(IIII)I"⟩
abbrev cX3_turned : ByteArray := prog_5_method_24_code
def yX3_turned : MethodName := ⟨RX3, "turned", "(I)I"⟩
abbrev cX3_both : ByteArray := prog_5_method_25_code
def yX3_both : MethodName := ⟨RX3, "both", "(II)I"⟩
abbrev cX3_either : ByteArray := prog_5_method_26_code
def yX3_either : MethodName := ⟨RX3, "either", "(II)I"⟩
abbrev cX3_chosen : ByteArray := prog_5_method_27_code
def yX3_chosen : MethodName := ⟨RX3, "chosen", "(III)I"⟩
def RX4 : String := "FoundryNine"
def TX4 : u_T := fun k => match k with
  | 0 => ("FoundryNine", "circuit", "LFoundryNine$Circuit;", true)
  | 1 => ("FoundryNine", "noted", "LFoundryNine$Flaws;", true)
  | 2 => ("FoundryNine", "arrivals", "LFoundryNine$Arrivals;", true)
  | 3 => ("FoundryNine", "arrivalsWith", "LFoundryNine$Arrivals;", true)
  | 4 => ("FoundryNine", "run", "LFoundryNine$Run;", true)
  | 5 => ("FoundryNine", "trial", "LFoundryNine$Run;", true)
  | _ => ("FoundryNine", "running", "Z", false)
def tyX4 : Nat → FieldType := fun k => match k with
  | 0 => .object "FoundryNine$Circuit"
  | 1 => .object "FoundryNine$Flaws"
  | 2 => .object "FoundryNine$Arrivals"
  | 3 => .object "FoundryNine$Arrivals"
  | 4 => .object "FoundryNine$Run"
  | 5 => .object "FoundryNine$Run"
  | _ => .boolean
abbrev wsX40 : List Cond := u_ws RX4 TX4 7
theorem nmX4 : ∀ a, a < 7 → ∀ b, b < 7 → a ≠ b → (TX4 a).2.1 ≠ (TX4 b).2.1 := by decide +kernel
theorem tyX4_ok : ∀ k, k < 7 → parseFieldDescriptor (TX4 k).2.2.1 = some (tyX4 k) := by decide +kernel
abbrev cX4_init : ByteArray := prog_1_method_1_code
def yX4_init : MethodName := ⟨RX4, "<init>", "()V"⟩
abbrev cX4_input : ByteArray := prog_1_method_2_code
def yX4_input : MethodName := ⟨RX4, "input", "(I)I"⟩
abbrev cX4_gate : ByteArray := prog_1_method_3_code
def yX4_gate : MethodName := ⟨RX4, "gate", "(IIIIII)I"⟩
abbrev cX4_register : ByteArray := prog_1_method_4_code
def yX4_register : MethodName := ⟨RX4, "register", "(IIIII)I"⟩
abbrev cX4_lines : ByteArray := prog_1_method_7_code
def yX4_lines : MethodName := ⟨RX4, "lines", "()I"⟩
abbrev cX4_flaws : ByteArray := prog_1_method_8_code
def yX4_flaws : MethodName := ⟨RX4, "flaws", "()I"⟩
abbrev cX4_ofFlaw : ByteArray := prog_1_method_9_code
def yX4_ofFlaw : MethodName := ⟨RX4, "ofFlaw", "(II)I"⟩
abbrev cX4_arrival : ByteArray := prog_1_method_10_code
def yX4_arrival : MethodName := ⟨RX4, "arrival", "(I)I"⟩
abbrev cX4_longest : ByteArray := prog_1_method_11_code
def yX4_longest : MethodName := ⟨RX4, "longest", "()I"⟩
abbrev cX4_way : ByteArray := prog_1_method_12_code
def yX4_way : MethodName := ⟨RX4, "way", "(I)I"⟩
abbrev cX4_users : ByteArray := prog_1_method_13_code
def yX4_users : MethodName := ⟨RX4, "users", "(I)I"⟩
abbrev cX4_start : ByteArray := prog_1_method_14_code
def yX4_start : MethodName := ⟨RX4, "start", "()I"⟩
abbrev cX4_set : ByteArray := prog_1_method_15_code
def yX4_set : MethodName := ⟨RX4, "set", "(II)I"⟩
abbrev cX4_pass : ByteArray := prog_1_method_16_code
def yX4_pass : MethodName := ⟨RX4, "pass", "(I)I"⟩
abbrev cX4_settle : ByteArray := prog_1_method_17_code
def yX4_settle : MethodName := ⟨RX4, "settle", "()I"⟩
abbrev cX4_isRunning : ByteArray := prog_1_method_18_code
def yX4_isRunning : MethodName := ⟨RX4, "isRunning", "()Z"⟩
abbrev cX4_told : ByteArray := prog_1_method_19_code
def yX4_told : MethodName := ⟨RX4, "told", "(I)I"⟩
abbrev cX4_ofWire : ByteArray := prog_1_method_20_code
def yX4_ofWire : MethodName := ⟨RX4, "ofWire", "(II)I"⟩
abbrev cX4_pending : ByteArray := prog_1_method_21_code
def yX4_pending : MethodName := ⟨RX4, "pending", "(I)I"⟩
abbrev cX4_hazards : ByteArray := prog_1_method_22_code
def yX4_hazards : MethodName := ⟨RX4, "hazards", "()I"⟩
abbrev cX4_ofHazard : ByteArray := prog_1_method_23_code
def yX4_ofHazard : MethodName := ⟨RX4, "ofHazard", "(II)I"⟩
abbrev cX4_wouldBe : ByteArray := prog_1_method_24_code
def yX4_wouldBe : MethodName := ⟨RX4, "wouldBe", "(III)I"⟩
abbrev cX4_settlesIn : ByteArray := prog_1_method_26_code
def yX4_settlesIn : MethodName := ⟨RX4, "settlesIn", "()I"⟩
abbrev cX4_longestWith : ByteArray := prog_1_method_27_code
def yX4_longestWith : MethodName := ⟨RX4, "longestWith", "(II)I"⟩
abbrev cX4_digest : ByteArray := prog_1_method_29_code
def yX4_digest : MethodName := ⟨RX4, "digest", "()J"⟩
abbrev cX4_digestOfTimes : ByteArray := prog_1_method_30_code
def yX4_digestOfTimes : MethodName := ⟨RX4, "digestOfTimes", "(J)J"⟩
abbrev cX4_digestOfCircuit : ByteArray := prog_1_method_31_code
def yX4_digestOfCircuit : MethodName := ⟨RX4, "digestOfCircuit", "(J)J"⟩
abbrev cX4_digestOfWires : ByteArray := prog_1_method_32_code
def yX4_digestOfWires : MethodName := ⟨RX4, "digestOfWires", "(J)J"⟩
abbrev cX4_digestOfRun : ByteArray := prog_1_method_33_code
def yX4_digestOfRun : MethodName := ⟨RX4, "digestOfRun", "(J)J"⟩
abbrev cX4_addLine : ByteArray := prog_1_method_34_code
def yX4_addLine : MethodName := ⟨RX4, "addLine", "(IIIIII)I"⟩
abbrev cX4_isWire : ByteArray := prog_1_method_35_code
def yX4_isWire : MethodName := ⟨RX4, "isWire", "(I)Z"⟩
abbrev cX4_isWithin : ByteArray := prog_1_method_36_code
def yX4_isWithin : MethodName := ⟨RX4, "isWithin", "(II)Z"⟩
abbrev cX4_checkWire : ByteArray := prog_1_method_37_code
def yX4_checkWire : MethodName := ⟨RX4, "checkWire", "(I)V"⟩
abbrev cX4_checkDelay : ByteArray := prog_1_method_38_code
def yX4_checkDelay : MethodName := ⟨RX4, "checkDelay", "(I)V"⟩
abbrev cX4_checkRoom : ByteArray := prog_1_method_39_code
def yX4_checkRoom : MethodName := ⟨RX4, "checkRoom", "()V"⟩
abbrev cX4_checkLine : ByteArray := prog_1_method_40_code
def yX4_checkLine : MethodName := ⟨RX4, "checkLine", "(I)V"⟩
abbrev cX4_checkHasDelay : ByteArray := prog_1_method_41_code
def yX4_checkHasDelay : MethodName := ⟨RX4, "checkHasDelay", "(I)V"⟩
abbrev cX4_checkRunning : ByteArray := prog_1_method_42_code
def yX4_checkRunning : MethodName := ⟨RX4, "checkRunning", "()V"⟩
abbrev cX4_checkSetting : ByteArray := prog_1_method_43_code
def yX4_checkSetting : MethodName := ⟨RX4, "checkSetting", "(II)V"⟩
def RX5 : String := "FoundryNineLaw$Bench"
def TX5 : u_T := fun k => match k with
  | 0 => ("FoundryNineLaw$Bench", "m", "LFoundryNine;", true)
  | 1 => ("FoundryNineLaw$Bench", "s", "[I", true)
  | 2 => ("FoundryNineLaw$Bench", "draws", "I", false)
  | 3 => ("FoundryNineLaw$Bench", "lines", "I", false)
  | 4 => ("FoundryNineLaw$Bench", "line", "[[I", true)
  | 5 => ("FoundryNineLaw$Bench", "isRunning", "Z", false)
  | 6 => ("FoundryNineLaw$Bench", "time", "I", false)
  | 7 => ("FoundryNineLaw$Bench", "swallowed", "I", false)
  | 8 => ("FoundryNineLaw$Bench", "restless", "I", false)
  | 9 => ("FoundryNineLaw$Bench", "changes", "I", false)
  | 10 => ("FoundryNineLaw$Bench", "wire", "[[I", false)
  | 11 => ("FoundryNineLaw$Bench", "pending", "[[I", false)
  | 12 => ("FoundryNineLaw$Bench", "rise", "[I", true)
  | _ => ("FoundryNineLaw$Bench", "hazards", "[[I", false)
def tyX5 : Nat → FieldType := fun k => match k with
  | 0 => .object "FoundryNine"
  | 1 => .array .int
  | 2 => .int
  | 3 => .int
  | 4 => .array (.array .int)
  | 5 => .boolean
  | 6 => .int
  | 7 => .int
  | 8 => .int
  | 9 => .int
  | 10 => .array (.array .int)
  | 11 => .array (.array .int)
  | 12 => .array .int
  | _ => .array (.array .int)
abbrev wsX50 : List Cond := u_ws RX5 TX5 14
theorem nmX5 : ∀ a, a < 14 → ∀ b, b < 14 → a ≠ b → (TX5 a).2.1 ≠ (TX5 b).2.1 := by decide +kernel
theorem tyX5_ok : ∀ k, k < 14 → parseFieldDescriptor (TX5 k).2.2.1 = some (tyX5 k) := by decide +kernel
abbrev cX5_init : ByteArray := prog_7_method_1_code
def yX5_init : MethodName := ⟨RX5, "<init>", "([II)V"⟩
abbrev cX5_draw : ByteArray := prog_7_method_2_code
def yX5_draw : MethodName := ⟨RX5, "draw", "(I)I"⟩
abbrev cX5_with : ByteArray := prog_7_method_3_code
def yX5_with : MethodName := ⟨RX5, "with", "([[II[I)[[I"⟩
abbrev cX5_without : ByteArray := prog_7_method_4_code
def yX5_without : MethodName := ⟨RX5, "without", "([[II)[[I"⟩
abbrev cX5_clear : ByteArray := prog_7_method_5_code
def yX5_clear : MethodName := ⟨RX5, "clear", "()V"⟩
abbrev cX5_put : ByteArray := prog_7_method_6_code
def yX5_put : MethodName := ⟨RX5, "put", "(IIIIII)Z"⟩
abbrev cX5_found : ByteArray := prog_7_method_7_code
def yX5_found : MethodName := ⟨RX5, "found", "(I)Z"⟩
abbrev cX5_from : ByteArray := prog_7_method_8_code
def yX5_from : MethodName := ⟨RX5, "from", "(II)I"⟩
abbrev cX5_isGate : ByteArray := prog_7_method_9_code
def yX5_isGate : MethodName := ⟨RX5, "isGate", "(I)Z"⟩
abbrev cX5_uses : ByteArray := prog_7_method_10_code
def yX5_uses : MethodName := ⟨RX5, "uses", "(II)Z"⟩
abbrev cX5_driver : ByteArray := prog_7_method_11_code
def yX5_driver : MethodName := ⟨RX5, "driver", "(I)I"⟩
abbrev cX5_users : ByteArray := prog_7_method_12_code
def yX5_users : MethodName := ⟨RX5, "users", "(I)I"⟩
abbrev cX5_leads : ByteArray := prog_7_method_13_code
def yX5_leads : MethodName := ⟨RX5, "leads", "(II[Z)Z"⟩
abbrev cX5_isRing : ByteArray := prog_7_method_14_code
def yX5_isRing : MethodName := ⟨RX5, "isRing", "(I)Z"⟩
abbrev cX5_flaws : ByteArray := prog_7_method_15_code
def yX5_flaws : MethodName := ⟨RX5, "flaws", "()[I"⟩
abbrev cX5_mayRun : ByteArray := prog_7_method_16_code
def yX5_mayRun : MethodName := ⟨RX5, "mayRun", "()Z"⟩
abbrev cX5_value : ByteArray := prog_7_method_18_code
def yX5_value : MethodName := ⟨RX5, "value", "(I)I"⟩
abbrev cX5_reckon : ByteArray := prog_7_method_19_code
def yX5_reckon : MethodName := ⟨RX5, "reckon", "(I)I"⟩
abbrev cX5_pendingOf : ByteArray := prog_7_method_20_code
def yX5_pendingOf : MethodName := ⟨RX5, "pendingOf", "(I)I"⟩
abbrev cX5_drop : ByteArray := prog_7_method_21_code
def yX5_drop : MethodName := ⟨RX5, "drop", "(I)V"⟩
abbrev cX5_pend : ByteArray := prog_7_method_22_code
def yX5_pend : MethodName := ⟨RX5, "pend", "(II)V"⟩
abbrev cX5_note : ByteArray := prog_7_method_23_code
def yX5_note : MethodName := ⟨RX5, "note", "(II)V"⟩
abbrev cX5_change : ByteArray := prog_7_method_24_code
def yX5_change : MethodName := ⟨RX5, "change", "(II)V"⟩
abbrev cX5_ask : ByteArray := prog_7_method_25_code
def yX5_ask : MethodName := ⟨RX5, "ask", "(III)V"⟩
abbrev cX5_started : ByteArray := prog_7_method_29_code
def yX5_started : MethodName := ⟨RX5, "started", "()I"⟩
abbrev cX5_start : ByteArray := prog_7_method_31_code
def yX5_start : MethodName := ⟨RX5, "start", "()Z"⟩
def RX6 : String := "FoundryNineModel"
def TX6 : u_T := fun k => match k with
  | _ => ("", "", "", false)
def tyX6 : Nat → FieldType := fun k => match k with
  | _ => .int
abbrev wsX60 : List Cond := u_ws RX6 TX6 0
theorem nmX6 : ∀ a, a < 0 → ∀ b, b < 0 → a ≠ b → (TX6 a).2.1 ≠ (TX6 b).2.1 := by decide +kernel
theorem tyX6_ok : ∀ k, k < 0 → parseFieldDescriptor (TX6 k).2.2.1 = some (tyX6 k) := by decide +kernel
def RJx145de : String := "java/io/Serializable"
def TJx145de : u_T := fun k => match k with
  | _ => ("", "", "", false)
def tyJx145de : Nat → FieldType := fun k => match k with
  | _ => .int
def RJ6 : String := "java/lang/Integer"
def TJ6 : u_T := fun k => match k with
  | _ => ("", "", "", false)
def tyJ6 : Nat → FieldType := fun k => match k with
  | _ => .int
abbrev cJ6_bitCount_0f7a4 : ByteArray := prog_13_method_49_code
def yJ6_bitCount_0f7a4 : MethodName := ⟨RJ6, "bitCount", "(I)I"⟩
def RJ9 : String := "java/lang/Math"
def TJ9 : u_T := fun k => match k with
  | _ => ("", "", "", false)
def tyJ9 : Nat → FieldType := fun k => match k with
  | _ => .int
abbrev cJ9_max_7cf53 : ByteArray := prog_14_method_65_code
def yJ9_max_7cf53 : MethodName := ⟨RJ9, "max", "(II)I"⟩
def RJ0 : String := "java/lang/String"
def TJ0 : u_T := fun k => match k with
  | _ => ("", "", "", false)
def tyJ0 : Nat → FieldType := fun k => match k with
  | _ => .int
def RJ10 : String := "java/lang/System"
def TJ10 : u_T := fun k => match k with
  | _ => ("", "", "", false)
def tyJ10 : Nat → FieldType := fun k => match k with
  | _ => .int
def RJ7 : String := "java/util/Arrays"
def TJ7 : u_T := fun k => match k with
  | _ => ("", "", "", false)
def tyJ7 : Nat → FieldType := fun k => match k with
  | _ => .int
abbrev cJ7_fill_53178 : ByteArray := prog_19_method_103_code
def yJ7_fill_53178 : MethodName := ⟨RJ7, "fill", "([II)V"⟩
def RL : String := "FoundryNineLaw"
abbrev cL_below : ByteArray := method_2_code
def yL_below : MethodName := ⟨RL, "below", "(II)I"⟩
abbrev cL_cell : ByteArray := method_3_code
def yL_cell : MethodName := ⟨RL, "cell", "([II)I"⟩
abbrev cL_law : ByteArray := code
def yL_law : MethodName := ⟨RL, "law", "([I)Z"⟩
abbrev vwCl : List vw_C := [(RX0, TX0, 1), (RX1, TX1, 12), (RX2, TX2, 6), (RX3, TX3, 18), (RX4, TX4, 7), (RX5, TX5, 14)]
end
section
/-! AW: a layer of the verifier's own over the kit's rows. A heap of cells by small numbers (ids), a world of all of them at once, one judgement AW at a program point, one contract AM a method. Terms stay free of addresses. -/
abbrev Mt : Type := MethodName × ByteArray × Nat × Option FieldType × List (Nat × Nat × Nat × Nat)
abbrev Out : Type := Option Value ⊕ String
abbrev Ce : Type := (FieldType × vp_A) ⊕ (Nat × List Value)
abbrev Hp : Type := Nat → Ce
abbrev Po : Type := Out → Hp → Nat → Prop
abbrev Gz : Type := State → (Nat → Prop) → (Nat → Nat) → Prop
def aw_cv (ad : Nat → Nat) (v : Value) : Value := match v with
  | .ref i => .ref (ad i)
  | w => w
def aw_ok (k : Nat) (v : Value) : Prop := match v with
  | .ref i => i < k
  | _ => True
/-- the contents of an array, its references by their addresses -/
def aw_ca (ad : Nat → Nat) (a : vp_A) : vp_A := (a.1, match a.2 with
  | .inl f => .inl f
  | .inr (.inl f) => .inr (.inl f)
  | .inr (.inr (.inl f)) => .inr (.inr (.inl f))
  | .inr (.inr (.inr (.inl f))) => .inr (.inr (.inr (.inl f)))
  | .inr (.inr (.inr (.inr f))) => .inr (.inr (.inr (.inr fun j => (f j).map ad))))
def aw_oka (k : Nat) (a : vp_A) : Prop := match a.2 with
  | .inr (.inr (.inr (.inr f))) => ∀ j i, f j = some i → i < k
  | _ => True
def aw_ce (cT : FieldType → ClassId) (ad : Nat → Nat) (c : Ce) : va_E := match c with
  | .inl x => .inl (cT x.1, aw_ca ad x.2)
  | .inr o => .inr (o.1, o.2.map (aw_cv ad))
def aw_okc (k : Nat) (c : Ce) : Prop := match c with
  | .inl x => aw_oka k x.2
  | .inr o => ∀ v ∈ o.2, aw_ok k v
def aw_ws (cT : FieldType → ClassId) (ad : Nat → Nat) (h : Hp) (k : Nat) : va_W := (List.range (k - 1)).map fun i => (ad (i + 1), aw_ce cT ad (h (i + 1)))
def aw_tys (cT : FieldType → ClassId) : List (ClassId × FieldType) := [(cT .int, .int), (cT .boolean, .boolean), (cT .byte, .byte), (cT (.array .int), .array .int)]
abbrev aw_cl : List vw_C := [(RX0, TX0, 1), (RX1, TX1, 12), (RX2, TX2, 6), (RX3, TX3, 18), (RX4, TX4, 7), (RX5, TX5, 14)]
def aw_Wo (D : va_G) (cT : FieldType → ClassId) (A : Nat → Prop) (ad : Nat → Nat) (h : Hp) (k : Nat) (H : Heap) (U : State) : Prop :=
  va_P D aw_cl (aw_ws cT ad h k) H ∧ va_D A (aw_ws cT ad h k) ∧ va_K D aw_cl (aw_tys cT) U ∧ 0 < k ∧ ∀ i, 0 < i → i < k → aw_okc k (h i)
def aw_nest (w : Cond) : Bool := match w with
  | .fieldLinkNest .. => true
  | .methodLinkNest .. => true
  | _ => false
def aw_okw (w : Cond) : Bool := goodWord w || aw_nest w || (w.onTables && w.faceAtom)
def aw_str : List (String × Nat × String) := lw_tbl.filterMap fun w => match w with
  | .stringRef o i t => some (o, i, t)
  | _ => none
def aw_exc : List String := []
/-- rows of rows of ints are made by anewarray -/
def aw_AO (U : State) : Prop := (Cond.arrayOver (.array .int)).before #[] U = true
theorem aw_AO.moved {u U : State} (hvm : u.vm.Alike U.vm) (h : aw_AO u) : aw_AO U := by
  obtain ⟨comp, c, k, h1, h2, h3, h4, h5⟩ := arrayOverA_spec h
  obtain ⟨k', hk', he⟩ := hvm.2.2 _ _ h3
  have hi : (U.vm.classes.findIdx? fun (x : Class) => match x.kind with | .array component _ => component == comp | _ => false) = some c := by
    have q1 := va_idx_bare U.vm comp
    have q2 := va_idx_bare u.vm comp
    have e : U.vm.bare = u.vm.bare := by first | exact hvm.bare_eq | exact hvm.bare_eq.symm
    rw [e] at q1
    exact q1.symm.trans (q2.trans h2)
  have hkind : k'.kind = .array comp (.array .int) := by rw [he]; exact h4
  have f1 : U.vm.findClass (FieldType.array .int).toString = some comp := by rw [hvm.findClass]; exact h1
  have f2 : U.vm.findClass ("[" ++ (FieldType.array .int).toString) = some c := by rw [hvm.findClass]; exact h5
  unfold aw_AO Cond.before Cond.holds
  simp only [Cond.value]
  rw [f1, Option.bind_some]
  refine (congrArg (fun o : Option Nat => (o.bind (fun c => (U.vm.classes[c]?).map fun (k : Class) => match k.kind with | .array _ ty => decide (ty = FieldType.array .int) && decide (U.vm.findClass ("[" ++ (FieldType.array .int).toString) = some c) | _ => false) == some true)) hi).trans ?_
  simp [hk', hkind, f2]
def aw_GF (A : Nat → Prop) (U : State) : Prop :=
  (∀ w ∈ lw_tbl, aw_okw w = true → w.before #[] U = true) ∧ (∀ q ∈ aw_str, ∃ a, vk_R q.1 q.2.1 q.2.2 a U) ∧ (∀ x ∈ aw_exc, ∀ y ∈ aw_exc, x ≠ y → va_Nc x y U) ∧
  vx_Zq Bundle.tN "UNASSIGNED_STACK" Bundle.steD A U U.heap ∧ vx_Zq Bundle.tN "SUPPRESSED_SENTINEL" Bundle.listD A U U.heap ∧ aw_AO U
def aw_cw (μ : Mt) : Cond := match μ.2.2.2.2 with
  | [] => .code μ.1 μ.2.1 μ.2.2.1 μ.2.2.2.1
  | hh => .codeWith μ.1 μ.2.1 μ.2.2.1 μ.2.2.2.1 hh
def aw_Cx (Z : Gz) (μ : Mt) (l : Launch) (p : Program) (s : State) (m : MethodId) (args : Array Value) (meth : Method) (c : Code) (ad0 : Nat → Nat) (A : Nat → Prop) : Prop :=
  l.stackTraces = false ∧ p.tables.exec = Jvm.exec ∧ c.code = μ.2.1 ∧ c.maxLocals = μ.2.2.1 ∧ meth.sig.returnType = μ.2.2.2.1 ∧ meth.locks = false ∧ meth.name = μ.1.name ∧
  s.vm.findClass μ.1.cls = some m.cls ∧ c.exceptionTable.toList = tableOf μ.2.2.2.2 ∧ aw_GF A s ∧ (∀ q, s.heap.size ≤ q → A q) ∧ Z s A ad0
def aw_Lv (nL : Nat) (ad : Nat → Nat) (k : Nat) (ls : Array Slot) (L : List Value) : Prop :=
  ls.size = nL ∧ lv_wf ls ∧ ∀ (i : Nat) (v : Value), L[i]? = some v → v ≠ .null → ls[i]? = some (.val (aw_cv ad v)) ∧ aw_ok k v
def aw_Qc (D : va_G) (cT : FieldType → ClassId) (A : Nat → Prop) (ad0 : Nat → Nat) (k0 : Nat) (Q : Po) : Array Value → State → Outcome → State → Prop := fun _ st oc t =>
  (∃ (v : Option Value) (h' : Hp) (k' : Nat) (ad' : Nat → Nat), oc = .returned (v.map (aw_cv ad')) ∧ Q (.inl v) h' k' ∧ (∀ i, i < k0 → ad' i = ad0 i) ∧ k0 ≤ k' ∧ (∀ w, v = some w → aw_ok k' w) ∧ aw_Wo D cT A ad' h' k' t.heap t) ∧ va_F A st t
def aw_Xc (D : va_G) (cT : FieldType → ClassId) (A : Nat → Prop) (ad0 : Nat → Nat) (k0 : Nat) (Q : Po) : String → State → State → Prop := fun E st t =>
  (∃ (h' : Hp) (k' : Nat) (ad' : Nat → Nat), Q (.inr E) h' k' ∧ (∀ i, i < k0 → ad' i = ad0 i) ∧ k0 ≤ k' ∧ aw_Wo D cT A ad' h' k' t.heap t) ∧ va_F A st t
def aw_R (d mc ms : Nat) : Room := { frames := d + 20, cells := mc, slots := ms, locals := 41 * d + 852 }
/-- at pc of the method μ, with locals L, operands S, the heap h of the ids below k, cs cells of ss slots made so far: the method comes to an end with Q -/
def AW (Z : Gz) (μ : Mt) (d k0 mc ms : Nat) (Q : Po) (pc : Nat) (L S : List Value) (h : Hp) (k cs ss : Nat) : Prop :=
  ∀ (l : Launch) (D : va_G) (cT : FieldType → ClassId) (p : Program) (e : Env) (s : State) (m : MethodId) (args : Array Value) (below : List Frame) (meth : Method) (c : Code) (ad0 ad : Nat → Nat) (A : Nat → Prop) (H : Heap) (locs : List Loc) (ls : Array Slot),
    aw_Cx Z μ l p s m args meth c ad0 A → (∀ i, i < k0 → ad i = ad0 i) → k0 ≤ k → va_S A s.heap H locs → aw_Wo D cT A ad h k H s → aw_Lv μ.2.2.1 ad k ls L → (∀ v ∈ S, aw_ok k v) →
    W p l e (aw_R d mc ms) s m args below meth c H locs cs ss (vx_MQ below (aw_Qc D cT A ad0 k0 Q) (aw_Xc D cT A ad0 k0 Q) args s mc ms A) (F0 m pc ls (S.map (aw_cv ad)))
def aw_Z0 : Gz := fun _ _ _ => True
/-- the contract of the method μ at these arguments and this heap: it ends with Q, at most mc cells of ms slots are new -/
def AM (μ : Mt) (d : Nat) (as : List Value) (h : Hp) (k mc ms : Nat) (Q : Po) : Prop :=
  ∀ (l : Launch) (D : va_G) (cT : FieldType → ClassId) (ad : Nat → Nat) (sz : Nat), l.stackTraces = false →
    vx_Met l μ.1 [aw_cw μ] (aw_R d mc ms) (va_Pc (as.map (aw_cv ad)) (fun U => U.heap.size = sz ∧ (∀ v ∈ as, aw_ok k v) ∧ aw_Wo D cT (va_A (aw_ws cT ad h k) sz) ad h k U.heap U ∧ aw_GF (va_A (aw_ws cT ad h k) sz) U))
      (aw_Qc D cT (va_A (aw_ws cT ad h k) sz) ad k Q) (aw_Xc D cT (va_A (aw_ws cT ad h k) sz) ad k Q) mc ms (va_A (aw_ws cT ad h k) sz)
/-! words -/
theorem aw_stable {w : Cond} (hw : aw_okw w = true) {a a' : Array Value} {s U : State} (hW : s.WarmedH U.vm) (h : w.before a s = true) : w.before a' U = true := by
  simp only [aw_okw, Bool.or_eq_true, Bool.and_eq_true] at hw
  rcases hw with (hw | hw) | ⟨hw, hf⟩
  · exact word_at hW (good_of_word hw) h
  · cases w
    case fieldLinkNest => exact va_tabs rfl (rfl : (s.setVm U.vm).vm = U.vm) (Cond.fieldLinkNest_warmed (args := a) hW h)
    case methodLinkNest => exact va_tabs rfl (rfl : (s.setVm U.vm).vm = U.vm) (Cond.methodLinkNest_warmed (args := a) hW h)
    all_goals exact absurd hw (by simp [aw_nest])
  · exact va_tabs hw (rfl : (s.setVm U.vm).vm = U.vm) (Cond.faceAtom_setVm hW.alike w hf h)
theorem aw_GF.moved {A B : Nat → Prop} {s U : State} (h : aw_GF A s) (hW : s.WarmedH U.vm) (hq : ∀ a : Nat, a < s.heap.size → ¬ A a → U.heap[a]? = s.heap[a]?) (hAB : ∀ q, B q → A q) : aw_GF B U := by
  obtain ⟨h1, h2, h3, h4, h5, h6⟩ := h
  exact ⟨fun w hw ho => aw_stable ho hW (h1 w hw ho), fun q hq => by obtain ⟨a, ha⟩ := h2 q hq; exact ⟨a, ha.warm hW⟩, fun x hx y hy hxy => (h3 x hx y hy hxy).moved hW.alike,
    vx_Zq.moved hW.alike ((h4.kept hq).narrow hAB), vx_Zq.moved hW.alike ((h5.kept hq).narrow hAB), h6.moved hW.alike⟩
/-! values and cells under another map of addresses -/
theorem aw_cv_congr {ad ad' : Nat → Nat} {k : Nat} {v : Value} (h : aw_ok k v) (e : ∀ i, i < k → ad' i = ad i) : aw_cv ad' v = aw_cv ad v := by
  cases v <;> first | rfl | (show Value.ref _ = Value.ref _; rw [e _ h])
theorem aw_ok_le {k k' : Nat} {v : Value} (h : aw_ok k v) (hk : k ≤ k') : aw_ok k' v := by
  cases v <;> first | trivial | exact Nat.lt_of_lt_of_le h hk
theorem aw_oka_le {k k' : Nat} {a : vp_A} (h : aw_oka k a) (hk : k ≤ k') : aw_oka k' a := by
  obtain ⟨n, a⟩ := a
  rcases a with f | f | f | f | f
  · trivial
  · trivial
  · trivial
  · trivial
  · exact fun j i e => Nat.lt_of_lt_of_le (h j i e) hk
theorem aw_ca_congr {ad ad' : Nat → Nat} {k : Nat} {a : vp_A} (h : aw_oka k a) (e : ∀ i, i < k → ad' i = ad i) : aw_ca ad' a = aw_ca ad a := by
  obtain ⟨n, a⟩ := a
  rcases a with f | f | f | f | f
  · rfl
  · rfl
  · rfl
  · rfl
  · have : (fun j => (f j).map ad') = fun j => (f j).map ad := by
      funext j
      cases hj : f j with
      | none => rfl
      | some i => simp only [Option.map_some, e i (h j i hj)]
    show ((n, .inr (.inr (.inr (.inr fun j => (f j).map ad')))) : vp_A) = (n, .inr (.inr (.inr (.inr fun j => (f j).map ad))))
    rw [this]
theorem aw_okc_le {k k' : Nat} {c : Ce} (h : aw_okc k c) (hk : k ≤ k') : aw_okc k' c := by
  rcases c with c | c
  · exact aw_oka_le h hk
  · exact fun v hv => aw_ok_le (h v hv) hk
theorem aw_ce_congr {cT : FieldType → ClassId} {ad ad' : Nat → Nat} {k : Nat} {c : Ce} (h : aw_okc k c) (e : ∀ i, i < k → ad' i = ad i) : aw_ce cT ad' c = aw_ce cT ad c := by
  rcases c with c | c
  · show Sum.inl (cT c.1, aw_ca ad' c.2) = Sum.inl (cT c.1, aw_ca ad c.2)
    rw [aw_ca_congr h e]
  · show Sum.inr _ = Sum.inr _
    rw [List.map_congr_left fun v hv => aw_cv_congr (h v hv) e]
theorem aw_cat (ad : Nat → Nat) (v : Value) : (aw_cv ad v).category = v.category := by cases v <;> rfl
theorem aw_ws_len (cT : FieldType → ClassId) (ad : Nat → Nat) (h : Hp) (k : Nat) : (aw_ws cT ad h k).length = k - 1 := by simp [aw_ws]
theorem aw_ws_at (cT : FieldType → ClassId) (ad : Nat → Nat) (h : Hp) {k i : Nat} (h0 : 0 < i) (hi : i < k) : (aw_ws cT ad h k)[i - 1]? = some (ad i, aw_ce cT ad (h i)) := by
  have e : i - 1 + 1 = i := Nat.sub_add_cancel h0
  simp only [aw_ws, List.getElem?_map]
  rw [List.getElem?_range (by omega)]
  simp [e]
theorem aw_ws_out {cT : FieldType → ClassId} {ad : Nat → Nat} {h : Hp} {k j : Nat} {q : Nat × va_E} (hq : (aw_ws cT ad h k)[j]? = some q) : j + 1 < k ∧ q = (ad (j + 1), aw_ce cT ad (h (j + 1))) := by
  have hl : j < k - 1 := by
    have := (List.getElem?_eq_some_iff.mp hq).1
    rwa [aw_ws_len] at this
  have h2 := aw_ws_at cT ad h (k := k) (i := j + 1) (Nat.succ_pos j) (by omega)
  rw [Nat.add_sub_cancel, hq] at h2
  exact ⟨by omega, Option.some.inj h2⟩
theorem aw_ws_set (cT : FieldType → ClassId) (ad : Nat → Nat) (h : Hp) {k i : Nat} (h0 : 0 < i) (hi : i < k) (e : Ce) : (aw_ws cT ad h k).set (i - 1) (ad i, aw_ce cT ad e) = aw_ws cT ad (va_up h i e) k := by
  apply List.ext_getElem?
  intro j
  by_cases hj : j + 1 < k
  · have h2 := aw_ws_at cT ad (va_up h i e) (k := k) (i := j + 1) (Nat.succ_pos j) hj
    rw [Nat.add_sub_cancel] at h2
    rw [h2]
    by_cases hji : j + 1 = i
    · have e1 : i - 1 = j := by omega
      rw [e1, List.getElem?_set_self (by rw [aw_ws_len]; omega)]
      subst hji
      simp [va_up]
    · rw [List.getElem?_set_ne (by omega)]
      have h3 := aw_ws_at cT ad h (k := k) (i := j + 1) (Nat.succ_pos j) hj
      rw [Nat.add_sub_cancel] at h3
      rw [h3]
      simp [va_up, hji]
  · rw [List.getElem?_eq_none (by rw [List.length_set, aw_ws_len]; omega), List.getElem?_eq_none (by rw [aw_ws_len]; omega)]
theorem aw_ws_push (cT : FieldType → ClassId) (ad : Nat → Nat) (h : Hp) {k : Nat} (h0 : 0 < k) (hok : ∀ i, 0 < i → i < k → aw_okc k (h i)) (q : Nat) (e : Ce) (he : aw_okc k e) :
    aw_ws cT (va_up ad k q) (va_up h k e) (k + 1) = aw_ws cT ad h k ++ [(q, aw_ce cT ad e)] := by
  have hc : ∀ i, i < k → va_up ad k q i = ad i := fun i hi => by simp [va_up, Nat.ne_of_lt hi]
  apply List.ext_getElem?
  intro j
  by_cases hj : j + 1 < k
  · have h2 := aw_ws_at cT (va_up ad k q) (va_up h k e) (k := k + 1) (i := j + 1) (Nat.succ_pos j) (by omega)
    have h3 := aw_ws_at cT ad h (k := k) (i := j + 1) (Nat.succ_pos j) hj
    rw [Nat.add_sub_cancel] at h2 h3
    rw [h2, List.getElem?_append_left (by rw [aw_ws_len]; omega), h3, hc _ hj]
    have e1 : va_up h k e (j + 1) = h (j + 1) := by simp [va_up, Nat.ne_of_lt hj]
    rw [e1, aw_ce_congr (hok _ (Nat.succ_pos j) hj) hc]
  · by_cases hj2 : j + 1 = k
    · have h2 := aw_ws_at cT (va_up ad k q) (va_up h k e) (k := k + 1) (i := j + 1) (Nat.succ_pos j) (by omega)
      rw [Nat.add_sub_cancel] at h2
      rw [h2, List.getElem?_append_right (by rw [aw_ws_len]; omega), aw_ws_len]
      have e0 : j - (k - 1) = 0 := by omega
      rw [e0]
      subst hj2
      simp only [va_up, if_true, List.getElem?_cons_zero]
      rw [← aw_ce_congr he hc]
    · rw [List.getElem?_eq_none (by rw [aw_ws_len]; omega), List.getElem?_eq_none (by rw [List.length_append, aw_ws_len]; simp; omega)]
theorem aw_ws_kept {cT : FieldType → ClassId} {ad ad' : Nat → Nat} {h : Hp} {k : Nat} (hok : ∀ i, 0 < i → i < k → aw_okc k (h i)) (e : ∀ i, i < k → ad' i = ad i) : aw_ws cT ad' h k = aw_ws cT ad h k := by
  apply List.ext_getElem?
  intro j
  by_cases hj : j + 1 < k
  · have h2 := aw_ws_at cT ad' h (k := k) (i := j + 1) (Nat.succ_pos j) hj
    have h3 := aw_ws_at cT ad h (k := k) (i := j + 1) (Nat.succ_pos j) hj
    rw [Nat.add_sub_cancel] at h2 h3
    rw [h2, h3, e _ hj, aw_ce_congr (hok _ (Nat.succ_pos j) hj) e]
  · rw [List.getElem?_eq_none (by rw [aw_ws_len]; omega), List.getElem?_eq_none (by rw [aw_ws_len]; omega)]
/-! into a method's body, out of it -/
def aw_loc (vs : List Value) : List Value := match vs with
  | [] => []
  | v :: vs => if v.category = 2 then v :: .null :: aw_loc vs else v :: aw_loc vs
theorem aw_loc_in (ad : Nat → Nat) (n : Nat) : ∀ (vs : List Value) (b i : Nat) (v : Value), (aw_loc vs ++ List.replicate n .null)[i]? = some v → v ≠ .null → v ∈ vs ∧ (b + i, aw_cv ad v) ∈ lv_args b (vs.map (aw_cv ad))
  | [], b, i, v, h, hv => by
    rw [aw_loc, List.nil_append] at h
    have := List.mem_of_getElem? h
    exact absurd (List.eq_of_mem_replicate this) hv
  | w :: vs, b, i, v, h, hv => by
    have hc := aw_cat ad w
    by_cases h2 : w.category = 2
    · rw [aw_loc, if_pos h2] at h
      simp only [List.map_cons, lv_args, hc, if_pos h2]
      match i, h with
      | 0, h =>
        simp only [List.cons_append, List.getElem?_cons_zero, Option.some.injEq] at h
        subst h
        exact ⟨List.mem_cons_self, List.mem_cons_self⟩
      | 1, h =>
        simp only [List.cons_append, List.getElem?_cons_succ, List.getElem?_cons_zero, Option.some.injEq] at h
        exact absurd h.symm hv
      | i + 2, h =>
        simp only [List.cons_append, List.getElem?_cons_succ] at h
        obtain ⟨h3, h4⟩ := aw_loc_in ad n vs (b + 2) i v h hv
        exact ⟨List.mem_cons_of_mem _ h3, List.mem_cons_of_mem _ (by rw [show b + (i + 2) = b + 2 + i by omega]; exact h4)⟩
    · rw [aw_loc, if_neg h2] at h
      simp only [List.map_cons, lv_args, hc, if_neg h2]
      match i, h with
      | 0, h =>
        simp only [List.cons_append, List.getElem?_cons_zero, Option.some.injEq] at h
        subst h
        exact ⟨List.mem_cons_self, List.mem_cons_self⟩
      | i + 1, h =>
        simp only [List.cons_append, List.getElem?_cons_succ] at h
        obtain ⟨h3, h4⟩ := aw_loc_in ad n vs (b + 1) i v h hv
        exact ⟨List.mem_cons_of_mem _ h3, List.mem_cons_of_mem _ (by rw [show b + (i + 1) = b + 1 + i by omega]; exact h4)⟩
theorem aw_lg_len (ad : Nat → Nat) : ∀ vs : List Value, (lg_sl (vs.map (aw_cv ad))).length = (aw_loc vs).length
  | [] => rfl
  | w :: vs => by
    have hc := aw_cat ad w
    have ih := aw_lg_len ad vs
    by_cases h2 : w.category = 2 <;> simp [lg_sl, aw_loc, hc, h2] at ih ⊢ <;> omega
theorem aw_entry {ad : Nat → Nat} {k nL n : Nat} {as L : List Value} (hn : (aw_loc as).length + n = nL) (hL : aw_loc as ++ List.replicate n .null = L) (hok : ∀ v ∈ as, aw_ok k v) :
    aw_Lv nL ad k ((lg_sl (as.map (aw_cv ad)) ++ List.replicate (nL - (lg_sl (as.map (aw_cv ad))).length) Slot.unset).toArray) L := by
  have h := lv_entry (as.map (aw_cv ad)) (n := nL) (by rw [aw_lg_len]; omega)
  refine ⟨h.1, h.2.1, fun i v hi hv => ?_⟩
  rw [← hL] at hi
  obtain ⟨h3, h4⟩ := aw_loc_in ad n as 0 i v hi hv
  rw [Nat.zero_add] at h4
  exact ⟨h.2.2 _ h4, hok v h3⟩
theorem aw_self {D : va_G} {cT : FieldType → ClassId} {A : Nat → Prop} {ad : Nat → Nat} {h : Hp} {k : Nat} {H : Heap} {U : State} (w : aw_Wo D cT A ad h k H U) {sz : Nat} : aw_Wo D cT (va_A (aw_ws cT ad h k) sz) ad h k H U := ⟨w.1, w.2.1.self, w.2.2.1, w.2.2.2⟩
set_option maxHeartbeats 4000000 in
theorem AM.intro {μ : Mt} {d n : Nat} {as L : List Value} {h : Hp} {k mc ms : Nat} {Q : Po} (hy : plainName μ.1.cls = true) (hh : μ.2.2.2.2 = []) (hn : (aw_loc as).length + n = μ.2.2.1) (hL : aw_loc as ++ List.replicate n .null = L)
    (K : AW aw_Z0 μ d k mc ms Q 0 L [] h k 0 0) : AM μ d as h k mc ms Q := by
  intro l D cT ad sz hl
  have hcw : aw_cw μ = .code μ.1 μ.2.1 μ.2.2.1 μ.2.2.2.1 := by unfold aw_cw; rw [hh]
  refine vx_ofW (cc := μ.2.1) (maxL := μ.2.2.1) (ret := μ.2.2.2.1) (ws' := []) hy (by rw [hcw]) ?_
  intro p e s m args below meth c s₁ B hml ht hv
  obtain ⟨rfl, hsz, hok, hw, hg⟩ := hv
  subst hsz
  have hnm := (name_of_methodNamed B.named B.method).1
  rw [lg_entry_eq]
  refine K l D cT p e s m _ below meth c ad ad _ s.heap [] _ ⟨hl, B.exec, B.bytes, hml, B.returns, B.notSynchronized, hnm, findClass_of_methodNamed B.named, ?_, hg, fun q hq => Or.inr hq, trivial⟩ (fun _ _ => rfl) (Nat.le_refl _) va_S.rf hw (aw_entry hn hL hok) (fun v hv => nomatch hv)
  rw [hh]
  cases he : c.exceptionTable.toList with
  | nil => rfl
  | cons x y => exact absurd (ht x (by rw [he]; exact List.mem_cons_self)) id
section Rows
variable {Z : Gz} {μ : Mt} {d k0 mc ms : Nat} {Q : Po} {pc : Nat} {L S : List Value} {h : Hp} {k cs ss : Nat}
/-- a row that leaves heap and locals -/
theorem AW.pure {pc' : Nat} {S' : List Value} (hok : (∀ v ∈ S, aw_ok k v) → (∀ (i : Nat) (v : Value), L[i]? = some v → v ≠ .null → aw_ok k v) → ∀ v ∈ S', aw_ok k v)
    (hW : ∀ (l : Launch) (p : Program) (e : Env) (R : Room) (s : State) (m : MethodId) (args : Array Value) (below : List Frame) (meth : Method) (c : Code) (H : Heap) (locs : List Loc) (F : State → Prop) (ls : Array Slot) (ad : Nat → Nat),
      p.tables.exec = Jvm.exec → c.code = μ.2.1 → s.vm.findClass μ.1.cls = some m.cls → (∀ w ∈ lw_tbl, aw_okw w = true → w.before args s = true) → aw_Lv μ.2.2.1 ad k ls L →
      W p l e R s m args below meth c H locs cs ss F (F0 m pc' ls (S'.map (aw_cv ad))) → W p l e R s m args below meth c H locs cs ss F (F0 m pc ls (S.map (aw_cv ad))))
    (K : AW Z μ d k0 mc ms Q pc' L S' h k cs ss) : AW Z μ d k0 mc ms Q pc L S h k cs ss := by
  intro l D cT p e s m args below meth c ad0 ad A H locs ls hC ha hk hS hw hl hs
  refine hW l p e _ s m args below meth c H locs _ ls ad hC.2.1 hC.2.2.1 hC.2.2.2.2.2.2.2.1 (fun w h1 h2 => aw_stable h2 (State.WarmedH.refl s) (hC.2.2.2.2.2.2.2.2.2.1.1 w h1 h2)) hl ?_
  exact K l D cT p e s m args below meth c ad0 ad A H locs ls hC ha hk hS hw hl (hok hs fun i v h1 h2 => (hl.2.2 i v h1 h2).2)
theorem aw_ok_cons {v : Value} (h1 : aw_ok k v) (h2 : ∀ w ∈ S, aw_ok k w) : ∀ w ∈ v :: S, aw_ok k w := fun w hw => by
  rcases List.mem_cons.mp hw with rfl | hw
  · exact h1
  · exact h2 w hw
theorem aw_okI {v : Int32} : aw_ok k (.int v) := trivial
theorem aw_okJ {v : Int64} : aw_ok k (.long v) := trivial
theorem aw_okD {v : UInt64} : aw_ok k (.double v) := trivial
theorem aw_ok_tail {v : Value} (h : ∀ w ∈ v :: S, aw_ok k w) : ∀ w ∈ S, aw_ok k w := fun w hw => h w (List.mem_cons_of_mem _ hw)
theorem AW.iconst {n : Int} {v : Int32} (hd : decode μ.2.1 pc = .ok (.iconst n, 1)) (hv : Int32.ofInt n = v) (K : AW Z μ d k0 mc ms Q (pc + 1) L (.int v :: S) h k cs ss) : AW Z μ d k0 mc ms Q pc L S h k cs ss :=
  AW.pure (fun h _ => aw_ok_cons aw_okI h) (fun _ _ _ _ _ _ _ _ _ _ _ _ _ _ _ hx hb _ _ _ q => lv_iconst hx hb hd hv q) K
theorem AW.bipush {n : Int} {v : Int32} (hd : decode μ.2.1 pc = .ok (.bipush n, 2)) (hv : (Int8.ofInt n).toInt32 = v) (K : AW Z μ d k0 mc ms Q (pc + 2) L (.int v :: S) h k cs ss) : AW Z μ d k0 mc ms Q pc L S h k cs ss :=
  AW.pure (fun h _ => aw_ok_cons aw_okI h) (fun _ _ _ _ _ _ _ _ _ _ _ _ _ _ _ hx hb _ _ _ q => lv_bipush hx hb hd hv q) K
theorem AW.sipush {n : Int} {v : Int32} (hd : decode μ.2.1 pc = .ok (.sipush n, 3)) (hv : (Int16.ofInt n).toInt32 = v) (K : AW Z μ d k0 mc ms Q (pc + 3) L (.int v :: S) h k cs ss) : AW Z μ d k0 mc ms Q pc L S h k cs ss :=
  AW.pure (fun h _ => aw_ok_cons aw_okI h) (fun _ _ _ _ _ _ _ _ _ _ _ _ _ _ _ hx hb _ _ _ q => lv_sipush hx hb hd hv q) K
theorem AW.iload_n {x : Fin 4} {i : Nat} {v : Int32} (hd : decode μ.2.1 pc = .ok (.iload_n x, 1)) (hi : (x : Nat) = i) (hl : L[i]? = some (.int v)) (K : AW Z μ d k0 mc ms Q (pc + 1) L (.int v :: S) h k cs ss) : AW Z μ d k0 mc ms Q pc L S h k cs ss :=
  AW.pure (fun h _ => aw_ok_cons aw_okI h) (fun _ _ _ _ _ _ _ _ _ _ _ _ _ _ _ hx hb _ _ hL q => lv_iload_n hx hb hd hi (hL.2.2 _ _ hl (fun e => nomatch e)).1 q) K
theorem AW.iload {i : Nat} {v : Int32} (hd : decode μ.2.1 pc = .ok (.iload i, 2)) (hl : L[i]? = some (.int v)) (K : AW Z μ d k0 mc ms Q (pc + 2) L (.int v :: S) h k cs ss) : AW Z μ d k0 mc ms Q pc L S h k cs ss :=
  AW.pure (fun h _ => aw_ok_cons aw_okI h) (fun _ _ _ _ _ _ _ _ _ _ _ _ _ _ _ hx hb _ _ hL q => lv_iload hx hb hd (hL.2.2 _ _ hl (fun e => nomatch e)).1 q) K
theorem AW.lload_n {x : Fin 4} {i : Nat} {v : Int64} (hd : decode μ.2.1 pc = .ok (.lload_n x, 1)) (hi : (x : Nat) = i) (hl : L[i]? = some (.long v)) (K : AW Z μ d k0 mc ms Q (pc + 1) L (.long v :: S) h k cs ss) : AW Z μ d k0 mc ms Q pc L S h k cs ss :=
  AW.pure (fun h _ => aw_ok_cons aw_okJ h) (fun _ _ _ _ _ _ _ _ _ _ _ _ _ _ _ hx hb _ _ hL q => lv_lload_n hx hb hd hi (hL.2.2 _ _ hl (fun e => nomatch e)).1 q) K
theorem AW.dload {i : Nat} {v : UInt64} (hd : decode μ.2.1 pc = .ok (.dload i, 2)) (hl : L[i]? = some (.double v)) (K : AW Z μ d k0 mc ms Q (pc + 2) L (.double v :: S) h k cs ss) : AW Z μ d k0 mc ms Q pc L S h k cs ss :=
  AW.pure (fun h _ => aw_ok_cons aw_okD h) (fun _ _ _ _ _ _ _ _ _ _ _ _ _ _ _ hx hb _ _ hL q => lv_dload hx hb hd (hL.2.2 _ _ hl (fun e => nomatch e)).1 q) K
theorem AW.aload_n {x : Fin 4} {i : Nat} {v : Nat} (hd : decode μ.2.1 pc = .ok (.aload_n x, 1)) (hi : (x : Nat) = i) (hl : L[i]? = some (.ref v)) (K : AW Z μ d k0 mc ms Q (pc + 1) L (.ref v :: S) h k cs ss) : AW Z μ d k0 mc ms Q pc L S h k cs ss :=
  AW.pure (fun h hL => aw_ok_cons (hL _ _ hl (fun e => nomatch e)) h) (fun _ _ _ _ _ _ _ _ _ _ _ _ _ _ _ hx hb _ _ hL q => lv_aload_n hx hb hd hi (hL.2.2 _ _ hl (fun e => nomatch e)).1 q) K
theorem AW.aload {i : Nat} {v : Nat} (hd : decode μ.2.1 pc = .ok (.aload i, 2)) (hl : L[i]? = some (.ref v)) (K : AW Z μ d k0 mc ms Q (pc + 2) L (.ref v :: S) h k cs ss) : AW Z μ d k0 mc ms Q pc L S h k cs ss :=
  AW.pure (fun h hL => aw_ok_cons (hL _ _ hl (fun e => nomatch e)) h) (fun _ _ _ _ _ _ _ _ _ _ _ _ _ _ _ hx hb _ _ hL q => lv_aload hx hb hd (hL.2.2 _ _ hl (fun e => nomatch e)).1 q) K
theorem AW.iadd {x y : Int32} (hd : decode μ.2.1 pc = .ok (.iadd, 1)) (K : AW Z μ d k0 mc ms Q (pc + 1) L (.int (x + y) :: S) h k cs ss) : AW Z μ d k0 mc ms Q pc L (.int y :: .int x :: S) h k cs ss :=
  AW.pure (fun h _ => aw_ok_cons aw_okI (aw_ok_tail (aw_ok_tail h))) (fun _ _ _ _ _ _ _ _ _ _ _ _ _ _ _ hx hb _ _ _ q => lv_iadd hx hb hd q) K
theorem AW.isub {x y : Int32} (hd : decode μ.2.1 pc = .ok (.isub, 1)) (K : AW Z μ d k0 mc ms Q (pc + 1) L (.int (x - y) :: S) h k cs ss) : AW Z μ d k0 mc ms Q pc L (.int y :: .int x :: S) h k cs ss :=
  AW.pure (fun h _ => aw_ok_cons aw_okI (aw_ok_tail (aw_ok_tail h))) (fun _ _ _ _ _ _ _ _ _ _ _ _ _ _ _ hx hb _ _ _ q => lv_isub hx hb hd q) K
theorem AW.imul {x y : Int32} (hd : decode μ.2.1 pc = .ok (.imul, 1)) (K : AW Z μ d k0 mc ms Q (pc + 1) L (.int (x * y) :: S) h k cs ss) : AW Z μ d k0 mc ms Q pc L (.int y :: .int x :: S) h k cs ss :=
  AW.pure (fun h _ => aw_ok_cons aw_okI (aw_ok_tail (aw_ok_tail h))) (fun _ _ _ _ _ _ _ _ _ _ _ _ _ _ _ hx hb _ _ _ q => lv_imul hx hb hd q) K
theorem AW.iand {x y : Int32} (hd : decode μ.2.1 pc = .ok (.iand, 1)) (K : AW Z μ d k0 mc ms Q (pc + 1) L (.int (x &&& y) :: S) h k cs ss) : AW Z μ d k0 mc ms Q pc L (.int y :: .int x :: S) h k cs ss :=
  AW.pure (fun h _ => aw_ok_cons aw_okI (aw_ok_tail (aw_ok_tail h))) (fun _ _ _ _ _ _ _ _ _ _ _ _ _ _ _ hx hb _ _ _ q => lv_iand hx hb hd q) K
theorem AW.ior {x y : Int32} (hd : decode μ.2.1 pc = .ok (.ior, 1)) (K : AW Z μ d k0 mc ms Q (pc + 1) L (.int (x ||| y) :: S) h k cs ss) : AW Z μ d k0 mc ms Q pc L (.int y :: .int x :: S) h k cs ss :=
  AW.pure (fun h _ => aw_ok_cons aw_okI (aw_ok_tail (aw_ok_tail h))) (fun _ _ _ _ _ _ _ _ _ _ _ _ _ _ _ hx hb _ _ _ q => lv_ior hx hb hd q) K
theorem AW.ishl {x y : Int32} (hd : decode μ.2.1 pc = .ok (.ishl, 1)) (K : AW Z μ d k0 mc ms Q (pc + 1) L (.int (x <<< (y &&& 31)) :: S) h k cs ss) : AW Z μ d k0 mc ms Q pc L (.int y :: .int x :: S) h k cs ss :=
  AW.pure (fun h _ => aw_ok_cons aw_okI (aw_ok_tail (aw_ok_tail h))) (fun _ _ _ _ _ _ _ _ _ _ _ _ _ _ _ hx hb _ _ _ q => lv_ishl hx hb hd q) K
theorem AW.iushr {x y : Int32} (hd : decode μ.2.1 pc = .ok (.iushr, 1)) (K : AW Z μ d k0 mc ms Q (pc + 1) L (.int ((x.toUInt32 >>> (y.toUInt32 &&& Int32.toUInt32 31)).toInt32) :: S) h k cs ss) : AW Z μ d k0 mc ms Q pc L (.int y :: .int x :: S) h k cs ss :=
  AW.pure (fun h _ => aw_ok_cons aw_okI (aw_ok_tail (aw_ok_tail h))) (fun _ _ _ _ _ _ _ _ _ _ _ _ _ _ _ hx hb _ _ _ q => lv_iushr hx hb hd rfl q) K
theorem AW.ladd {x y : Int64} (hd : decode μ.2.1 pc = .ok (.ladd, 1)) (K : AW Z μ d k0 mc ms Q (pc + 1) L (.long (x + y) :: S) h k cs ss) : AW Z μ d k0 mc ms Q pc L (.long y :: .long x :: S) h k cs ss :=
  AW.pure (fun h _ => aw_ok_cons aw_okJ (aw_ok_tail (aw_ok_tail h))) (fun _ _ _ _ _ _ _ _ _ _ _ _ _ _ _ hx hb _ _ _ q => lv_ladd hx hb hd q) K
theorem AW.lmul {x y : Int64} (hd : decode μ.2.1 pc = .ok (.lmul, 1)) (K : AW Z μ d k0 mc ms Q (pc + 1) L (.long (x * y) :: S) h k cs ss) : AW Z μ d k0 mc ms Q pc L (.long y :: .long x :: S) h k cs ss :=
  AW.pure (fun h _ => aw_ok_cons aw_okJ (aw_ok_tail (aw_ok_tail h))) (fun _ _ _ _ _ _ _ _ _ _ _ _ _ _ _ hx hb _ _ _ q => lv_lmul hx hb hd q) K
theorem AW.i2l {x : Int32} (hd : decode μ.2.1 pc = .ok (.i2l, 1)) (K : AW Z μ d k0 mc ms Q (pc + 1) L (.long x.toInt64 :: S) h k cs ss) : AW Z μ d k0 mc ms Q pc L (.int x :: S) h k cs ss :=
  AW.pure (fun h _ => aw_ok_cons aw_okJ (aw_ok_tail h)) (fun _ _ _ _ _ _ _ _ _ _ _ _ _ _ _ hx hb _ _ _ q => lv_i2l hx hb hd rfl q) K
theorem AW.lcmp {x y : Int64} (hd : decode μ.2.1 pc = .ok (.lcmp, 1)) (K : AW Z μ d k0 mc ms Q (pc + 1) L (.int (lg_cmp x y) :: S) h k cs ss) : AW Z μ d k0 mc ms Q pc L (.long y :: .long x :: S) h k cs ss :=
  AW.pure (fun h _ => aw_ok_cons aw_okI (aw_ok_tail (aw_ok_tail h))) (fun _ _ _ _ _ _ _ _ _ _ _ _ _ _ _ hx hb _ _ _ q => W.lcmp hx hb hd q) K
theorem AW.dup {v : Value} (hd : decode μ.2.1 pc = .ok (.dup, 1)) (hc : v.category = 1) (K : AW Z μ d k0 mc ms Q (pc + 1) L (v :: v :: S) h k cs ss) : AW Z μ d k0 mc ms Q pc L (v :: S) h k cs ss :=
  AW.pure (fun h _ => aw_ok_cons (h v List.mem_cons_self) h) (fun _ _ _ _ _ _ _ _ _ _ _ _ _ _ ad hx hb _ _ _ q => lv_dup hx hb hd (by rw [aw_cat]; exact hc) q) K
theorem AW.pop {v : Value} (hd : decode μ.2.1 pc = .ok (.pop, 1)) (hc : v.category = 1) (K : AW Z μ d k0 mc ms Q (pc + 1) L S h k cs ss) : AW Z μ d k0 mc ms Q pc L (v :: S) h k cs ss :=
  AW.pure (fun h _ => aw_ok_tail h) (fun _ _ _ _ _ _ _ _ _ _ _ _ _ _ ad hx hb _ _ _ q => lv_pop hx hb hd (by rw [aw_cat]; exact hc) q) K
theorem AW.dup_x1 {v w : Value} (hd : decode μ.2.1 pc = .ok (.dup_x1, 1)) (hc : v.category = 1) (hc2 : w.category = 1) (K : AW Z μ d k0 mc ms Q (pc + 1) L (v :: w :: v :: S) h k cs ss) : AW Z μ d k0 mc ms Q pc L (v :: w :: S) h k cs ss :=
  AW.pure (fun h _ => aw_ok_cons (h v List.mem_cons_self) (aw_ok_cons (h w (List.mem_cons_of_mem _ List.mem_cons_self)) (aw_ok_cons (h v List.mem_cons_self) (aw_ok_tail (aw_ok_tail h))))) (fun _ _ _ _ _ _ _ _ _ _ _ _ _ _ ad hx hb _ _ _ q => lv_dup_x1 hx hb hd (by rw [aw_cat]; exact hc) (by rw [aw_cat]; exact hc2) q) K
theorem AW.dup_x2 {v w x : Value} (hd : decode μ.2.1 pc = .ok (.dup_x2, 1)) (hc : v.category = 1) (hc2 : w.category = 1) (hc3 : x.category = 1) (K : AW Z μ d k0 mc ms Q (pc + 1) L (v :: w :: x :: v :: S) h k cs ss) : AW Z μ d k0 mc ms Q pc L (v :: w :: x :: S) h k cs ss :=
  AW.pure (fun h _ => aw_ok_cons (h v List.mem_cons_self) (aw_ok_cons (h w (List.mem_cons_of_mem _ List.mem_cons_self)) (aw_ok_cons (h x (List.mem_cons_of_mem _ (List.mem_cons_of_mem _ List.mem_cons_self))) (aw_ok_cons (h v List.mem_cons_self) (aw_ok_tail (aw_ok_tail (aw_ok_tail h))))))) (fun _ _ _ _ _ _ _ _ _ _ _ _ _ _ ad hx hb _ _ _ q => lv_dup_x2 hx hb hd (by rw [aw_cat]; exact hc) (by rw [aw_cat]; exact hc2) (by rw [aw_cat]; exact hc3) q) K
theorem AW.dup2 {v w : Value} (hd : decode μ.2.1 pc = .ok (.dup2, 1)) (hc : v.category = 1) (hc2 : w.category = 1) (K : AW Z μ d k0 mc ms Q (pc + 1) L (v :: w :: v :: w :: S) h k cs ss) : AW Z μ d k0 mc ms Q pc L (v :: w :: S) h k cs ss :=
  AW.pure (fun h _ => aw_ok_cons (h v List.mem_cons_self) (aw_ok_cons (h w (List.mem_cons_of_mem _ List.mem_cons_self)) h)) (fun _ _ _ _ _ _ _ _ _ _ _ _ _ _ ad hx hb _ _ _ q => lv_dup2_11 hx hb hd (by rw [aw_cat]; exact hc) (by rw [aw_cat]; exact hc2) q) K
theorem AW.goto {off : Int} {tgt : Nat} (hd : decode μ.2.1 pc = .ok (.goto off, 3)) (ht : (pc : Int) + off = (tgt : Int)) (K : AW Z μ d k0 mc ms Q tgt L S h k cs ss) : AW Z μ d k0 mc ms Q pc L S h k cs ss :=
  AW.pure (fun h _ => h) (fun _ _ _ _ _ _ _ _ _ _ _ _ _ _ ad hx hb _ _ _ q => lv_goto hx hb hd ht q) K
end Rows
end
section
/-! AW: branches, switches, stores, heap, ends -/
section Rows2
variable {Z : Gz} {μ : Mt} {d k0 mc ms : Nat} {Q : Po} {pc : Nat} {L S : List Value} {h : Hp} {k cs ss : Nat}
theorem AW.if_eq {x : Int32} {off : Int} {tgt : Nat} (hd : decode μ.2.1 pc = .ok (.ifCond .eq off, 3)) (ht : (pc : Int) + off = (tgt : Int)) (kt : x = 0 → AW Z μ d k0 mc ms Q tgt L S h k cs ss) (kf : ¬ x = 0 → AW Z μ d k0 mc ms Q (pc + 3) L S h k cs ss) : AW Z μ d k0 mc ms Q pc L (.int x :: S) h k cs ss := by
  intro l D cT p e s m args below meth c ad0 ad A H locs ls hC ha hk hS hw hl hs
  exact lv_if_eq hC.2.1 hC.2.2.1 hd ht (fun q => kt q l D cT p e s m args below meth c ad0 ad A H locs ls hC ha hk hS hw hl (aw_ok_tail hs)) (fun q => kf q l D cT p e s m args below meth c ad0 ad A H locs ls hC ha hk hS hw hl (aw_ok_tail hs))
theorem AW.icmp_eq {x y : Int32} {off : Int} {tgt : Nat} (hd : decode μ.2.1 pc = .ok (.if_icmp .eq off, 3)) (ht : (pc : Int) + off = (tgt : Int)) (kt : x = y → AW Z μ d k0 mc ms Q tgt L S h k cs ss) (kf : ¬ x = y → AW Z μ d k0 mc ms Q (pc + 3) L S h k cs ss) : AW Z μ d k0 mc ms Q pc L (.int y :: .int x :: S) h k cs ss := by
  intro l D cT p e s m args below meth c ad0 ad A H locs ls hC ha hk hS hw hl hs
  exact lv_icmp_eq hC.2.1 hC.2.2.1 hd ht (fun q => kt q l D cT p e s m args below meth c ad0 ad A H locs ls hC ha hk hS hw hl (aw_ok_tail (aw_ok_tail hs))) (fun q => kf q l D cT p e s m args below meth c ad0 ad A H locs ls hC ha hk hS hw hl (aw_ok_tail (aw_ok_tail hs)))
theorem AW.if_ne {x : Int32} {off : Int} {tgt : Nat} (hd : decode μ.2.1 pc = .ok (.ifCond .ne off, 3)) (ht : (pc : Int) + off = (tgt : Int)) (kt : ¬ x = 0 → AW Z μ d k0 mc ms Q tgt L S h k cs ss) (kf : x = 0 → AW Z μ d k0 mc ms Q (pc + 3) L S h k cs ss) : AW Z μ d k0 mc ms Q pc L (.int x :: S) h k cs ss := by
  intro l D cT p e s m args below meth c ad0 ad A H locs ls hC ha hk hS hw hl hs
  exact lv_if_ne hC.2.1 hC.2.2.1 hd ht (fun q => kt q l D cT p e s m args below meth c ad0 ad A H locs ls hC ha hk hS hw hl (aw_ok_tail hs)) (fun q => kf q l D cT p e s m args below meth c ad0 ad A H locs ls hC ha hk hS hw hl (aw_ok_tail hs))
theorem AW.icmp_ne {x y : Int32} {off : Int} {tgt : Nat} (hd : decode μ.2.1 pc = .ok (.if_icmp .ne off, 3)) (ht : (pc : Int) + off = (tgt : Int)) (kt : ¬ x = y → AW Z μ d k0 mc ms Q tgt L S h k cs ss) (kf : x = y → AW Z μ d k0 mc ms Q (pc + 3) L S h k cs ss) : AW Z μ d k0 mc ms Q pc L (.int y :: .int x :: S) h k cs ss := by
  intro l D cT p e s m args below meth c ad0 ad A H locs ls hC ha hk hS hw hl hs
  exact lv_icmp_ne hC.2.1 hC.2.2.1 hd ht (fun q => kt q l D cT p e s m args below meth c ad0 ad A H locs ls hC ha hk hS hw hl (aw_ok_tail (aw_ok_tail hs))) (fun q => kf q l D cT p e s m args below meth c ad0 ad A H locs ls hC ha hk hS hw hl (aw_ok_tail (aw_ok_tail hs)))
theorem AW.if_lt {x : Int32} {off : Int} {tgt : Nat} (hd : decode μ.2.1 pc = .ok (.ifCond .lt off, 3)) (ht : (pc : Int) + off = (tgt : Int)) (kt : x < 0 → AW Z μ d k0 mc ms Q tgt L S h k cs ss) (kf : ¬ x < 0 → AW Z μ d k0 mc ms Q (pc + 3) L S h k cs ss) : AW Z μ d k0 mc ms Q pc L (.int x :: S) h k cs ss := by
  intro l D cT p e s m args below meth c ad0 ad A H locs ls hC ha hk hS hw hl hs
  exact lv_if_lt hC.2.1 hC.2.2.1 hd ht (fun q => kt q l D cT p e s m args below meth c ad0 ad A H locs ls hC ha hk hS hw hl (aw_ok_tail hs)) (fun q => kf q l D cT p e s m args below meth c ad0 ad A H locs ls hC ha hk hS hw hl (aw_ok_tail hs))
theorem AW.icmp_lt {x y : Int32} {off : Int} {tgt : Nat} (hd : decode μ.2.1 pc = .ok (.if_icmp .lt off, 3)) (ht : (pc : Int) + off = (tgt : Int)) (kt : x < y → AW Z μ d k0 mc ms Q tgt L S h k cs ss) (kf : ¬ x < y → AW Z μ d k0 mc ms Q (pc + 3) L S h k cs ss) : AW Z μ d k0 mc ms Q pc L (.int y :: .int x :: S) h k cs ss := by
  intro l D cT p e s m args below meth c ad0 ad A H locs ls hC ha hk hS hw hl hs
  exact lv_icmp_lt hC.2.1 hC.2.2.1 hd ht (fun q => kt q l D cT p e s m args below meth c ad0 ad A H locs ls hC ha hk hS hw hl (aw_ok_tail (aw_ok_tail hs))) (fun q => kf q l D cT p e s m args below meth c ad0 ad A H locs ls hC ha hk hS hw hl (aw_ok_tail (aw_ok_tail hs)))
theorem AW.if_ge {x : Int32} {off : Int} {tgt : Nat} (hd : decode μ.2.1 pc = .ok (.ifCond .ge off, 3)) (ht : (pc : Int) + off = (tgt : Int)) (kt : 0 ≤ x → AW Z μ d k0 mc ms Q tgt L S h k cs ss) (kf : ¬ 0 ≤ x → AW Z μ d k0 mc ms Q (pc + 3) L S h k cs ss) : AW Z μ d k0 mc ms Q pc L (.int x :: S) h k cs ss := by
  intro l D cT p e s m args below meth c ad0 ad A H locs ls hC ha hk hS hw hl hs
  exact lv_if_ge hC.2.1 hC.2.2.1 hd ht (fun q => kt q l D cT p e s m args below meth c ad0 ad A H locs ls hC ha hk hS hw hl (aw_ok_tail hs)) (fun q => kf q l D cT p e s m args below meth c ad0 ad A H locs ls hC ha hk hS hw hl (aw_ok_tail hs))
theorem AW.icmp_ge {x y : Int32} {off : Int} {tgt : Nat} (hd : decode μ.2.1 pc = .ok (.if_icmp .ge off, 3)) (ht : (pc : Int) + off = (tgt : Int)) (kt : y ≤ x → AW Z μ d k0 mc ms Q tgt L S h k cs ss) (kf : ¬ y ≤ x → AW Z μ d k0 mc ms Q (pc + 3) L S h k cs ss) : AW Z μ d k0 mc ms Q pc L (.int y :: .int x :: S) h k cs ss := by
  intro l D cT p e s m args below meth c ad0 ad A H locs ls hC ha hk hS hw hl hs
  exact lv_icmp_ge hC.2.1 hC.2.2.1 hd ht (fun q => kt q l D cT p e s m args below meth c ad0 ad A H locs ls hC ha hk hS hw hl (aw_ok_tail (aw_ok_tail hs))) (fun q => kf q l D cT p e s m args below meth c ad0 ad A H locs ls hC ha hk hS hw hl (aw_ok_tail (aw_ok_tail hs)))
theorem AW.if_gt {x : Int32} {off : Int} {tgt : Nat} (hd : decode μ.2.1 pc = .ok (.ifCond .gt off, 3)) (ht : (pc : Int) + off = (tgt : Int)) (kt : 0 < x → AW Z μ d k0 mc ms Q tgt L S h k cs ss) (kf : ¬ 0 < x → AW Z μ d k0 mc ms Q (pc + 3) L S h k cs ss) : AW Z μ d k0 mc ms Q pc L (.int x :: S) h k cs ss := by
  intro l D cT p e s m args below meth c ad0 ad A H locs ls hC ha hk hS hw hl hs
  exact lv_if_gt hC.2.1 hC.2.2.1 hd ht (fun q => kt q l D cT p e s m args below meth c ad0 ad A H locs ls hC ha hk hS hw hl (aw_ok_tail hs)) (fun q => kf q l D cT p e s m args below meth c ad0 ad A H locs ls hC ha hk hS hw hl (aw_ok_tail hs))
theorem AW.icmp_gt {x y : Int32} {off : Int} {tgt : Nat} (hd : decode μ.2.1 pc = .ok (.if_icmp .gt off, 3)) (ht : (pc : Int) + off = (tgt : Int)) (kt : y < x → AW Z μ d k0 mc ms Q tgt L S h k cs ss) (kf : ¬ y < x → AW Z μ d k0 mc ms Q (pc + 3) L S h k cs ss) : AW Z μ d k0 mc ms Q pc L (.int y :: .int x :: S) h k cs ss := by
  intro l D cT p e s m args below meth c ad0 ad A H locs ls hC ha hk hS hw hl hs
  exact lv_icmp_gt hC.2.1 hC.2.2.1 hd ht (fun q => kt q l D cT p e s m args below meth c ad0 ad A H locs ls hC ha hk hS hw hl (aw_ok_tail (aw_ok_tail hs))) (fun q => kf q l D cT p e s m args below meth c ad0 ad A H locs ls hC ha hk hS hw hl (aw_ok_tail (aw_ok_tail hs)))
theorem AW.if_le {x : Int32} {off : Int} {tgt : Nat} (hd : decode μ.2.1 pc = .ok (.ifCond .le off, 3)) (ht : (pc : Int) + off = (tgt : Int)) (kt : x ≤ 0 → AW Z μ d k0 mc ms Q tgt L S h k cs ss) (kf : ¬ x ≤ 0 → AW Z μ d k0 mc ms Q (pc + 3) L S h k cs ss) : AW Z μ d k0 mc ms Q pc L (.int x :: S) h k cs ss := by
  intro l D cT p e s m args below meth c ad0 ad A H locs ls hC ha hk hS hw hl hs
  exact lv_if_le hC.2.1 hC.2.2.1 hd ht (fun q => kt q l D cT p e s m args below meth c ad0 ad A H locs ls hC ha hk hS hw hl (aw_ok_tail hs)) (fun q => kf q l D cT p e s m args below meth c ad0 ad A H locs ls hC ha hk hS hw hl (aw_ok_tail hs))
theorem AW.icmp_le {x y : Int32} {off : Int} {tgt : Nat} (hd : decode μ.2.1 pc = .ok (.if_icmp .le off, 3)) (ht : (pc : Int) + off = (tgt : Int)) (kt : x ≤ y → AW Z μ d k0 mc ms Q tgt L S h k cs ss) (kf : ¬ x ≤ y → AW Z μ d k0 mc ms Q (pc + 3) L S h k cs ss) : AW Z μ d k0 mc ms Q pc L (.int y :: .int x :: S) h k cs ss := by
  intro l D cT p e s m args below meth c ad0 ad A H locs ls hC ha hk hS hw hl hs
  exact lv_icmp_le hC.2.1 hC.2.2.1 hd ht (fun q => kt q l D cT p e s m args below meth c ad0 ad A H locs ls hC ha hk hS hw hl (aw_ok_tail (aw_ok_tail hs))) (fun q => kf q l D cT p e s m args below meth c ad0 ad A H locs ls hC ha hk hS hw hl (aw_ok_tail (aw_ok_tail hs)))
theorem AW.tableIn {dflt lo hi : Int} {offs : Array Int} {len : Nat} {x : Int32} {off : Int} {tgt : Nat} (hd : decode μ.2.1 pc = .ok (.tableswitch dflt lo hi offs, len)) (h1 : ¬ x.toInt < lo) (h2 : ¬ hi < x.toInt) (ho : offs[(x.toInt - lo).toNat]? = some off) (ht : (pc : Int) + off = (tgt : Int)) (K : AW Z μ d k0 mc ms Q tgt L S h k cs ss) : AW Z μ d k0 mc ms Q pc L (.int x :: S) h k cs ss :=
  AW.pure (fun h _ => aw_ok_tail h) (fun _ _ _ _ _ _ _ _ _ _ _ _ _ _ ad hx hb _ _ _ q => lv_tableIn hx hb hd h1 h2 ho ht q) K
theorem AW.tableOut {dflt lo hi : Int} {offs : Array Int} {len : Nat} {x : Int32} {tgt : Nat} (hd : decode μ.2.1 pc = .ok (.tableswitch dflt lo hi offs, len)) (h1 : x.toInt < lo ∨ hi < x.toInt) (ht : (pc : Int) + dflt = (tgt : Int)) (K : AW Z μ d k0 mc ms Q tgt L S h k cs ss) : AW Z μ d k0 mc ms Q pc L (.int x :: S) h k cs ss :=
  AW.pure (fun h _ => aw_ok_tail h) (fun _ _ _ _ _ _ _ _ _ _ _ _ _ _ ad hx hb _ _ _ q => lv_tableOut hx hb hd h1 ht q) K
theorem AW.ldc {index : Nat} {v : Int32} (hd : decode μ.2.1 pc = .ok (.ldc index, 2)) (hc : Cond.constant μ.1.cls index v ∈ lw_tbl) (K : AW Z μ d k0 mc ms Q (pc + 2) L (.int v :: S) h k cs ss) : AW Z μ d k0 mc ms Q pc L S h k cs ss :=
  AW.pure (fun h _ => aw_ok_cons aw_okI h) (fun _ _ _ _ _ _ _ _ _ _ _ _ _ _ ad hx hb ho ht _ q => lv_ldc hx hb ho (ht _ hc rfl) hd q) K
theorem AW.ldc2 {index : Nat} {v : Int64} (hd : decode μ.2.1 pc = .ok (.ldc2_w index, 3)) (hc : Cond.constantLong μ.1.cls index v ∈ lw_tbl) (K : AW Z μ d k0 mc ms Q (pc + 3) L (.long v :: S) h k cs ss) : AW Z μ d k0 mc ms Q pc L S h k cs ss :=
  AW.pure (fun h _ => aw_ok_cons aw_okJ h) (fun _ _ _ _ _ _ _ _ _ _ _ _ _ _ ad hx hb ho ht _ q => lv_ldc2 hx hb ho (ht _ hc rfl) hd q) K
theorem AW.i2d {x : Int32} (hd : decode μ.2.1 pc = .ok (.i2d, 1)) (K : AW Z μ d k0 mc ms Q (pc + 1) L (.double (FP.i2d x) :: S) h k cs ss) : AW Z μ d k0 mc ms Q pc L (.int x :: S) h k cs ss :=
  AW.pure (fun h _ => aw_ok_cons aw_okD (aw_ok_tail h)) (fun _ _ _ _ _ _ _ _ _ _ _ _ _ _ _ hx hb _ _ _ q => lv_i2d hx hb hd q) K
theorem AW.ddiv {x y : UInt64} (hd : decode μ.2.1 pc = .ok (.ddiv, 1)) (hn : vf_n64 (FP.ddiv x y)) (K : AW Z μ d k0 mc ms Q (pc + 1) L (.double (FP.ddiv x y) :: S) h k cs ss) : AW Z μ d k0 mc ms Q pc L (.double y :: .double x :: S) h k cs ss :=
  AW.pure (fun h _ => aw_ok_cons aw_okD (aw_ok_tail (aw_ok_tail h))) (fun _ _ _ _ _ _ _ _ _ _ _ _ _ _ _ hx hb _ _ _ q => lv_ddiv hx hb hd hn q) K
theorem AW.dconst0 (hd : decode μ.2.1 pc = .ok (.dconst 0, 1)) (K : AW Z μ d k0 mc ms Q (pc + 1) L (.double FP.dconst0 :: S) h k cs ss) : AW Z μ d k0 mc ms Q pc L S h k cs ss :=
  AW.pure (fun h _ => aw_ok_cons aw_okD h) (fun _ _ _ _ _ _ _ _ _ _ _ _ _ _ _ hx hb _ _ _ q => lv_dconst0 hx hb hd q) K
theorem AW.dcmp {x y : UInt64} {op : CmpOp} (hd : decode μ.2.1 pc = .ok (.dcmp op, 1)) (K : AW Z μ d k0 mc ms Q (pc + 1) L (.int (Op.cmpValue (FP.dcmp x y) op) :: S) h k cs ss) : AW Z μ d k0 mc ms Q pc L (.double y :: .double x :: S) h k cs ss :=
  AW.pure (fun h _ => aw_ok_cons aw_okI (aw_ok_tail (aw_ok_tail h))) (fun _ _ _ _ _ _ _ _ _ _ _ _ _ _ _ hx hb _ _ _ q => lv_dcmp hx hb hd q) K
/-! stores into the locals -/
def aw_set (L : List Value) (i : Nat) (v : Value) : List Value := L.set i v
/-- no long or double begins right below i -/
def aw_low (L : List Value) (i : Nat) : Bool := match i with
  | 0 => true
  | j + 1 => match L[j]? with
    | some w => w.category == 1
    | none => true
def aw_pairs (ad : Nat → Nat) (L : List Value) : List (Nat × Value) := (List.range L.length).filterMap fun i => match (L[i]? : Option Value) with
  | some Value.null => none
  | some v => some (i, aw_cv ad v)
  | none => none
theorem aw_pairs_in {ad : Nat → Nat} {L : List Value} {i : Nat} {v : Value} (hi : L[i]? = some v) (hv : v ≠ .null) : (i, aw_cv ad v) ∈ aw_pairs ad L := by
  refine List.mem_filterMap.mpr ⟨i, List.mem_range.mpr (List.getElem?_eq_some_iff.mp hi).1, ?_⟩
  rw [hi]
  cases v <;> first | exact absurd rfl hv | rfl
theorem aw_Lv.has {nL : Nat} {ad : Nat → Nat} {k : Nat} {ls : Array Slot} {L : List Value} (h : aw_Lv nL ad k ls L) : lv_has ls nL (aw_pairs ad L) := by
  refine ⟨h.1, h.2.1, fun q hq => ?_⟩
  obtain ⟨i, -, hi⟩ := List.mem_filterMap.mp hq
  cases hL : L[i]? with
  | none => rw [hL] at hi; cases hi
  | some v =>
    rw [hL] at hi
    have hv : v ≠ .null := by intro e; rw [e] at hi; cases hi
    have he : q = (i, aw_cv ad v) := by cases v <;> first | exact absurd rfl hv | exact (Option.some.inj hi).symm
    rw [he]
    exact (h.2.2 i v hL hv).1
theorem aw_store1 {nL : Nat} {ad : Nat → Nat} {k : Nat} {ls ls' : Array Slot} {L L' : List Value} {i : Nat} {v : Value} (h : aw_Lv nL ad k ls L) (hok : aw_ok k v) (hlow : aw_low L i = true) (hL : L.set i v = L')
    (h' : lv_has ls' nL ((i, aw_cv ad v) :: (aw_pairs ad L).filter (fun q => !(q.1 == i) && !(q.1 + 1 == i && q.2.category == 2)))) : aw_Lv nL ad k ls' L' := by
  subst hL
  refine ⟨h'.1, h'.2.1, fun j w hj hw => ?_⟩
  by_cases hji : j = i
  · subst hji
    rw [List.getElem?_set_self (by
      have := (List.getElem?_eq_some_iff.mp hj).1
      rwa [List.length_set] at this)] at hj
    cases hj
    exact ⟨h'.2.2 _ List.mem_cons_self, hok⟩
  · rw [List.getElem?_set_ne (Ne.symm hji)] at hj
    refine ⟨h'.2.2 (j, aw_cv ad w) (List.mem_cons_of_mem _ (List.mem_filter.mpr ⟨aw_pairs_in hj hw, ?_⟩)), (h.2.2 j w hj hw).2⟩
    have e1 : (j == i) = false := by simp [hji]
    have e2 : (j + 1 == i && (aw_cv ad w).category == 2) = false := by
      by_cases e : j + 1 = i
      · subst e
        simp only [aw_low, hj] at hlow
        rw [aw_cat]
        have : w.category = 1 := by simpa using hlow
        simp [this]
      · simp [e]
    simp [e1, e2]
theorem aw_store2 {nL : Nat} {ad : Nat → Nat} {k : Nat} {ls ls' : Array Slot} {L L' : List Value} {i : Nat} {v : Value} (h : aw_Lv nL ad k ls L) (hok : aw_ok k v) (hlow : aw_low L i = true) (hL : (L.set i v).set (i + 1) .null = L')
    (h' : lv_has ls' nL ((i, aw_cv ad v) :: (aw_pairs ad L).filter (fun q => !(q.1 == i) && (!(q.1 == i + 1) && !(q.1 + 1 == i && q.2.category == 2))))) : aw_Lv nL ad k ls' L' := by
  subst hL
  refine ⟨h'.1, h'.2.1, fun j w hj hw => ?_⟩
  by_cases hj2 : j = i + 1
  · subst hj2
    rw [List.getElem?_set_self (by
      have := (List.getElem?_eq_some_iff.mp hj).1
      rwa [List.length_set] at this)] at hj
    cases hj
    exact absurd rfl hw
  · rw [List.getElem?_set_ne (Ne.symm hj2)] at hj
    by_cases hji : j = i
    · subst hji
      rw [List.getElem?_set_self (by
        have := (List.getElem?_eq_some_iff.mp hj).1
        rwa [List.length_set] at this)] at hj
      cases hj
      exact ⟨h'.2.2 _ List.mem_cons_self, hok⟩
    · rw [List.getElem?_set_ne (Ne.symm hji)] at hj
      refine ⟨h'.2.2 (j, aw_cv ad w) (List.mem_cons_of_mem _ (List.mem_filter.mpr ⟨aw_pairs_in hj hw, ?_⟩)), (h.2.2 j w hj hw).2⟩
      have e1 : (j == i) = false := by simp [hji]
      have e3 : (j == i + 1) = false := by simp [hj2]
      have e2 : (j + 1 == i && (aw_cv ad w).category == 2) = false := by
        by_cases e : j + 1 = i
        · subst e
          simp only [aw_low, hj] at hlow
          rw [aw_cat]
          have : w.category = 1 := by simpa using hlow
          simp [this]
        · simp [e]
      simp [e1, e2, e3]

theorem AW.istore_n {x : Fin 4} {i : Nat} {v : Int32} {L' : List Value} (hd : decode μ.2.1 pc = .ok (.istore_n x, 1)) (hi : (x : Nat) = i) (hn : i < μ.2.2.1) (hlow : aw_low L i = true) (hL : L.set i (.int v) = L') (K : AW Z μ d k0 mc ms Q (pc + 1) L' S h k cs ss) : AW Z μ d k0 mc ms Q pc L (.int v :: S) h k cs ss := by
  intro l D cT p e s m args below meth c ad0 ad A H locs ls hC ha hk hS hw hl hs
  refine lv_istore_n (nL := μ.2.2.1) (lv := aw_pairs ad L) hC.2.1 hC.2.2.1 hd hi hl.has hn rfl (fun ls' h' => ?_)
  exact K l D cT p e s m args below meth c ad0 ad A H locs ls' hC ha hk hS hw (aw_store1 hl (aw_okI) hlow hL h') (aw_ok_tail hs)
theorem AW.istore {i : Nat} {v : Int32} {L' : List Value} (hd : decode μ.2.1 pc = .ok (.istore i, 2)) (hn : i < μ.2.2.1) (hlow : aw_low L i = true) (hL : L.set i (.int v) = L') (K : AW Z μ d k0 mc ms Q (pc + 2) L' S h k cs ss) : AW Z μ d k0 mc ms Q pc L (.int v :: S) h k cs ss := by
  intro l D cT p e s m args below meth c ad0 ad A H locs ls hC ha hk hS hw hl hs
  refine lv_istore (nL := μ.2.2.1) (lv := aw_pairs ad L) hC.2.1 hC.2.2.1 hd hl.has hn rfl (fun ls' h' => ?_)
  exact K l D cT p e s m args below meth c ad0 ad A H locs ls' hC ha hk hS hw (aw_store1 hl (aw_okI) hlow hL h') (aw_ok_tail hs)
theorem AW.astore_n {x : Fin 4} {i : Nat} {v : Nat} {L' : List Value} (hd : decode μ.2.1 pc = .ok (.astore_n x, 1)) (hi : (x : Nat) = i) (hn : i < μ.2.2.1) (hlow : aw_low L i = true) (hL : L.set i (.ref v) = L') (K : AW Z μ d k0 mc ms Q (pc + 1) L' S h k cs ss) : AW Z μ d k0 mc ms Q pc L (.ref v :: S) h k cs ss := by
  intro l D cT p e s m args below meth c ad0 ad A H locs ls hC ha hk hS hw hl hs
  refine lv_astore_n (nL := μ.2.2.1) (lv := aw_pairs ad L) hC.2.1 hC.2.2.1 hd hi hl.has hn rfl (fun ls' h' => ?_)
  exact K l D cT p e s m args below meth c ad0 ad A H locs ls' hC ha hk hS hw (aw_store1 hl (hs _ List.mem_cons_self) hlow hL h') (aw_ok_tail hs)
theorem AW.astore {i : Nat} {v : Nat} {L' : List Value} (hd : decode μ.2.1 pc = .ok (.astore i, 2)) (hn : i < μ.2.2.1) (hlow : aw_low L i = true) (hL : L.set i (.ref v) = L') (K : AW Z μ d k0 mc ms Q (pc + 2) L' S h k cs ss) : AW Z μ d k0 mc ms Q pc L (.ref v :: S) h k cs ss := by
  intro l D cT p e s m args below meth c ad0 ad A H locs ls hC ha hk hS hw hl hs
  refine lv_astore (nL := μ.2.2.1) (lv := aw_pairs ad L) hC.2.1 hC.2.2.1 hd hl.has hn rfl (fun ls' h' => ?_)
  exact K l D cT p e s m args below meth c ad0 ad A H locs ls' hC ha hk hS hw (aw_store1 hl (hs _ List.mem_cons_self) hlow hL h') (aw_ok_tail hs)
theorem AW.lstore_n {x : Fin 4} {i : Nat} {v : Int64} {L' : List Value} (hd : decode μ.2.1 pc = .ok (.lstore_n x, 1)) (hi : (x : Nat) = i) (hn : i + 1 < μ.2.2.1) (hlow : aw_low L i = true) (hL : (L.set i (.long v)).set (i + 1) .null = L') (K : AW Z μ d k0 mc ms Q (pc + 1) L' S h k cs ss) : AW Z μ d k0 mc ms Q pc L (.long v :: S) h k cs ss := by
  intro l D cT p e s m args below meth c ad0 ad A H locs ls hC ha hk hS hw hl hs
  refine lv_lstore_n (nL := μ.2.2.1) (lv := aw_pairs ad L) hC.2.1 hC.2.2.1 hd hi hl.has hn rfl (fun ls' h' => ?_)
  exact K l D cT p e s m args below meth c ad0 ad A H locs ls' hC ha hk hS hw (aw_store2 hl (aw_okJ) hlow hL h') (aw_ok_tail hs)
theorem AW.dstore {i : Nat} {v : UInt64} {L' : List Value} (hd : decode μ.2.1 pc = .ok (.dstore i, 2)) (hn : i + 1 < μ.2.2.1) (hlow : aw_low L i = true) (hL : (L.set i (.double v)).set (i + 1) .null = L') (K : AW Z μ d k0 mc ms Q (pc + 2) L' S h k cs ss) : AW Z μ d k0 mc ms Q pc L (.double v :: S) h k cs ss := by
  intro l D cT p e s m args below meth c ad0 ad A H locs ls hC ha hk hS hw hl hs
  refine lv_dstore (nL := μ.2.2.1) (lv := aw_pairs ad L) hC.2.1 hC.2.2.1 hd hl.has hn rfl (fun ls' h' => ?_)
  exact K l D cT p e s m args below meth c ad0 ad A H locs ls' hC ha hk hS hw (aw_store2 hl (aw_okD) hlow hL h') (aw_ok_tail hs)
theorem AW.iinc {i : Nat} {n : Int} {x v : Int32} {L' : List Value} (hd : decode μ.2.1 pc = .ok (.iinc i n, 3)) (hx : L[i]? = some (.int x)) (hv : x + Int32.ofInt n = v) (hn : i < μ.2.2.1) (hlow : aw_low L i = true) (hL : L.set i (.int v) = L') (K : AW Z μ d k0 mc ms Q (pc + 3) L' S h k cs ss) : AW Z μ d k0 mc ms Q pc L S h k cs ss := by
  intro l D cT p e s m args below meth c ad0 ad A H locs ls hC ha hk hS hw hl hs
  obtain ⟨j, hj⟩ := List.getElem?_of_mem (aw_pairs_in (ad := ad) hx (fun e => nomatch e))
  refine lv_iinc (nL := μ.2.2.1) (lv := aw_pairs ad L) hC.2.1 hC.2.2.1 hd hl.has (k := j) hj hv hn rfl (fun ls' h' => ?_)
  exact K l D cT p e s m args below meth c ad0 ad A H locs ls' hC ha hk hS hw (aw_store1 hl aw_okI hlow hL h') hs
/-! ends -/
theorem AW.iret {v : Int32} {ty : FieldType} (hd : decode μ.2.1 pc = .ok (.ireturn, 1)) (hr : μ.2.2.2.1 = some ty) (hn : narrow ty (.int v) = .int v) (hc : cs ≤ mc) (hs2 : ss ≤ ms) (q : Q (.inl (some (.int v))) h k) : AW Z μ d k0 mc ms Q pc L [.int v] h k cs ss := by
  intro l D cT p e s m args below meth c ad0 ad A H locs ls hC ha hk hS hw hl hs
  obtain ⟨h1, hx, hb, h4, h5, h6, h7, h8, h9, h10, h11, h12⟩ := hC
  refine vx_ret (W.widen hc hs2 (W.zret hx hb (h5.trans hr) hn (fun t ht hW => ⟨⟨some (.int v), h, k, ad, rfl, q, ha, hk, fun w e => by cases e; trivial, ?_⟩, hS.F ht⟩) hS.2.2 hd h6))
  rw [ht]
  exact ⟨hw.1, hw.2.1, hw.2.2.1.moved hW.alike, hw.2.2.2⟩
theorem AW.lret {v : Int64} (hd : decode μ.2.1 pc = .ok (.lreturn, 1)) (hr : μ.2.2.2.1 = some .long) (hc : cs ≤ mc) (hs2 : ss ≤ ms) (q : Q (.inl (some (.long v))) h k) : AW Z μ d k0 mc ms Q pc L [.long v] h k cs ss := by
  intro l D cT p e s m args below meth c ad0 ad A H locs ls hC ha hk hS hw hl hs
  obtain ⟨h1, hx, hb, h4, h5, h6, h7, h8, h9, h10, h11, h12⟩ := hC
  refine vx_ret (W.widen hc hs2 (W.lret hx hb (h5.trans hr) (fun t ht hW => ⟨⟨some (.long v), h, k, ad, rfl, q, ha, hk, fun w e => by cases e; trivial, ?_⟩, hS.F ht⟩) hS.2.2 hd h6))
  rw [ht]
  exact ⟨hw.1, hw.2.1, hw.2.2.1.moved hW.alike, hw.2.2.2⟩
theorem AW.dret {v : UInt64} (hd : decode μ.2.1 pc = .ok (.dreturn, 1)) (hr : μ.2.2.2.1 = some .double) (hc : cs ≤ mc) (hs2 : ss ≤ ms) (q : Q (.inl (some (.double v))) h k) : AW Z μ d k0 mc ms Q pc L [.double v] h k cs ss := by
  intro l D cT p e s m args below meth c ad0 ad A H locs ls hC ha hk hS hw hl hs
  obtain ⟨h1, hx, hb, h4, h5, h6, h7, h8, h9, h10, h11, h12⟩ := hC
  refine vx_ret (W.widen hc hs2 (W.dret hx hb (h5.trans hr) (fun t ht hW => ⟨⟨some (.double v), h, k, ad, rfl, q, ha, hk, fun w e => by cases e; trivial, ?_⟩, hS.F ht⟩) hS.2.2 hd h6))
  rw [ht]
  exact ⟨hw.1, hw.2.1, hw.2.2.1.moved hW.alike, hw.2.2.2⟩
theorem AW.aret {v : Nat} {ty : FieldType} (hd : decode μ.2.1 pc = .ok (.areturn, 1)) (hr : μ.2.2.2.1 = some (.array ty)) (hc : cs ≤ mc) (hs2 : ss ≤ ms) (q : Q (.inl (some (.ref v))) h k) : AW Z μ d k0 mc ms Q pc L [.ref v] h k cs ss := by
  intro l D cT p e s m args below meth c ad0 ad A H locs ls hC ha hk hS hw hl hs
  obtain ⟨h1, hx, hb, h4, h5, h6, h7, h8, h9, h10, h11, h12⟩ := hC
  refine vx_ret (W.widen hc hs2 (W.aret hx hb (h5.trans hr) (Or.inr ⟨_, rfl⟩) (Or.inr ⟨_, rfl⟩) (fun t ht hW => ⟨⟨some (.ref v), h, k, ad, rfl, q, ha, hk, fun w e => by cases e; exact hs _ List.mem_cons_self, ?_⟩, hS.F ht⟩) hS.2.2 hd h6))
  rw [ht]
  exact ⟨hw.1, hw.2.1, hw.2.2.1.moved hW.alike, hw.2.2.2⟩
theorem AW.vret (hd : decode μ.2.1 pc = .ok (.return_, 1)) (hr : μ.2.2.2.1 = none) (hc : cs ≤ mc) (hs2 : ss ≤ ms) (q : Q (.inl none) h k) : AW Z μ d k0 mc ms Q pc L [] h k cs ss := by
  intro l D cT p e s m args below meth c ad0 ad A H locs ls hC ha hk hS hw hl hs
  obtain ⟨h1, hx, hb, h4, h5, h6, h7, h8, h9, h10, h11, h12⟩ := hC
  refine vx_ret (W.widen hc hs2 (W.vret hx hb (h5.trans hr) (fun t ht hW => ⟨⟨none, h, k, ad, rfl, q, ha, hk, (fun w e => nomatch e), ?_⟩, hS.F ht⟩) hS.2.2 hd h6))
  rw [ht]
  exact ⟨hw.1, hw.2.1, hw.2.2.1.moved hW.alike, hw.2.2.2⟩
theorem AW.widen {cs' ss' : Nat} (h1 : cs ≤ cs') (h2 : ss ≤ ss') (K : AW Z μ d k0 mc ms Q pc L S h k cs' ss') : AW Z μ d k0 mc ms Q pc L S h k cs ss := by
  intro l D cT p e s m args below meth c ad0 ad A H locs ls hC ha hk hS hw hl hs
  exact W.widen h1 h2 (K l D cT p e s m args below meth c ad0 ad A H locs ls hC ha hk hS hw hl hs)
/-- fewer locals known -/
theorem AW.locals {L' : List Value} (hL : ∀ (i : Nat) (v : Value), L'[i]? = some v → v ≠ .null → L[i]? = some v) (K : AW Z μ d k0 mc ms Q pc L' S h k cs ss) : AW Z μ d k0 mc ms Q pc L S h k cs ss := by
  intro l D cT p e s m args below meth c ad0 ad A H locs ls hC ha hk hS hw hl hs
  exact K l D cT p e s m args below meth c ad0 ad A H locs ls hC ha hk hS hw ⟨hl.1, hl.2.1, fun i v h1 h2 => hl.2.2 i v (hL i v h1 h2) h2⟩ hs
end Rows2
end
section
/-! AW: the heap -/
def aw_ty (ci : Nat) : Nat → FieldType := match ci with
  | 0 => tyX0
  | 1 => tyX1
  | 2 => tyX2
  | 3 => tyX3
  | 4 => tyX4
  | _ => tyX5
theorem aw_cw0 : ∀ w ∈ u_ws RX0 TX0 1, w ∈ lw_tbl ∧ aw_okw w = true := by decide +kernel
theorem aw_cw1 : ∀ w ∈ u_ws RX1 TX1 12, w ∈ lw_tbl ∧ aw_okw w = true := by decide +kernel
theorem aw_cw2 : ∀ w ∈ u_ws RX2 TX2 6, w ∈ lw_tbl ∧ aw_okw w = true := by decide +kernel
theorem aw_cw3 : ∀ w ∈ u_ws RX3 TX3 18, w ∈ lw_tbl ∧ aw_okw w = true := by decide +kernel
theorem aw_cw4 : ∀ w ∈ u_ws RX4 TX4 7, w ∈ lw_tbl ∧ aw_okw w = true := by decide +kernel
theorem aw_cw5 : ∀ w ∈ u_ws RX5 TX5 14, w ∈ lw_tbl ∧ aw_okw w = true := by decide +kernel
theorem aw_cls {ci : Nat} {C : String} {T : u_T} {N : Nat} (h : aw_cl[ci]? = some (C, T, N)) :
    (∀ w ∈ u_ws C T N, w ∈ lw_tbl ∧ aw_okw w = true) ∧ (∀ k, k < N → parseFieldDescriptor (T k).2.2.1 = some (aw_ty ci k)) ∧ (∀ a, a < N → ∀ b, b < N → a ≠ b → (T a).2.1 ≠ (T b).2.1) := by
  match ci, h with
  | 0, h => cases h; exact ⟨aw_cw0, tyX0_ok, nmX0⟩
  | 1, h => cases h; exact ⟨aw_cw1, tyX1_ok, nmX1⟩
  | 2, h => cases h; exact ⟨aw_cw2, tyX2_ok, nmX2⟩
  | 3, h => cases h; exact ⟨aw_cw3, tyX3_ok, nmX3⟩
  | 4, h => cases h; exact ⟨aw_cw4, tyX4_ok, nmX4⟩
  | 5, h => cases h; exact ⟨aw_cw5, tyX5_ok, nmX5⟩
  | n + 6, h => simp at h
theorem aw_hts {A : Nat → Prop} {s : State} (h : aw_GF A s) {args : Array Value} {w : Cond} (hw : w ∈ lw_tbl) (ho : aw_okw w = true) : w.before args s = true := aw_stable ho (State.WarmedH.refl s) (h.1 w hw ho)
theorem aw_at_obj {cT : FieldType → ClassId} {ad : Nat → Nat} {h : Hp} {k i ci : Nat} {fs : List Value} (h0 : 0 < i) (hi : i < k) (hh : h i = .inr (ci, fs)) : (aw_ws cT ad h k)[i - 1]? = some (ad i, .inr (ci, fs.map (aw_cv ad))) := by
  rw [aw_ws_at cT ad h h0 hi, hh]; rfl
theorem aw_at_arr {cT : FieldType → ClassId} {ad : Nat → Nat} {h : Hp} {k i : Nat} {ty : FieldType} {a : vp_A} (h0 : 0 < i) (hi : i < k) (hh : h i = .inl (ty, a)) : (aw_ws cT ad h k)[i - 1]? = some (ad i, .inl (cT ty, aw_ca ad a)) := by
  rw [aw_ws_at cT ad h h0 hi, hh]; rfl
theorem aw_Wo_set {D : va_G} {cT : FieldType → ClassId} {A : Nat → Prop} {ad : Nat → Nat} {h : Hp} {k i : Nat} {H H1 : Heap} {U : State} {e : Ce} (hw : aw_Wo D cT A ad h k H U) (h0 : 0 < i) (hi : i < k) (he : aw_okc k e)
    (hP : va_P D aw_cl ((aw_ws cT ad h k).set (i - 1) (ad i, aw_ce cT ad e)) H1) (hD : va_D A ((aw_ws cT ad h k).set (i - 1) (ad i, aw_ce cT ad e))) : aw_Wo D cT A ad (va_up h i e) k H1 U := by
  rw [aw_ws_set cT ad h h0 hi] at hP hD
  refine ⟨hP, hD, hw.2.2.1, hw.2.2.2.1, fun j j0 jk => ?_⟩
  by_cases hj : j = i
  · subst hj; simp only [va_up, if_true]; exact he
  · simp only [va_up, hj, if_false]; exact hw.2.2.2.2 j j0 jk
section Rows3
variable {Z : Gz} {μ : Mt} {d k0 mc ms : Nat} {Q : Po} {pc : Nat} {L S : List Value} {h : Hp} {k cs ss : Nat}
theorem AW.get {i ci index f N : Nat} {C ref : String} {T : u_T} {fs : List Value} {v : Value} (hd : decode μ.2.1 pc = .ok (.getfield index, 3)) (hw : Cond.fieldLink μ.1.cls index ref (T f).2.1 (T f).2.2.1 ∈ lw_tbl) (hc : aw_cl[ci]? = some (C, T, N)) (hf : f < N) (hr : ref = (T f).1)
    (h0 : 0 < i) (hh : h i = .inr (ci, fs)) (hv : fs[f]? = some v) (K : AW Z μ d k0 mc ms Q (pc + 3) L (v :: S) h k cs ss) : AW Z μ d k0 mc ms Q pc L (.ref i :: S) h k cs ss := by
  intro l D cT p e s m args below meth c ad0 ad A H locs ls hC ha hk hS hw2 hl hs
  have hi : i < k := hs _ List.mem_cons_self
  obtain ⟨c1, c2, c3⟩ := aw_cls hc
  refine va_get (own := μ.1.cls) (ref := ref) (v := aw_cv ad v) hC.2.1 hC.2.2.1 (Ts := u_ws C T N) (fun w h => aw_hts hC.2.2.2.2.2.2.2.2.2.1 (c1 w h).1 (c1 w h).2) (fun _ h => h) hC.2.2.2.2.2.2.2.1 hw2.2.2.1 hw2.1 (i - 1) (aw_at_obj h0 hi hh) hc f hf (aw_hts hC.2.2.2.2.2.2.2.2.2.1 hw rfl) (fun x hx => by rw [hr]; exact hx) (by rw [List.getElem?_map, hv]; rfl) hd ?_
  have hok : aw_ok k v := by
    have := hw2.2.2.2.2 i h0 hi
    rw [hh] at this
    exact this v (List.mem_of_getElem? hv)
  exact K l D cT p e s m args below meth c ad0 ad A H locs ls hC ha hk hS hw2 hl (aw_ok_cons hok (aw_ok_tail hs))
theorem AW.getN {i ci index f N : Nat} {C ref host : String} {T : u_T} {fs : List Value} {v : Value} (hd : decode μ.2.1 pc = .ok (.getfield index, 3)) (hw : Cond.fieldLinkNest μ.1.cls index ref (T f).2.1 (T f).2.2.1 host ∈ lw_tbl) (hc : aw_cl[ci]? = some (C, T, N)) (hf : f < N) (hr : ref = (T f).1)
    (h0 : 0 < i) (hh : h i = .inr (ci, fs)) (hv : fs[f]? = some v) (K : AW Z μ d k0 mc ms Q (pc + 3) L (v :: S) h k cs ss) : AW Z μ d k0 mc ms Q pc L (.ref i :: S) h k cs ss := by
  intro l D cT p e s m args below meth c ad0 ad A H locs ls hC ha hk hS hw2 hl hs
  have hi : i < k := hs _ List.mem_cons_self
  obtain ⟨c1, c2, c3⟩ := aw_cls hc
  refine va_getN (own := μ.1.cls) (ref := ref) (host := host) (v := aw_cv ad v) hC.2.1 hC.2.2.1 (Ts := u_ws C T N) (fun w h => aw_hts hC.2.2.2.2.2.2.2.2.2.1 (c1 w h).1 (c1 w h).2) (fun _ h => h) hC.2.2.2.2.2.2.2.1 hw2.2.2.1 hw2.1 (i - 1) (aw_at_obj h0 hi hh) hc f hf (aw_hts hC.2.2.2.2.2.2.2.2.2.1 hw rfl) (fun x hx => by rw [hr]; exact hx) (by rw [List.getElem?_map, hv]; rfl) hd ?_
  have hok : aw_ok k v := by
    have := hw2.2.2.2.2 i h0 hi
    rw [hh] at this
    exact this v (List.mem_of_getElem? hv)
  exact K l D cT p e s m args below meth c ad0 ad A H locs ls hC ha hk hS hw2 hl (aw_ok_cons hok (aw_ok_tail hs))
theorem aw_okc_set {ci f : Nat} {fs : List Value} {v : Value} (h : aw_okc k (.inr (ci, fs))) (hv : aw_ok k v) : aw_okc k (.inr (ci, fs.set f v)) := fun w hw => by
  rcases List.mem_or_eq_of_mem_set hw with h1 | h1
  · exact h w h1
  · rw [h1]; exact hv
theorem AW.put {i ci index f N : Nat} {C ref : String} {T : u_T} {fs fs' : List Value} {v : Value} (hd : decode μ.2.1 pc = .ok (.putfield index, 3)) (hw : Cond.fieldLink μ.1.cls index ref (T f).2.1 (T f).2.2.1 ∈ lw_tbl) (hc : aw_cl[ci]? = some (C, T, N)) (hf : f < N) (hr : ref = (T f).1)
    (h0 : 0 < i) (hh : h i = .inr (ci, fs)) (hl2 : f < fs.length) (hfin : (T f).2.2.2 = false) (hn : ∀ ad : Nat → Nat, narrow (aw_ty ci f) (aw_cv ad v) = aw_cv ad v ∧ fits (aw_ty ci f) (aw_cv ad v) = true) (hs' : fs.set f v = fs')
    (K : AW Z μ d k0 mc ms Q (pc + 3) L S (va_up h i (.inr (ci, fs'))) k cs ss) : AW Z μ d k0 mc ms Q pc L (v :: .ref i :: S) h k cs ss := by
  subst hs'
  intro l D cT p e s m args below meth c ad0 ad A H locs ls hC ha hk hS hw2 hl hs
  have hi : i < k := hs _ (List.mem_cons_of_mem _ List.mem_cons_self)
  obtain ⟨c1, c2, c3⟩ := aw_cls hc
  refine va_put (own := μ.1.cls) (ref := ref) (v := aw_cv ad v) (ty := aw_ty ci f) hC.2.1 hC.2.2.1 (Ts := u_ws C T N) (fun w h => aw_hts hC.2.2.2.2.2.2.2.2.2.1 (c1 w h).1 (c1 w h).2) (fun _ h => h) (aw_ty ci) c2 c3 hC.2.2.2.2.2.2.2.1 hw2.2.2.1 hw2.1 hw2.2.1 hS (i - 1) (aw_at_obj h0 hi hh) hc f hf (aw_hts hC.2.2.2.2.2.2.2.2.2.1 hw rfl) (fun x hx => by rw [hr]; exact hx) hfin (c2 f hf) (hn ad).1 (hn ad).2 (by rw [List.length_map]; exact hl2) hd (fun H1 locs1 hP hD hS1 => ?_)
  have e1 : (ad i, (Sum.inr (ci, (fs.map (aw_cv ad)).set f (aw_cv ad v)) : va_E)) = (ad i, aw_ce cT ad (.inr (ci, fs.set f v))) := by
    show _ = (ad i, Sum.inr (ci, (fs.set f v).map (aw_cv ad)))
    rw [List.map_set]
  rw [e1] at hP hD
  have hoi := hw2.2.2.2.2 i h0 hi
  rw [hh] at hoi
  exact K l D cT p e s m args below meth c ad0 ad A H1 locs1 ls hC ha hk hS1 (aw_Wo_set hw2 h0 hi (aw_okc_set hoi (hs _ List.mem_cons_self)) hP hD) hl (aw_ok_tail (aw_ok_tail hs))
theorem AW.putN {i ci index f N : Nat} {C ref host : String} {T : u_T} {fs fs' : List Value} {v : Value} (hd : decode μ.2.1 pc = .ok (.putfield index, 3)) (hw : Cond.fieldLinkNest μ.1.cls index ref (T f).2.1 (T f).2.2.1 host ∈ lw_tbl) (hc : aw_cl[ci]? = some (C, T, N)) (hf : f < N) (hr : ref = (T f).1)
    (h0 : 0 < i) (hh : h i = .inr (ci, fs)) (hl2 : f < fs.length) (hfin : (T f).2.2.2 = false) (hn : ∀ ad : Nat → Nat, narrow (aw_ty ci f) (aw_cv ad v) = aw_cv ad v ∧ fits (aw_ty ci f) (aw_cv ad v) = true) (hs' : fs.set f v = fs')
    (K : AW Z μ d k0 mc ms Q (pc + 3) L S (va_up h i (.inr (ci, fs'))) k cs ss) : AW Z μ d k0 mc ms Q pc L (v :: .ref i :: S) h k cs ss := by
  subst hs'
  intro l D cT p e s m args below meth c ad0 ad A H locs ls hC ha hk hS hw2 hl hs
  have hi : i < k := hs _ (List.mem_cons_of_mem _ List.mem_cons_self)
  obtain ⟨c1, c2, c3⟩ := aw_cls hc
  refine va_putN (own := μ.1.cls) (ref := ref) (host := host) (v := aw_cv ad v) (ty := aw_ty ci f) hC.2.1 hC.2.2.1 (Ts := u_ws C T N) (fun w h => aw_hts hC.2.2.2.2.2.2.2.2.2.1 (c1 w h).1 (c1 w h).2) (fun _ h => h) (aw_ty ci) c2 c3 hC.2.2.2.2.2.2.2.1 hw2.2.2.1 hw2.1 hw2.2.1 hS (i - 1) (aw_at_obj h0 hi hh) hc f hf (aw_hts hC.2.2.2.2.2.2.2.2.2.1 hw rfl) (fun x hx => by rw [hr]; exact hx) hfin (c2 f hf) (hn ad).1 (hn ad).2 (by rw [List.length_map]; exact hl2) hd (fun H1 locs1 hP hD hS1 => ?_)
  have e1 : (ad i, (Sum.inr (ci, (fs.map (aw_cv ad)).set f (aw_cv ad v)) : va_E)) = (ad i, aw_ce cT ad (.inr (ci, fs.set f v))) := by
    show _ = (ad i, Sum.inr (ci, (fs.set f v).map (aw_cv ad)))
    rw [List.map_set]
  rw [e1] at hP hD
  have hoi := hw2.2.2.2.2 i h0 hi
  rw [hh] at hoi
  exact K l D cT p e s m args below meth c ad0 ad A H1 locs1 ls hC ha hk hS1 (aw_Wo_set hw2 h0 hi (aw_okc_set hoi (hs _ List.mem_cons_self)) hP hD) hl (aw_ok_tail (aw_ok_tail hs))
theorem AW.putF {i ci index f N : Nat} {C ref : String} {T : u_T} {fs fs' : List Value} {v : Value} (hd : decode μ.2.1 pc = .ok (.putfield index, 3)) (hw : Cond.fieldLink μ.1.cls index ref (T f).2.1 (T f).2.2.1 ∈ lw_tbl) (hc : aw_cl[ci]? = some (C, T, N)) (hf : f < N) (hr : ref = (T f).1)
    (h0 : 0 < i) (hh : h i = .inr (ci, fs)) (hl2 : f < fs.length) (hfin : (T f).2.2.2 = true) (hin : μ.1.name = "<init>") (hown : (T f).1 = μ.1.cls) (hn : ∀ ad : Nat → Nat, narrow (aw_ty ci f) (aw_cv ad v) = aw_cv ad v ∧ fits (aw_ty ci f) (aw_cv ad v) = true) (hs' : fs.set f v = fs')
    (K : AW Z μ d k0 mc ms Q (pc + 3) L S (va_up h i (.inr (ci, fs'))) k cs ss) : AW Z μ d k0 mc ms Q pc L (v :: .ref i :: S) h k cs ss := by
  subst hs'
  intro l D cT p e s m args below meth c ad0 ad A H locs ls hC ha hk hS hw2 hl hs
  have hi : i < k := hs _ (List.mem_cons_of_mem _ List.mem_cons_self)
  obtain ⟨c1, c2, c3⟩ := aw_cls hc
  refine va_putF (own := μ.1.cls) (ref := ref) (v := aw_cv ad v) (ty := aw_ty ci f) hC.2.1 hC.2.2.1 (Ts := u_ws C T N) (fun w h => aw_hts hC.2.2.2.2.2.2.2.2.2.1 (c1 w h).1 (c1 w h).2) (fun _ h => h) (aw_ty ci) c2 c3 hC.2.2.2.2.2.2.2.1 hw2.2.2.1 hw2.1 hw2.2.1 hS (i - 1) (aw_at_obj h0 hi hh) hc f hf (aw_hts hC.2.2.2.2.2.2.2.2.2.1 hw rfl) (fun x hx => by rw [hr]; exact hx) hfin (hC.2.2.2.2.2.2.1.trans hin) hown (c2 f hf) (hn ad).1 (hn ad).2 (by rw [List.length_map]; exact hl2) hd (fun H1 locs1 hP hD hS1 => ?_)
  have e1 : (ad i, (Sum.inr (ci, (fs.map (aw_cv ad)).set f (aw_cv ad v)) : va_E)) = (ad i, aw_ce cT ad (.inr (ci, fs.set f v))) := by
    show _ = (ad i, Sum.inr (ci, (fs.set f v).map (aw_cv ad)))
    rw [List.map_set]
  rw [e1] at hP hD
  have hoi := hw2.2.2.2.2 i h0 hi
  rw [hh] at hoi
  exact K l D cT p e s m args below meth c ad0 ad A H1 locs1 ls hC ha hk hS1 (aw_Wo_set hw2 h0 hi (aw_okc_set hoi (hs _ List.mem_cons_self)) hP hD) hl (aw_ok_tail (aw_ok_tail hs))
theorem AW.iald {i n : Nat} {g : Nat → Int32} {x : Int32} (hd : decode μ.2.1 pc = .ok (.iaload, 1)) (h0 : 0 < i) (hh : h i = .inl (.int, n, .inl g)) (hin : vp_in x n) (K : AW Z μ d k0 mc ms Q (pc + 1) L (.int (g x.toNatClampNeg) :: S) h k cs ss) : AW Z μ d k0 mc ms Q pc L (.int x :: .ref i :: S) h k cs ss := by
  intro l D cT p e s m args below meth c ad0 ad A H locs ls hC ha hk hS hw2 hl hs
  have hi : i < k := hs _ (List.mem_cons_of_mem _ List.mem_cons_self)
  exact va_iald hC.2.1 hC.2.2.1 hw2.2.2.1 hw2.1 (i - 1) 0 (aw_at_arr h0 hi hh) rfl hin hd (K l D cT p e s m args below meth c ad0 ad A H locs ls hC ha hk hS hw2 hl (aw_ok_cons aw_okI (aw_ok_tail (aw_ok_tail hs))))
theorem AW.zald {i n : Nat} {g : Nat → Int32} {x : Int32} (hd : decode μ.2.1 pc = .ok (.baload, 1)) (h0 : 0 < i) (hh : h i = .inl (.boolean, n, .inl g)) (hin : vp_in x n) (K : AW Z μ d k0 mc ms Q (pc + 1) L (.int (g x.toNatClampNeg) :: S) h k cs ss) : AW Z μ d k0 mc ms Q pc L (.int x :: .ref i :: S) h k cs ss := by
  intro l D cT p e s m args below meth c ad0 ad A H locs ls hC ha hk hS hw2 hl hs
  have hi : i < k := hs _ (List.mem_cons_of_mem _ List.mem_cons_self)
  exact va_zald hC.2.1 hC.2.2.1 hw2.2.2.1 hw2.1 (i - 1) 1 (aw_at_arr h0 hi hh) rfl hin hd (K l D cT p e s m args below meth c ad0 ad A H locs ls hC ha hk hS hw2 hl (aw_ok_cons aw_okI (aw_ok_tail (aw_ok_tail hs))))
theorem AW.iast {i n : Nat} {g : Nat → Int32} {x y : Int32} (hd : decode μ.2.1 pc = .ok (.iastore, 1)) (h0 : 0 < i) (hh : h i = .inl (.int, n, .inl g)) (hin : vp_in x n) (K : AW Z μ d k0 mc ms Q (pc + 1) L S (va_up h i (.inl (.int, n, .inl (upd g x.toNatClampNeg y)))) k cs ss) : AW Z μ d k0 mc ms Q pc L (.int y :: .int x :: .ref i :: S) h k cs ss := by
  intro l D cT p e s m args below meth c ad0 ad A H locs ls hC ha hk hS hw2 hl hs
  have hi : i < k := hs _ (List.mem_cons_of_mem _ (List.mem_cons_of_mem _ List.mem_cons_self))
  exact va_iast hC.2.1 hC.2.2.1 hw2.2.2.1 hw2.1 hw2.2.1 hS (i - 1) 0 (aw_at_arr h0 hi hh) rfl hin hd (fun H1 locs1 hP hD hS1 => K l D cT p e s m args below meth c ad0 ad A H1 locs1 ls hC ha hk hS1 (aw_Wo_set (e := .inl (.int, n, .inl (upd g x.toNatClampNeg y))) hw2 h0 hi trivial hP hD) hl (aw_ok_tail (aw_ok_tail (aw_ok_tail hs))))
theorem AW.zast {i n : Nat} {g : Nat → Int32} {x y : Int32} (hd : decode μ.2.1 pc = .ok (.bastore, 1)) (h0 : 0 < i) (hh : h i = .inl (.boolean, n, .inl g)) (hin : vp_in x n) (hy : vp_nar .boolean y = y) (K : AW Z μ d k0 mc ms Q (pc + 1) L S (va_up h i (.inl (.boolean, n, .inl (upd g x.toNatClampNeg y)))) k cs ss) : AW Z μ d k0 mc ms Q pc L (.int y :: .int x :: .ref i :: S) h k cs ss := by
  intro l D cT p e s m args below meth c ad0 ad A H locs ls hC ha hk hS hw2 hl hs
  have hi : i < k := hs _ (List.mem_cons_of_mem _ (List.mem_cons_of_mem _ List.mem_cons_self))
  refine va_zast hC.2.1 hC.2.2.1 hw2.2.2.1 hw2.1 hw2.2.1 hS (i - 1) 1 (aw_at_arr h0 hi hh) rfl hin hd (fun H1 locs1 hP hD hS1 => ?_)
  rw [hy] at hP hD
  exact K l D cT p e s m args below meth c ad0 ad A H1 locs1 ls hC ha hk hS1 (aw_Wo_set (e := .inl (.boolean, n, .inl (upd g x.toNatClampNeg y))) hw2 h0 hi trivial hP hD) hl (aw_ok_tail (aw_ok_tail (aw_ok_tail hs)))
theorem AW.alen {i n : Nat} {g : Nat → Int32} (hd : decode μ.2.1 pc = .ok (.arraylength, 1)) (h0 : 0 < i) (hh : h i = .inl (.int, n, .inl g)) (K : AW Z μ d k0 mc ms Q (pc + 1) L (.int (Int32.ofNat n) :: S) h k cs ss) : AW Z μ d k0 mc ms Q pc L (.ref i :: S) h k cs ss := by
  intro l D cT p e s m args below meth c ad0 ad A H locs ls hC ha hk hS hw2 hl hs
  have hi : i < k := hs _ List.mem_cons_self
  exact va_alen hC.2.1 hC.2.2.1 hw2.2.2.1 hw2.1 (i - 1) 0 (aw_at_arr h0 hi hh) (ty := .int) rfl rfl hd (K l D cT p e s m args below meth c ad0 ad A H locs ls hC ha hk hS hw2 hl (aw_ok_cons aw_okI (aw_ok_tail hs)))
/-- a new cell: the next id -/
theorem aw_Wo_push {D : va_G} {cT : FieldType → ClassId} {A : Nat → Prop} {ad : Nat → Nat} {q : Nat} {H H1 : Heap} {U : State} {e : Ce} (hw : aw_Wo D cT A ad h k H U) (he : aw_okc k e)
    (hP : va_P D aw_cl (aw_ws cT ad h k ++ [(q, aw_ce cT ad e)]) H1) (hD : va_D A (aw_ws cT ad h k ++ [(q, aw_ce cT ad e)])) : aw_Wo D cT A (va_up ad k q) (va_up h k e) (k + 1) H1 U := by
  rw [← aw_ws_push cT ad h hw.2.2.2.1 hw.2.2.2.2 q e he] at hP hD
  refine ⟨hP, hD, hw.2.2.1, Nat.succ_pos k, fun j j0 jk => ?_⟩
  by_cases hj : j = k
  · subst hj; simp only [va_up, if_true]; exact aw_okc_le he (Nat.le_succ _)
  · simp only [va_up, hj, if_false]; exact aw_okc_le (hw.2.2.2.2 j j0 (by omega)) (Nat.le_succ _)
theorem aw_push_cv {ad : Nat → Nat} {q : Nat} (hs : ∀ v ∈ S, aw_ok k v) : S.map (aw_cv (va_up ad k q)) = S.map (aw_cv ad) :=
  List.map_congr_left fun v hv => aw_cv_congr (hs v hv) fun i hi => by simp [va_up, Nat.ne_of_lt hi]
theorem aw_push_Lv {nL : Nat} {ad : Nat → Nat} {q : Nat} {ls : Array Slot} (hl : aw_Lv nL ad k ls L) : aw_Lv nL (va_up ad k q) (k + 1) ls L :=
  ⟨hl.1, hl.2.1, fun i v h1 h2 => ⟨by rw [aw_cv_congr (ad := ad) (hl.2.2 i v h1 h2).2 (fun j hj => by simp [va_up, Nat.ne_of_lt hj])]; exact (hl.2.2 i v h1 h2).1, aw_ok_le (hl.2.2 i v h1 h2).2 (Nat.le_succ _)⟩⟩
theorem AW.new {ci index N : Nat} {C : String} {T : u_T} {fs : List Value} (hd : decode μ.2.1 pc = .ok (.new index, 3)) (hw : Cond.classLink μ.1.cls index C ∈ lw_tbl) (hi1 : Cond.instantiable C N ∈ lw_tbl) (hi2 : Cond.initialized C ∈ lw_tbl) (hc : aw_cl[ci]? = some (C, T, N))
    (hfs : ∀ j, j < N → defaultValue (aw_ty ci j) = vp_V fs j) (hfr : ∀ v ∈ fs, ∀ i, v ≠ .ref i) (hcs : cs + 1 ≤ mc) (hss : ss + N ≤ ms)
    (K : AW Z μ d k0 mc ms Q (pc + 3) L (.ref k :: S) (va_up h k (.inr (ci, fs))) (k + 1) (cs + 1) (ss + N)) : AW Z μ d k0 mc ms Q pc L S h k cs ss := by
  intro l D cT p e s m args below meth c ad0 ad A H locs ls hC ha hk hS hw2 hl hs
  obtain ⟨c1, c2, c3⟩ := aw_cls hc
  have hg := hC.2.2.2.2.2.2.2.2.2.1
  refine va_new (own := μ.1.cls) hC.2.1 hC.2.2.1 (Ts := u_ws C T N) (fun w h => aw_hts hg (c1 w h).1 (c1 w h).2) (fun _ h => h) (aw_ty ci) c2 hC.2.2.2.2.2.2.2.1 (aw_hts hg hw rfl) (aw_hts hg hi1 rfl) (aw_hts hg hi2 rfl) hw2.2.2.1 hw2.1 hw2.2.1 hS hC.2.2.2.2.2.2.2.2.2.2.1 hc hfs hcs hss hd (fun q H1 hP hD hS1 => ?_)
  have hrefl : fs.map (aw_cv ad) = fs := by
    have : fs.map (aw_cv ad) = fs.map id := List.map_congr_left fun v hv => by
      cases v <;> first | rfl | exact absurd rfl (hfr _ hv _)
    rw [this, List.map_id]
  have he : aw_okc k (.inr (ci, fs)) := fun v hv => by
    cases v <;> first | trivial | exact absurd rfl (hfr _ hv _)
  have e1 : (q, (Sum.inr (ci, fs) : va_E)) = (q, aw_ce cT ad (.inr (ci, fs))) := by
    show _ = (q, Sum.inr (ci, fs.map (aw_cv ad)))
    rw [hrefl]
  rw [e1] at hP hD
  have hK := K l D cT p e s m args below meth c ad0 (va_up ad k q) A H1 locs ls hC (fun i hi => by simp only [va_up, Nat.ne_of_lt (Nat.lt_of_lt_of_le hi hk), if_false]; exact ha i hi) (Nat.le_succ_of_le hk) hS1 (aw_Wo_push hw2 he hP hD) (aw_push_Lv hl) (aw_ok_cons (Nat.lt_succ_self k) (fun v hv => aw_ok_le (hs v hv) (Nat.le_succ _)))
  rw [List.map_cons, aw_push_cv hs] at hK
  have e2 : aw_cv (va_up ad k q) (.ref k) = .ref q := by simp [aw_cv, va_up]
  rw [e2] at hK
  exact hK
theorem aw_tyv (cT : FieldType → ClassId) {D : va_G} {U : State} (hK : va_K D aw_cl (aw_tys cT) U) {ty : FieldType} (hty : ty = .int ∨ ty = .boolean ∨ ty = .byte) {cA : ClassId} (h : va_RA U cA ty) : cA = cT ty := by
  rcases hty with rfl | rfl | rfl
  · exact Option.some.inj (h.symm.trans (hK.2 0 _ rfl).2)
  · exact Option.some.inj (h.symm.trans (hK.2 1 _ rfl).2)
  · exact Option.some.inj (h.symm.trans (hK.2 2 _ rfl).2)
theorem AW.newa {atype : ArrayType} {ty : FieldType} {n : Int32} {N : Nat} {a0 : vp_A} (hd : decode μ.2.1 pc = .ok (.newarray atype, 2)) (hty : newarray.typeOf atype = ty) (ht3 : ty = .int ∨ ty = .boolean ∨ ty = .byte) (hw : Cond.arrayClass ty ∈ lw_tbl) (ha0 : ∀ cA : ClassId, vp_cell cA a0 = arrV cA N (fun _ => defaultValue ty))
    (hn : ¬ n < 0) (hN : n.toNatClampNeg = N) (hb : N * componentBytes ty ≤ 536870912) (hcs : cs + 1 ≤ mc) (hss : ss + N ≤ ms)
    (K : AW Z μ d k0 mc ms Q (pc + 2) L (.ref k :: S) (va_up h k (.inl (ty, a0))) (k + 1) (cs + 1) (ss + N)) (hca : ∀ ad, aw_ca ad a0 = a0 := by intro; rfl) (hoa : ∀ k, aw_oka k a0 := by intro; trivial) : AW Z μ d k0 mc ms Q pc L (.int n :: S) h k cs ss := by
  intro l D cT p e s m args below meth c ad0 ad A H locs ls hC ha hk hS hw2 hl hs
  have hg := hC.2.2.2.2.2.2.2.2.2.1
  refine va_newa hC.2.1 hC.2.2.1 (by rw [hty]; exact aw_hts hg hw rfl) hty hw2.2.2.1 hw2.1 hw2.2.1 hS hC.2.2.2.2.2.2.2.2.2.2.1 ha0 hn hN hb hcs hss hd (fun q cA H1 hK1 hP hD hS1 => ?_)
  have hcA : cA = cT ty := aw_tyv cT hw2.2.2.1 ht3 (hK1.2 4 (cA, ty) rfl).2
  subst hcA
  have e9 : (q, (Sum.inl (cT ty, a0) : va_E)) = (q, aw_ce cT ad (.inl (ty, a0))) := by
    show _ = (q, Sum.inl (cT ty, aw_ca ad a0))
    rw [hca]
  rw [e9] at hP hD
  have hK := K l D cT p e s m args below meth c ad0 (va_up ad k q) A H1 locs ls hC (fun i hi => by simp only [va_up, Nat.ne_of_lt (Nat.lt_of_lt_of_le hi hk), if_false]; exact ha i hi) (Nat.le_succ_of_le hk) hS1 (aw_Wo_push (e := .inl (ty, a0)) hw2 (hoa k) hP hD) (aw_push_Lv hl) (aw_ok_cons (Nat.lt_succ_self k) (fun v hv => aw_ok_le (aw_ok_tail hs v hv) (Nat.le_succ _)))
  rw [List.map_cons, aw_push_cv (aw_ok_tail hs)] at hK
  have e2 : aw_cv (va_up ad k q) (.ref k) = .ref q := by simp [aw_cv, va_up]
  rw [e2] at hK
  exact hK
end Rows3
end
section
/-! AW: calls -/
/-- the callee's start, out of the caller's world -/
theorem aw_free {D : va_G} {cT : FieldType → ClassId} {A : Nat → Prop} {ad : Nat → Nat} {h : Hp} {k : Nat} {H H0 : Heap} {U : State} {locs : List Loc} (hw : aw_Wo D cT A ad h k H U) (hS : va_S A H0 H locs) (hA : ∀ q, H0.size ≤ q → A q) : ∀ q, va_A (aw_ws cT ad h k) H.size q → A q := by
  intro q hq
  rcases hq with ⟨j, e, hj⟩ | hq
  · exact hw.2.1.2 j _ hj
  · exact hA q (Nat.le_trans hS.1 hq)
def aw_Pc (D : va_G) (cT : FieldType → ClassId) (ad : Nat → Nat) (as : List Value) (h : Hp) (k sz : Nat) : Array Value → State → Prop :=
  va_Pc (as.map (aw_cv ad)) (fun U => U.heap.size = sz ∧ (∀ v ∈ as, aw_ok k v) ∧ aw_Wo D cT (va_A (aw_ws cT ad h k) sz) ad h k U.heap U ∧ aw_GF (va_A (aw_ws cT ad h k) sz) U)
theorem aw_blind {D : va_G} {cT : FieldType → ClassId} {ad : Nat → Nat} {as : List Value} {h : Hp} {k sz : Nat} : FrameBlind (aw_Pc D cT ad as h k sz) := by
  intro a U g mk q
  obtain ⟨q0, q1, q2, q3, q4⟩ := q
  exact ⟨q0, q1, q2, ⟨q3.1, q3.2.1, va_K.moved (u := U) (U := U.calling g mk a) (Vm.Alike.refl U.vm) q3.2.2.1, q3.2.2.2⟩, aw_GF.moved (s := U) (U := U.calling g mk a) q4 (State.WarmedH.refl U) (fun _ _ _ => rfl) (fun _ z => z)⟩
theorem aw_pre {D : va_G} {cT : FieldType → ClassId} {A : Nat → Prop} {ad : Nat → Nat} {as : List Value} {h : Hp} {k : Nat} {H : Heap} {s : State} {locs : List Loc} (hw : aw_Wo D cT A ad h k H s) (hS : va_S A s.heap H locs) (hA : ∀ q, s.heap.size ≤ q → A q) (hg : aw_GF A s) (hok : ∀ v ∈ as, aw_ok k v) :
    ∀ U : State, U.heap = H → s.WarmedH U.vm → aw_Pc D cT ad as h k H.size (as.map (aw_cv ad)).toArray U := by
  intro U hU hW
  subst hU
  exact ⟨rfl, rfl, hok, ⟨hw.1, hw.2.1.self, hw.2.2.1.moved hW.alike, hw.2.2.2⟩, hg.moved hW (fun a h1 h2 => hS.2.1 a h1 h2) (aw_free hw hS hA)⟩
/-- behind the callee: the world is the caller's again -/
theorem aw_back {D : va_G} {cT : FieldType → ClassId} {A A1 : Nat → Prop} {ad : Nat → Nat} {h : Hp} {k : Nat} {H : Heap} {s t : State} (hw : aw_Wo D cT A1 ad h k H t) (hvm : s.vm.Alike t.vm) (hA : ∀ q, A1 q → A q) : aw_Wo D cT A ad h k H s :=
  ⟨hw.1, hw.2.1.weaken (fun _ _ _ z => hA _ z), hw.2.2.1.moved hvm.symm, hw.2.2.2⟩
theorem aw_Lv_to {nL : Nat} {ad ad' : Nat → Nat} {k k' : Nat} {ls : Array Slot} {L : List Value} (hl : aw_Lv nL ad k ls L) (e : ∀ i, i < k → ad' i = ad i) (hk : k ≤ k') : aw_Lv nL ad' k' ls L :=
  ⟨hl.1, hl.2.1, fun i v h1 h2 => ⟨by rw [aw_cv_congr (ad := ad) (hl.2.2 i v h1 h2).2 e]; exact (hl.2.2 i v h1 h2).1, aw_ok_le (hl.2.2 i v h1 h2).2 hk⟩⟩
theorem aw_map_to {ad ad' : Nat → Nat} {k : Nat} {S : List Value} (hs : ∀ v ∈ S, aw_ok k v) (e : ∀ i, i < k → ad' i = ad i) : S.map (aw_cv ad') = S.map (aw_cv ad) := List.map_congr_left fun v hv => aw_cv_congr (hs v hv) e
section Rows4
variable {Z : Gz} {μ : Mt} {d k0 mc ms : Nat} {Q : Po} {pc : Nat} {L S : List Value} {h : Hp} {k cs ss : Nat}
/-- at pc, with an exception of the class E thrown -/
def AX (Z : Gz) (μ : Mt) (d k0 mc ms : Nat) (Q : Po) (E : String) (pc : Nat) (L : List Value) (h : Hp) (k cs ss : Nat) : Prop :=
  ∀ (l : Launch) (D : va_G) (cT : FieldType → ClassId) (p : Program) (e : Env) (s : State) (m : MethodId) (args : Array Value) (below : List Frame) (meth : Method) (c : Code) (ad0 ad : Nat → Nat) (A : Nat → Prop) (H : Heap) (locs : List Loc) (ls : Array Slot) (q : Nat) (ce : Cell) (st : List Value),
    aw_Cx Z μ l p s m args meth c ad0 A → (∀ i, i < k0 → ad i = ad0 i) → k0 ≤ k → va_S A s.heap H locs → aw_Wo D cT A ad h k H s → aw_Lv μ.2.2.1 ad k ls L → H[q]? = some ce → ce.vm = .none → s.vm.findClass E = some ce.cls →
    vx_W p l e (aw_R d mc ms) s m args below meth c H locs cs ss (vx_MQ below (aw_Qc D cT A ad0 k0 Q) (aw_Xc D cT A ad0 k0 Q) args s mc ms A) (F0 m pc ls st) q
theorem AX.out {E : String} (hh : μ.2.2.2.2 = []) (hc : cs ≤ mc) (hs2 : ss ≤ ms) (q : Q (.inr E) h k) : AX Z μ d k0 mc ms Q E pc L h k cs ss := by
  intro l D cT p e s m args below meth c ad0 ad A H locs ls q9 ce st hC ha hk hS hw hl hq hv hcl
  obtain ⟨h1, hx, hb, h4, h5, h6, h7, h8, h9, h10, h11, h12⟩ := hC
  refine vx_out (fun x hx => ?_) h6 hq hv hcl (fun t ht hvm => ⟨⟨h, k, ad, q, ha, hk, ?_⟩, hS.F ht⟩) hS.2.2 hc hs2
  · rw [h9, hh] at hx; cases hx
  · rw [ht]; exact ⟨hw.1, hw.2.1, hw.2.2.1.moved hvm, hw.2.2.2⟩
theorem AX.catch_n {E name : String} {x : Nat × Nat × Nat × Nat} {pre suf : List (Nat × Nat × Nat × Nat)} {n : Fin 4} {i : Nat} {L' : List Value} (hh : μ.2.2.2.2 = pre ++ x :: suf) (hE : E ∈ aw_exc)
    (hpre : ∀ z ∈ pre, z.2.2.2 ≠ 0 ∧ ∃ nm ∈ aw_exc, nm ≠ E ∧ Cond.classLink μ.1.cls z.2.2.2 nm ∈ lw_tbl) (h1 : x.1 ≤ pc) (h2 : pc < x.2.1) (h3 : x.2.2.2 ≠ 0) (hlink : Cond.classLink μ.1.cls x.2.2.2 name ∈ lw_tbl) (hcast : Cond.castable E name ∈ lw_tbl)
    (hd : decode μ.2.1 x.2.2.1 = .ok (.astore_n n, 1)) (hi : (n : Nat) = i) (hn : i < μ.2.2.1) (hlow : aw_low L i = true) (hL : L.set i .null = L')
    (K : AW Z μ d k0 mc ms Q (x.2.2.1 + 1) L' [] h k cs ss) : AX Z μ d k0 mc ms Q E pc L h k cs ss := by
  intro l D cT p e s m args below meth c ad0 ad A H locs ls q9 ce st hC ha hk hS hw hl hq hv hcl
  have hg := hC.2.2.2.2.2.2.2.2.2.1
  have hown := hC.2.2.2.2.2.2.2.1
  refine vx_catch (own := μ.1.cls) (name := name) (E := E) (ce := ce) hown (tableOf pre) ⟨x.1, x.2.1, x.2.2.1, x.2.2.2⟩ (tableOf suf) ?_ (fun z hz => ?_) ?_ h3 (aw_hts hg hlink rfl) (aw_hts hg hcast rfl) hq hv hcl ?_
  · rw [hC.2.2.2.2.2.2.2.2.1, hh]
    simp [tableOf]
  · obtain ⟨y, hy, rfl⟩ := List.mem_map.mp hz
    obtain ⟨g1, nm, g2, g3, g4⟩ := hpre y hy
    exact Or.inr ⟨g1, nm, aw_hts hg g4 rfl, hg.2.2.1 E hE nm g2 (Ne.symm g3)⟩
  · simp [covers, h1, h2]
  · refine lv_astore_n (nL := μ.2.2.1) (lv := aw_pairs ad L) hC.2.1 hC.2.2.1 hd hi hl.has hn rfl (fun ls' h' => ?_)
    refine K l D cT p e s m args below meth c ad0 ad A H locs ls' hC ha hk hS hw ?_ (fun v hv => nomatch hv)
    subst hL
    have h'' : lv_has ls' μ.2.2.1 ((i, aw_cv (fun _ => q9) (.ref 0)) :: (aw_pairs ad L).filter (fun q => !(q.1 == i) && !(q.1 + 1 == i && q.2.category == 2))) := h'
    refine ⟨h'.1, h'.2.1, fun j w hj hw' => ?_⟩
    by_cases hji : j = i
    · subst hji
      rw [List.getElem?_set_self (by
        have := (List.getElem?_eq_some_iff.mp hj).1
        rwa [List.length_set] at this)] at hj
      cases hj
      exact absurd rfl hw'
    · rw [List.getElem?_set_ne (Ne.symm hji)] at hj
      refine ⟨h'.2.2 (j, aw_cv ad w) (List.mem_cons_of_mem _ (List.mem_filter.mpr ⟨aw_pairs_in hj hw', ?_⟩)), (hl.2.2 j w hj hw').2⟩
      have e1 : (j == i) = false := by simp [hji]
      have e2 : (j + 1 == i && (aw_cv ad w).category == 2) = false := by
        by_cases e : j + 1 = i
        · subst e
          simp only [aw_low, hj] at hlow
          rw [aw_cat]
          have : w.category = 1 := by simpa using hlow
          simp [this]
        · simp [e]
      simp [e1, e2]
/-- a call that has run, consumed -/
theorem aw_run {l : Launch} {D : va_G} {cT : FieldType → ClassId} {p : Program} {e : Env} {s : State} {m : MethodId} {args : Array Value} {below : List Frame} {meth : Method} {c : Code} {ad0 ad : Nat → Nat} {A : Nat → Prop} {H : Heap} {locs : List Loc} {ls : Array Slot} {a : Array Value} {S' st0 : List Value} {mc' ms' : Nat} {R : Po}
    (hr : vx_Run p l e (aw_R d mc ms) s m args below meth c H locs cs ss mc' ms' (F0 m pc ls st0) (S'.map (aw_cv ad)) (aw_Qc D cT (va_A (aw_ws cT ad h k) H.size) ad k R a) (aw_Xc D cT (va_A (aw_ws cT ad h k) H.size) ad k R) (va_A (aw_ws cT ad h k) H.size))
    (hC : aw_Cx Z μ l p s m args meth c ad0 A) (ha : ∀ i, i < k0 → ad i = ad0 i) (hk : k0 ≤ k) (hS : va_S A s.heap H locs) (hw : aw_Wo D cT A ad h k H s) (hl : aw_Lv μ.2.2.1 ad k ls L) (hs : ∀ v ∈ S', aw_ok k v)
    (K : ∀ (v : Option Value) (h' : Hp) (k' : Nat), R (.inl v) h' k' → AW Z μ d k0 mc ms Q (pc + 3) L (v.toList ++ S') h' k' (cs + mc') (ss + ms'))
    (KX : ∀ (E : String) (h' : Hp) (k' : Nat), R (.inr E) h' k' → AX Z μ d k0 mc ms Q E pc L h' k' (cs + mc') (ss + ms')) :
    W p l e (aw_R d mc ms) s m args below meth c H locs cs ss (vx_MQ below (aw_Qc D cT A ad0 k0 Q) (aw_Xc D cT A ad0 k0 Q) args s mc ms A) (F0 m pc ls st0) := by
  have hF := aw_free hw hS hC.2.2.2.2.2.2.2.2.2.2.1
  intro T hT X
  rcases hr T hT X with ⟨v, st₀, t, T', Lc, h0, X', hL, e1, e2, ⟨⟨v', h', k', ad', ev, hR, g1, g2, g3, g4⟩, hFr⟩, st⟩ | ⟨q, st₀, t, T', Lc, E, ce, h0, X', hL, e1, e2, ⟨⟨h', k', ad', hR, g1, g2, g4⟩, hFr⟩, hce, hcv, hcl, st⟩
  · cases ev
    obtain ⟨k1, k2, k3⟩ := vx_keep h0 e1 hS (fun q _ z => hF q z) hF hL hFr
    rw [← e1] at g4
    have hvm : s.vm.Alike t.vm := by rw [← e2]; exact X'.warmed.alike
    have hW := K v' h' k' hR l D cT p e s m args below meth c ad0 ad' A T'.heap (locs ++ Lc) ls hC (fun i hi => (g1 i (Nat.lt_of_lt_of_le hi hk)).trans (ha i hi)) (Nat.le_trans hk g2) k3 (aw_back g4 hvm hF) (aw_Lv_to hl g1 g2) (fun w hw9 => by
      rcases List.mem_append.mp hw9 with z | z
      · exact g3 w (Option.mem_toList.mp z)
      · exact aw_ok_le (hs w z) g2)
    rw [List.map_append, aw_map_to hs g1] at hW
    have e5 : v'.toList.map (aw_cv ad') = (v'.map (aw_cv ad')).toList := by cases v' <;> rfl
    rw [e5] at hW
    obtain ⟨t2, a1, b1⟩ := hW T' rfl X'
    exact ⟨t2, st t2 a1, b1⟩
  · obtain ⟨k1, k2, k3⟩ := vx_keep h0 e1 hS (fun q _ z => hF q z) hF hL hFr
    rw [← e1] at g4
    have hvm : s.vm.Alike t.vm := by rw [← e2]; exact X'.warmed.alike
    obtain ⟨t2, a1, b1⟩ := KX E h' k' hR l D cT p e s m args below meth c ad0 ad' A T'.heap (locs ++ Lc) ls q ce (S'.map (aw_cv ad)) hC (fun i hi => (g1 i (Nat.lt_of_lt_of_le hi hk)).trans (ha i hi)) (Nat.le_trans hk g2) k3 (aw_back g4 hvm hF) (aw_Lv_to hl g1 g2) (by rw [e1]; exact hce) hcv hcl T' rfl X'
    exact ⟨t2, st.trans a1, b1⟩
/-- what the tables say of a method that is called: no handlers, its code, its class, so many parameters -/
def aw_mok (μ' : Mt) (n : Nat) : Prop := μ'.2.2.2.2 = [] ∧ aw_cw μ' ∈ lw_tbl ∧ Cond.initialized μ'.1.cls ∈ lw_tbl ∧ (μ'.1.cls ≠ "java/lang/invoke/MethodHandle" ∧ μ'.1.cls ≠ "java/lang/invoke/VarHandle") ∧ (parseMethodDescriptor μ'.1.desc).map (fun d => d.parameters.length) = some n ∧ μ'.2.2.1 ≤ 22
theorem aw_callB {μ' : Mt} {d' n index mc' ms' : Nat} {s : State} {args : Array Value} {A : Nat → Prop} (hm : aw_mok μ' n) (hg : aw_GF A s) (hd : d' + 1 ≤ d) (hlink : (Cond.methodLink μ.1.cls index μ'.1).before args s = true) :
    CallB (aw_R d mc ms) s args μ.1.cls index μ'.1 μ'.2.1 μ'.2.2.1 μ'.2.2.2.1 [aw_cw μ'] (aw_R d' mc' ms') mc' ms' n := by
  obtain ⟨m1, m2, m3, m4, m5, m6⟩ := hm
  have hcw : aw_cw μ' = .code μ'.1 μ'.2.1 μ'.2.2.1 μ'.2.2.2.1 := by unfold aw_cw; rw [m1]
  refine ⟨rfl, rfl, ?_, ?_, fun w hw a' U hW => ?_, ?_, ?_, aw_hts hg m3 rfl, m4, fun sig h => ?_, hlink⟩
  · show d' + 20 + 1 ≤ d + 20; omega
  · show 8 + (μ'.2.2.1 + 11) + (41 * d' + 852) ≤ 41 * d + 852; omega
  · rw [List.mem_singleton] at hw
    rw [hw]
    exact aw_stable (by rw [hcw]; rfl) hW (hg.1 _ m2 (by rw [hcw]; rfl))
  · rw [hcw]; exact List.mem_singleton.mpr rfl
  · rw [← hcw]; exact aw_hts hg m2 (by rw [hcw]; rfl)
  · rw [h] at m5; exact (Option.some.inj m5).symm
theorem aw_stW {S' : List Value} {ad : Nat → Nat} {m : MethodId} {ls : Array Slot} {st0 : List Value} (h : (S'.map fun v => v.category).sum ≤ 8) : 2 * (F0 m pc ls st0).monitorRoom + ((S'.map (aw_cv ad)).map fun v => v.category).sum ≤ 8 := by
  have e : ((S'.map (aw_cv ad)).map fun v => v.category) = S'.map fun v => v.category := by
    rw [List.map_map]
    exact List.map_congr_left fun v _ => aw_cat ad v
  rw [e]
  exact lv_room h
theorem aw_rev {as S' : List Value} {ad : Nat → Nat} (hS : S = as.reverse ++ S') : S.map (aw_cv ad) = (as.map (aw_cv ad)).reverse ++ S'.map (aw_cv ad) := by
  rw [hS, List.map_append, List.map_reverse]
theorem AW.callS {μ' : Mt} {d' mc' ms' index n : Nat} {as S' : List Value} {R : Po} (hd : decode μ.2.1 pc = .ok (.invokestatic index, 3)) (hM : AM μ' d' as h k mc' ms' R) (hm : aw_mok μ' n) (hst : Cond.static μ'.1 ∈ lw_tbl) (hlink : Cond.methodLink μ.1.cls index μ'.1 ∈ lw_tbl) (hn : as.length = n) (hd' : d' + 1 ≤ d) (hS2 : S = as.reverse ++ S') (hcat : (S'.map fun v => v.category).sum ≤ 8) (hcs : cs + mc' ≤ mc) (hss : ss + ms' ≤ ms)
    (K : ∀ (v : Option Value) (h' : Hp) (k' : Nat), R (.inl v) h' k' → AW Z μ d k0 mc ms Q (pc + 3) L (v.toList ++ S') h' k' (cs + mc') (ss + ms'))
    (KX : ∀ (E : String) (h' : Hp) (k' : Nat), R (.inr E) h' k' → AX Z μ d k0 mc ms Q E pc L h' k' (cs + mc') (ss + ms')) : AW Z μ d k0 mc ms Q pc L S h k cs ss := by
  intro l D cT p e s m args below meth c ad0 ad A H locs ls hC ha hk hS hw hl hs
  have hg := hC.2.2.2.2.2.2.2.2.2.1
  have hok : ∀ v ∈ as, aw_ok k v := fun v hv => hs v (by rw [hS2]; exact List.mem_append_left _ (List.mem_reverse.mpr hv))
  have hok2 : ∀ v ∈ S', aw_ok k v := fun v hv => hs v (by rw [hS2]; exact List.mem_append_right _ hv)
  have hr := vx_runS (e := e) (below := below) (meth := meth) (As := as.map (aw_cv ad)) (rest := S'.map (aw_cv ad)) (Ts := []) (locs := locs) (cells := cs) (slots := ss) (g := F0 m pc ls (S.map (aw_cv ad))) (nL := μ.2.2.1) ⟨hC.2.1, hC.2.2.1, hC.2.2.2.1, hC.2.2.2.2.2.2.2.1, fun w h => nomatch h⟩ (hM l D cT ad H.size hC.1) ⟨aw_callB (μ := μ) (d := d) (mc := mc) (ms := ms) (d' := d') (mc' := mc') (ms' := ms') hm hg hd' (aw_hts hg hlink rfl), aw_hts (args := args) hg hst rfl⟩ ⟨aw_blind, aw_pre hw hS hC.2.2.2.2.2.2.2.2.2.2.1 hg hok⟩
    rfl (by rw [List.length_map]; exact hn) hl.1 (aw_rev hS2) (aw_stW hcat) hd ⟨hcs, hss⟩
  exact aw_run hr hC ha hk hS hw hl hok2 K KX
theorem AW.callV {μ' : Mt} {d' mc' ms' index n i ci : Nat} {q : vw_C} {fs as S' : List Value} {R : Po} (hd : decode μ.2.1 pc = .ok (.invokevirtual index, 3)) (hM : AM μ' d' (.ref i :: as) h k mc' ms' R) (hm : aw_mok μ' n) (hin : Cond.instanceMethod μ'.1 ∈ lw_tbl) (hsel : Cond.selects μ'.1.cls μ'.1 μ'.1 ∈ lw_tbl) (hlink : Cond.methodLink μ.1.cls index μ'.1 ∈ lw_tbl)
    (h0 : 0 < i) (hh : h i = .inr (ci, fs)) (hc : aw_cl[ci]? = some q) (hq : q.1 = μ'.1.cls) (hn : as.length = n) (hd' : d' + 1 ≤ d) (hS2 : S = as.reverse ++ .ref i :: S') (hcat : (S'.map fun v => v.category).sum ≤ 8) (hcs : cs + mc' ≤ mc) (hss : ss + ms' ≤ ms)
    (K : ∀ (v : Option Value) (h' : Hp) (k' : Nat), R (.inl v) h' k' → AW Z μ d k0 mc ms Q (pc + 3) L (v.toList ++ S') h' k' (cs + mc') (ss + ms'))
    (KX : ∀ (E : String) (h' : Hp) (k' : Nat), R (.inr E) h' k' → AX Z μ d k0 mc ms Q E pc L h' k' (cs + mc') (ss + ms')) : AW Z μ d k0 mc ms Q pc L S h k cs ss := by
  intro l D cT p e s m args below meth c ad0 ad A H locs ls hC ha hk hS hw hl hs
  have hg := hC.2.2.2.2.2.2.2.2.2.1
  have hik : i < k := hs (.ref i) (by rw [hS2]; exact List.mem_append_right _ List.mem_cons_self)
  have hok : ∀ v ∈ Value.ref i :: as, aw_ok k v := fun v hv => by
    rcases List.mem_cons.mp hv with rfl | hv
    · exact hik
    · exact hs v (by rw [hS2]; exact List.mem_append_left _ (List.mem_reverse.mpr hv))
  have hok2 : ∀ v ∈ S', aw_ok k v := fun v hv => hs v (by rw [hS2]; exact List.mem_append_right _ (List.mem_cons_of_mem _ hv))
  have hr := vx_runV (e := e) (below := below) (meth := meth) (As := as.map (aw_cv ad)) (rest := S'.map (aw_cv ad)) (b := ad i) (C := μ'.1.cls) (Ts := []) (locs := locs) (cells := cs) (slots := ss) (g := F0 m pc ls (S.map (aw_cv ad))) (nL := μ.2.2.1) ⟨hC.2.1, hC.2.2.1, hC.2.2.2.1, hC.2.2.2.2.2.2.2.1, fun w h => nomatch h⟩ (hM l D cT ad H.size hC.1) ⟨aw_callB (μ := μ) (d := d) (mc := mc) (ms := ms) (d' := d') (mc' := mc') (ms' := ms') hm hg hd' (aw_hts hg hlink rfl), aw_hts (args := args) hg hin rfl, aw_hts hg hsel rfl⟩
    ⟨aw_blind, by rw [← hq]; exact va_recv hw.2.2.1 hw.1 hc (aw_at_obj h0 hik hh), aw_pre hw hS hC.2.2.2.2.2.2.2.2.2.2.1 hg hok⟩
    rfl (by rw [List.length_map]; exact hn) hl.1 (by show S.map _ = _; rw [hS2, List.map_append, List.map_reverse]; rfl) (aw_stW hcat) hd ⟨hcs, hss⟩
  exact aw_run hr hC ha hk hS hw hl hok2 K KX
/-- a callee that never throws -/
theorem aw_met {l : Launch} {y : MethodName} {ws : List Cond} {rm : Room} {Pc : Array Value → State → Prop} {Qc : Array Value → State → Outcome → State → Prop} {XC : String → State → State → Prop} {mc ms : Nat} {free : Addr → Prop} (hM : vx_Met l y ws rm Pc Qc XC mc ms free) (hX : ∀ E st t, ¬ XC E st t) : Met l y ws rm Pc Qc mc ms free := by
  intro p e ha hc hk s m args below hf happ hP hK
  obtain ⟨n, o, h1, h2, h3, h4⟩ := hM p e ha hc hk s m args below hf happ hP hK
  rcases h4 with h4 | ⟨q, rfl, E, ce, L, hx, -⟩
  · exact ⟨n, o, h1, h2, h3, h4⟩
  · exact absurd hx (hX _ _ _)
theorem aw_unrun {l : Launch} {p : Program} {e : Env} {R : Room} {s : State} {m : MethodId} {args : Array Value} {below : List Frame} {meth : Method} {c : Code} {H : Heap} {locs : List Loc} {cells slots mc ms : Nat} {g : JFrame} {rest : List Value} {Qa : State → Outcome → State → Prop} {XC : String → State → State → Prop} {free : Addr → Prop}
    (hr : va_Run p l e R s m args below meth c H locs cells slots mc ms g rest Qa free) : vx_Run p l e R s m args below meth c H locs cells slots mc ms g rest Qa XC free := fun T hT X => Or.inl (hr T hT X)
theorem AW.callI {μ' : Mt} {d' mc' ms' index n i : Nat} {as S' : List Value} {R : Po} (hd : decode μ.2.1 pc = .ok (.invokespecial index, 3)) (hM : AM μ' d' (.ref i :: as) h k mc' ms' R) (hm : aw_mok μ' n) (hin : Cond.instanceMethod μ'.1 ∈ lw_tbl) (hnm : μ'.1.name = "<init>") (hret : μ'.2.2.2.1 = none) (hlink : Cond.methodLink μ.1.cls index μ'.1 ∈ lw_tbl)
    (hn : as.length = n) (hd' : d' + 1 ≤ d) (hS2 : S = as.reverse ++ .ref i :: S') (hcat : (S'.map fun v => v.category).sum ≤ 8) (hcs : cs + mc' ≤ mc) (hss : ss + ms' ≤ ms) (hX : ∀ E h' k', ¬ R (.inr E) h' k')
    (K : ∀ (v : Option Value) (h' : Hp) (k' : Nat), R (.inl v) h' k' → AW Z μ d k0 mc ms Q (pc + 3) L (v.toList ++ S') h' k' (cs + mc') (ss + ms')) : AW Z μ d k0 mc ms Q pc L S h k cs ss := by
  intro l D cT p e s m args below meth c ad0 ad A H locs ls hC ha hk hS hw hl hs
  have hg := hC.2.2.2.2.2.2.2.2.2.1
  have hik : i < k := hs (.ref i) (by rw [hS2]; exact List.mem_append_right _ List.mem_cons_self)
  have hok : ∀ v ∈ Value.ref i :: as, aw_ok k v := fun v hv => by
    rcases List.mem_cons.mp hv with rfl | hv
    · exact hik
    · exact hs v (by rw [hS2]; exact List.mem_append_left _ (List.mem_reverse.mpr hv))
  have hok2 : ∀ v ∈ S', aw_ok k v := fun v hv => hs v (by rw [hS2]; exact List.mem_append_right _ (List.mem_cons_of_mem _ hv))
  have hMM := aw_met (hM l D cT ad H.size hC.1) (fun E st t hx => by obtain ⟨⟨h', k', ad', hx, -⟩, -⟩ := hx; exact hX _ _ _ hx)
  have hcb := aw_callB (μ := μ) (d := d) (mc := mc) (ms := ms) (d' := d') (mc' := mc') (ms' := ms') hm hg hd' (aw_hts (args := args) hg hlink rfl)
  rw [hret] at hcb
  have hr := va_runI (e := e) (below := below) (meth := meth) (As := as.map (aw_cv ad)) (rest := S'.map (aw_cv ad)) (b := ad i) (Ts := []) (locs := locs) (cells := cs) (slots := ss) (g := F0 m pc ls (S.map (aw_cv ad))) (nL := μ.2.2.1) ⟨hC.2.1, hC.2.2.1, hC.2.2.2.1, hC.2.2.2.2.2.2.2.1, fun w h => nomatch h⟩ hMM ⟨hcb, hnm, aw_hts hg hin rfl⟩
    ⟨aw_blind, aw_pre hw hS hC.2.2.2.2.2.2.2.2.2.2.1 hg hok⟩
    rfl (by rw [List.length_map]; exact hn) hl.1 (by show S.map _ = _; rw [hS2, List.map_append, List.map_reverse]; rfl) (aw_stW hcat) hd ⟨hcs, hss⟩
  exact aw_run (aw_unrun hr) hC ha hk hS hw hl hok2 K (fun E h' k' hx => absurd hx (hX _ _ _))
end Rows4
end
section
/-! AW: methods with handlers, nest mates, throws, Object.<init>, System.arraycopy -/
set_option maxHeartbeats 4000000 in
theorem AM.introH {μ : Mt} {d n : Nat} {as L : List Value} {h : Hp} {k mc ms : Nat} {Q : Po} (hy : plainName μ.1.cls = true) (hcw : aw_cw μ = .codeWith μ.1 μ.2.1 μ.2.2.1 μ.2.2.2.1 μ.2.2.2.2) (hn : (aw_loc as).length + n = μ.2.2.1) (hL : aw_loc as ++ List.replicate n .null = L)
    (K : AW aw_Z0 μ d k mc ms Q 0 L [] h k 0 0) : AM μ d as h k mc ms Q := by
  intro l D cT ad sz hl
  refine vx_ofWH (cc := μ.2.1) (maxL := μ.2.2.1) (ret := μ.2.2.2.1) (hh := μ.2.2.2.2) (ws' := []) hy (by rw [hcw]) ?_
  intro p e s m args below meth c s₁ B hml hv
  obtain ⟨rfl, hsz, hok, hw, hg⟩ := hv
  subst hsz
  have hnm := (name_of_methodNamed B.named B.method).1
  have htb := vx_table (x := μ.1) B (atoms_spec (ws := [aw_cw μ]) B.pre (.codeWith μ.1 μ.2.1 μ.2.2.1 μ.2.2.2.1 μ.2.2.2.2) (by rw [hcw]; exact List.mem_cons_self))
  rw [lg_entry_eq]
  exact K l D cT p e s m _ below meth c ad ad _ s.heap [] _ ⟨hl, B.exec, B.bytes, hml, B.returns, B.notSynchronized, hnm, findClass_of_methodNamed B.named, htb, hg, fun q hq => Or.inr hq, trivial⟩ (fun _ _ => rfl) (Nat.le_refl _) va_S.rf hw (aw_entry hn hL hok) (fun v hv => nomatch hv)
section Rows5
variable {Z : Gz} {μ : Mt} {d k0 mc ms : Nat} {Q : Po} {pc : Nat} {L S : List Value} {h : Hp} {k cs ss : Nat}
def aw_mokH (μ' : Mt) (n : Nat) : Prop := aw_cw μ' = .codeWith μ'.1 μ'.2.1 μ'.2.2.1 μ'.2.2.2.1 μ'.2.2.2.2 ∧ aw_cw μ' ∈ lw_tbl ∧ Cond.initialized μ'.1.cls ∈ lw_tbl ∧ (μ'.1.cls ≠ "java/lang/invoke/MethodHandle" ∧ μ'.1.cls ≠ "java/lang/invoke/VarHandle") ∧ (parseMethodDescriptor μ'.1.desc).map (fun d => d.parameters.length) = some n ∧ μ'.2.2.1 ≤ 22
theorem AW.callSH {μ' : Mt} {d' mc' ms' index n : Nat} {as S' : List Value} {R : Po} (hd : decode μ.2.1 pc = .ok (.invokestatic index, 3)) (hM : AM μ' d' as h k mc' ms' R) (hm : aw_mokH μ' n) (hst : Cond.static μ'.1 ∈ lw_tbl) (hlink : Cond.methodLink μ.1.cls index μ'.1 ∈ lw_tbl) (hn : as.length = n) (hd' : d' + 1 ≤ d) (hS2 : S = as.reverse ++ S') (hcat : (S'.map fun v => v.category).sum ≤ 8) (hcs : cs + mc' ≤ mc) (hss : ss + ms' ≤ ms)
    (K : ∀ (v : Option Value) (h' : Hp) (k' : Nat), R (.inl v) h' k' → AW Z μ d k0 mc ms Q (pc + 3) L (v.toList ++ S') h' k' (cs + mc') (ss + ms'))
    (KX : ∀ (E : String) (h' : Hp) (k' : Nat), R (.inr E) h' k' → AX Z μ d k0 mc ms Q E pc L h' k' (cs + mc') (ss + ms')) : AW Z μ d k0 mc ms Q pc L S h k cs ss := by
  intro l D cT p e s m args below meth c ad0 ad A H locs ls hC ha hk hS hw hl hs
  have hg := hC.2.2.2.2.2.2.2.2.2.1
  have hok : ∀ v ∈ as, aw_ok k v := fun v hv => hs v (by rw [hS2]; exact List.mem_append_left _ (List.mem_reverse.mpr hv))
  have hok2 : ∀ v ∈ S', aw_ok k v := fun v hv => hs v (by rw [hS2]; exact List.mem_append_right _ hv)
  obtain ⟨m1, m2, m3, m4, m5, m6⟩ := hm
  have hcw : vx_CSW (aw_R d mc ms) s args μ.1.cls index μ'.1 μ'.2.1 μ'.2.2.1 μ'.2.2.2.1 μ'.2.2.2.2 [aw_cw μ'] (aw_R d' mc' ms') mc' ms' n := by
    refine ⟨⟨rfl, rfl, ?_, ?_, fun w hw a' U hW => ?_, ?_⟩, ?_, aw_hts hg m3 rfl, m4, fun sig h => ?_, aw_hts hg hlink rfl, aw_hts hg hst rfl⟩
    · show d' + 20 + 1 ≤ d + 20; omega
    · show 8 + (μ'.2.2.1 + 11) + (41 * d' + 852) ≤ 41 * d + 852; omega
    · rw [List.mem_singleton] at hw
      rw [hw]
      exact aw_stable (by rw [m1]; rfl) hW (hg.1 _ m2 (by rw [m1]; rfl))
    · rw [m1]; exact List.mem_singleton.mpr rfl
    · rw [← m1]; exact aw_hts hg m2 (by rw [m1]; rfl)
    · rw [h] at m5; exact (Option.some.inj m5).symm
  have hr := vx_runSX (e := e) (below := below) (meth := meth) (As := as.map (aw_cv ad)) (rest := S'.map (aw_cv ad)) (Ts := []) (locs := locs) (cells := cs) (slots := ss) (g := F0 m pc ls (S.map (aw_cv ad))) (nL := μ.2.2.1) ⟨hC.2.1, hC.2.2.1, hC.2.2.2.1, hC.2.2.2.2.2.2.2.1, fun w h => nomatch h⟩ (hM l D cT ad H.size hC.1) hcw ⟨aw_blind, aw_pre hw hS hC.2.2.2.2.2.2.2.2.2.2.1 hg hok⟩
    rfl (by rw [List.length_map]; exact hn) hl.1 (aw_rev hS2) (aw_stW hcat) hd ⟨hcs, hss⟩
  exact aw_run hr hC ha hk hS hw hl hok2 K KX
theorem aw_callN {μ' : Mt} {d' n index mc' ms' : Nat} {host : String} {s : State} {args : Array Value} {A : Nat → Prop} (hm : aw_mok μ' n) (hg : aw_GF A s) (hd : d' + 1 ≤ d) (hlink : (Cond.methodLinkNest μ.1.cls index μ'.1 host).before args s = true) :
    va_CN (aw_R d mc ms) s args μ.1.cls index μ'.1 host μ'.2.1 μ'.2.2.1 μ'.2.2.2.1 [aw_cw μ'] (aw_R d' mc' ms') mc' ms' n := by
  obtain ⟨m1, m2, m3, m4, m5, m6⟩ := hm
  have hcw : aw_cw μ' = .code μ'.1 μ'.2.1 μ'.2.2.1 μ'.2.2.2.1 := by unfold aw_cw; rw [m1]
  refine ⟨⟨rfl, rfl, ?_, ?_, fun w hw a' U hW => ?_, ?_⟩, ?_, aw_hts hg m3 rfl, m4, fun sig h => ?_, hlink⟩
  · show d' + 20 + 1 ≤ d + 20; omega
  · show 8 + (μ'.2.2.1 + 11) + (41 * d' + 852) ≤ 41 * d + 852; omega
  · rw [List.mem_singleton] at hw
    rw [hw]
    exact aw_stable (by rw [hcw]; rfl) hW (hg.1 _ m2 (by rw [hcw]; rfl))
  · rw [hcw]; exact List.mem_singleton.mpr rfl
  · rw [← hcw]; exact aw_hts hg m2 (by rw [hcw]; rfl)
  · rw [h] at m5; exact (Option.some.inj m5).symm
theorem AW.callSN {μ' : Mt} {d' mc' ms' index n : Nat} {host : String} {as S' : List Value} {R : Po} (hd : decode μ.2.1 pc = .ok (.invokestatic index, 3)) (hM : AM μ' d' as h k mc' ms' R) (hm : aw_mok μ' n) (hst : Cond.static μ'.1 ∈ lw_tbl) (hlink : Cond.methodLinkNest μ.1.cls index μ'.1 host ∈ lw_tbl) (hn : as.length = n) (hd' : d' + 1 ≤ d) (hS2 : S = as.reverse ++ S') (hcat : (S'.map fun v => v.category).sum ≤ 8) (hcs : cs + mc' ≤ mc) (hss : ss + ms' ≤ ms) (hX : ∀ E h' k', ¬ R (.inr E) h' k')
    (K : ∀ (v : Option Value) (h' : Hp) (k' : Nat), R (.inl v) h' k' → AW Z μ d k0 mc ms Q (pc + 3) L (v.toList ++ S') h' k' (cs + mc') (ss + ms')) : AW Z μ d k0 mc ms Q pc L S h k cs ss := by
  intro l D cT p e s m args below meth c ad0 ad A H locs ls hC ha hk hS hw hl hs
  have hg := hC.2.2.2.2.2.2.2.2.2.1
  have hok : ∀ v ∈ as, aw_ok k v := fun v hv => hs v (by rw [hS2]; exact List.mem_append_left _ (List.mem_reverse.mpr hv))
  have hok2 : ∀ v ∈ S', aw_ok k v := fun v hv => hs v (by rw [hS2]; exact List.mem_append_right _ hv)
  have hMM := aw_met (hM l D cT ad H.size hC.1) (fun E st t hx => by obtain ⟨⟨h', k', ad', hx, -⟩, -⟩ := hx; exact hX _ _ _ hx)
  have hr := va_runSN (e := e) (below := below) (meth := meth) (As := as.map (aw_cv ad)) (rest := S'.map (aw_cv ad)) (Ts := []) (locs := locs) (cells := cs) (slots := ss) (g := F0 m pc ls (S.map (aw_cv ad))) (nL := μ.2.2.1) ⟨hC.2.1, hC.2.2.1, hC.2.2.2.1, hC.2.2.2.2.2.2.2.1, fun w h => nomatch h⟩ hMM ⟨aw_callN (μ := μ) (d := d) (mc := mc) (ms := ms) (d' := d') (mc' := mc') (ms' := ms') hm hg hd' (aw_hts (args := args) hg hlink rfl), aw_hts (args := args) hg hst rfl, trivial⟩ ⟨aw_blind, aw_pre hw hS hC.2.2.2.2.2.2.2.2.2.2.1 hg hok⟩
    rfl (by rw [List.length_map]; exact hn) hl.1 (aw_rev hS2) (aw_stW hcat) hd ⟨hcs, hss⟩
  exact aw_run (aw_unrun hr) hC ha hk hS hw hl hok2 K (fun E h' k' hx => absurd hx (hX _ _ _))
theorem AW.callIN {μ' : Mt} {d' mc' ms' index n i : Nat} {host : String} {as S' : List Value} {R : Po} (hd : decode μ.2.1 pc = .ok (.invokespecial index, 3)) (hM : AM μ' d' (.ref i :: as) h k mc' ms' R) (hm : aw_mok μ' n) (hin : Cond.instanceMethod μ'.1 ∈ lw_tbl) (hnm : μ'.1.name = "<init>") (hret : μ'.2.2.2.1 = none) (hlink : Cond.methodLinkNest μ.1.cls index μ'.1 host ∈ lw_tbl)
    (hn : as.length = n) (hd' : d' + 1 ≤ d) (hS2 : S = as.reverse ++ .ref i :: S') (hcat : (S'.map fun v => v.category).sum ≤ 8) (hcs : cs + mc' ≤ mc) (hss : ss + ms' ≤ ms) (hX : ∀ E h' k', ¬ R (.inr E) h' k')
    (K : ∀ (v : Option Value) (h' : Hp) (k' : Nat), R (.inl v) h' k' → AW Z μ d k0 mc ms Q (pc + 3) L (v.toList ++ S') h' k' (cs + mc') (ss + ms')) : AW Z μ d k0 mc ms Q pc L S h k cs ss := by
  intro l D cT p e s m args below meth c ad0 ad A H locs ls hC ha hk hS hw hl hs
  have hg := hC.2.2.2.2.2.2.2.2.2.1
  have hik : i < k := hs (.ref i) (by rw [hS2]; exact List.mem_append_right _ List.mem_cons_self)
  have hok : ∀ v ∈ Value.ref i :: as, aw_ok k v := fun v hv => by
    rcases List.mem_cons.mp hv with rfl | hv
    · exact hik
    · exact hs v (by rw [hS2]; exact List.mem_append_left _ (List.mem_reverse.mpr hv))
  have hok2 : ∀ v ∈ S', aw_ok k v := fun v hv => hs v (by rw [hS2]; exact List.mem_append_right _ (List.mem_cons_of_mem _ hv))
  have hMM := aw_met (hM l D cT ad H.size hC.1) (fun E st t hx => by obtain ⟨⟨h', k', ad', hx, -⟩, -⟩ := hx; exact hX _ _ _ hx)
  have hcb := aw_callN (μ := μ) (d := d) (mc := mc) (ms := ms) (d' := d') (mc' := mc') (ms' := ms') hm hg hd' (aw_hts (args := args) hg hlink rfl)
  rw [hret] at hcb
  have hr := va_runIN (e := e) (below := below) (meth := meth) (As := as.map (aw_cv ad)) (rest := S'.map (aw_cv ad)) (b := ad i) (Ts := []) (locs := locs) (cells := cs) (slots := ss) (g := F0 m pc ls (S.map (aw_cv ad))) (nL := μ.2.2.1) ⟨hC.2.1, hC.2.2.1, hC.2.2.2.1, hC.2.2.2.2.2.2.2.1, fun w h => nomatch h⟩ hMM ⟨hcb, hnm, aw_hts hg hin rfl⟩
    ⟨aw_blind, aw_pre hw hS hC.2.2.2.2.2.2.2.2.2.2.1 hg hok⟩
    rfl (by rw [List.length_map]; exact hn) hl.1 (by show S.map _ = _; rw [hS2, List.map_append, List.map_reverse]; rfl) (aw_stW hcat) hd ⟨hcs, hss⟩
  exact aw_run (aw_unrun hr) hC ha hk hS hw hl hok2 K (fun E h' k' hx => absurd hx (hX _ _ _))
theorem AW.objInit {i index : Nat} (hd : decode μ.2.1 pc = .ok (.invokespecial index, 3)) (hlink : Cond.methodLink μ.1.cls index objectInit ∈ lw_tbl) (hin : Cond.instanceMethod objectInit ∈ lw_tbl) (hcode : Cond.code objectInit ⟨#[0xb1]⟩ 1 none ∈ lw_tbl) (hcat : (S.map fun v => v.category).sum ≤ 8)
    (K : AW Z μ d k0 mc ms Q (pc + 3) L S h k cs ss) : AW Z μ d k0 mc ms Q pc L (.ref i :: S) h k cs ss := by
  intro l D cT p e s m args below meth c ad0 ad A H locs ls hC ha hk hS hw hl hs
  have hg := hC.2.2.2.2.2.2.2.2.2.1
  have h8 := aw_stW (m := m) (pc := pc) (ls := ls) (st0 := []) (ad := ad) hcat
  refine W.objInit hC.2.1 hC.2.2.1 hC.2.2.2.2.2.2.2.1 (aw_hts hg hlink rfl) (aw_hts hg hin rfl) (aw_hts hg hcode rfl) rfl (by rw [hC.2.2.2.1]; exact hl.1) rfl hd (by show 1 ≤ d + 20; omega) ?_ ?_
  · have h9 : 2 * (F0 m pc ls []).monitorRoom + ((S.map (aw_cv ad)).map fun v => v.category).sum ≤ 8 := h8
    show 2 * (F0 m pc ls []).monitorRoom + ((S.map (aw_cv ad)).map fun v => v.category).sum + 12 ≤ 41 * d + 852
    omega
  · exact K l D cT p e s m args below meth c ad0 ad A H locs ls hC ha hk hS hw hl (aw_ok_tail hs)
/-- 'throw new E("text")', E one of the three, in a method without handlers -/
theorem AW.throwS {E text : String} {names : List String} {ik is ic : Nat} (d0 : decode μ.2.1 pc = .ok (.new ik, 3)) (d3 : decode μ.2.1 (pc + 3) = .ok (.dup, 1)) (d4 : decode μ.2.1 (pc + 4) = .ok (.ldc is, 2)) (d6 : decode μ.2.1 (pc + 6) = .ok (.invokespecial ic, 3)) (d9 : decode μ.2.1 (pc + 9) = .ok (.athrow, 1))
    (hh : μ.2.2.2.2 = []) (hfit : Bundle.fit E = true) (hnames : ∀ n ∈ names, Bundle.fit n = true) (hlen : names.length = 2) (hk : Cond.classLink μ.1.cls ik E ∈ lw_tbl) (hini : Cond.initialized E ∈ lw_tbl) (hstr : (μ.1.cls, is, text) ∈ aw_str) (hat : ∀ w ∈ vx_atS μ.1.cls ic E names, w ∈ lw_tbl ∧ aw_okw w = true)
    (hgood : ∀ w ∈ Cond.classLink μ.1.cls ik E :: Cond.initialized E :: vx_atS μ.1.cls ic E names, vx_ot w = true) (hcat : (S.map fun v => v.category).sum ≤ 8) (hcs : cs + 1 ≤ mc) (hss : ss + 6 ≤ ms) (q : Q (.inr E) h k) : AW Z μ d k0 mc ms Q pc L S h k cs ss := by
  intro l D cT p e s m args below meth c ad0 ad A H locs ls hC ha hk2 hS hw hl hs
  have hg := hC.2.2.2.2.2.2.2.2.2.1
  obtain ⟨sa, hsa⟩ := hg.2.1 _ hstr
  have hcat2 : ((S.map (aw_cv ad)).map fun v => v.category).sum ≤ 8 := by
    have e : ((S.map (aw_cv ad)).map fun v => v.category) = S.map fun v => v.category := by
      rw [List.map_map]
      exact List.map_congr_left fun v _ => aw_cat ad v
    rw [e]; exact hcat
  refine vx_throwS (own := μ.1.cls) (cls := E) (names := names) (text := text) (sa := sa) (ik := ik) (is := is) (ic := ic) (A := A) hC.2.1 hC.2.2.1 hC.1 hC.2.2.2.2.2.2.2.1 hfit hnames (aw_hts hg hk rfl) (aw_hts hg hini rfl) hsa (fun w hw => aw_hts hg (hat w hw).1 (hat w hw).2) hgood hg.2.2.2.1 hg.2.2.2.2.1 hS (by rw [hC.2.2.2.1]; exact hl.1) d0 d3 d4 d6 d9 (fun x hx => ?_)
    (by show names.length + 3 < d + 20; omega) (by show _ + (13 * (names.length + 1) + 43) ≤ 41 * d + 852; omega) hcs hss hC.2.2.2.2.2.1 (fun t hvm hz ho => ⟨⟨h, k, ad, q, ha, hk2, ?_⟩, ?_⟩) hS.2.2 hcs hss
  · rw [hC.2.2.2.2.2.2.2.2.1, hh] at hx; cases hx
  · exact ⟨hw.1.kept (fun j x hx => ho x.1 ((hw.1 j x hx).lt)), hw.2.1, hw.2.2.1.moved hvm, hw.2.2.2⟩
  · exact ⟨Nat.le_trans hS.1 hz, fun x h1 h2 => (ho x (Nat.lt_of_lt_of_le h1 hS.1)).trans (hS.2.1 x h1 h2)⟩
theorem AW.copyi {i j n0 n1 index : Nat} {f g : Nat → Int32} {sp dp n : Int32} (hd : decode μ.2.1 pc = .ok (.invokestatic index, 3)) (hlink : Cond.methodLink μ.1.cls index arraycopyName ∈ lw_tbl) (hnat : Cond.native arraycopyName ∈ lw_tbl) (hst : Cond.static arraycopyName ∈ lw_tbl) (hini : Cond.initialized "java/lang/System" ∈ lw_tbl)
    (i0 : 0 < i) (j0 : 0 < j) (hi : h i = .inl (.int, n0, .inl f)) (hj : h j = .inl (.int, n1, .inl g)) (h1 : ¬ sp < 0) (h2 : ¬ dp < 0) (h3 : ¬ n < 0) (h4 : sp.toNatClampNeg + n.toNatClampNeg ≤ n0) (h5 : dp.toNatClampNeg + n.toNatClampNeg ≤ n1) (hcat : (S.map fun v => v.category).sum ≤ 8)
    (K : AW Z μ d k0 mc ms Q (pc + 3) L S (va_up h j (.inl (.int, n1, .inl (va_cpy f g sp.toNatClampNeg dp.toNatClampNeg n.toNatClampNeg)))) k cs ss) : AW Z μ d k0 mc ms Q pc L (.int n :: .int dp :: .ref j :: .int sp :: .ref i :: S) h k cs ss := by
  intro l D cT p e s m args below meth c ad0 ad A H locs ls hC ha hk hS hw hl hs
  have hg := hC.2.2.2.2.2.2.2.2.2.1
  have hjk : j < k := hs (.ref j) (by simp)
  have hik : i < k := hs (.ref i) (by simp)
  have hcat2 : ((S.map (aw_cv ad)).map fun v => v.category).sum ≤ 8 := by
    have e : ((S.map (aw_cv ad)).map fun v => v.category) = S.map fun v => v.category := by
      rw [List.map_map]
      exact List.map_congr_left fun v _ => aw_cat ad v
    rw [e]; exact hcat
  have hnw : nativeFrameWords "java/lang/System" "arraycopy" 5 + 11 ≤ 100 := by decide
  exact va_copyi hC.2.1 hC.2.2.1 (by rw [hC.2.2.2.1]; exact hl.1.symm) hC.2.2.2.2.2.2.2.1 (aw_hts hg hlink rfl) (aw_hts hg hnat rfl) (aw_hts hg hst rfl) (aw_hts hg hini rfl) hw.2.2.1 hw.1 hw.2.1 hS (i - 1) (j - 1) 0 0 (aw_at_arr i0 hik hi) (aw_at_arr j0 hjk hj) rfl rfl rfl h1 h2 h3 h4 h5 (fun _ _ => rfl)
    (by show 1 ≤ d + 20; omega) (by show _ + _ ≤ 41 * d + 852; omega) hd (fun H1 locs1 hP hD hS1 => K l D cT p e s m args below meth c ad0 ad A H1 locs1 ls hC ha hk hS1 (aw_Wo_set (e := .inl (.int, n1, .inl (va_cpy f g sp.toNatClampNeg dp.toNatClampNeg n.toNatClampNeg))) hw j0 hjk trivial hP hD) hl (aw_ok_tail (aw_ok_tail (aw_ok_tail (aw_ok_tail (aw_ok_tail hs))))))
end Rows5
end
section
/-! AW: rows of rows of ints, further instructions, calls of methods with handlers -/
abbrev qrow (n : Nat) (f : Nat → Option Nat) : Ce := .inl (.array .int, n, .inr (.inr (.inr (.inr f))))
abbrev irow (n : Nat) (g : Nat → Int32) : Ce := .inl (.int, n, .inl g)
theorem aw_q0 : Cond.arrayOver (.array .int) ∈ lw_tbl := by decide +kernel
theorem aw_asg (vm : Vm) (c : ClassId) : vm.assignable c c = true := by
  show vm.assignableAux (255 + 1) c c = true
  unfold Vm.assignableAux
  simp
theorem aw_AO.use {A : Array Value} {U : State} (h : aw_AO U) : (Cond.arrayOver (.array .int)).before A U = true := h
/-- what the tables say of the class of rows of rows -/
theorem aw_qk {A : Nat → Prop} {s : State} {D : va_G} {cT : FieldType → ClassId} (hg : aw_GF A s) (hK : va_K D aw_cl (aw_tys cT) s) : ∃ k kI : Class, s.vm.classes[cT (.array .int)]? = some k ∧ k.kind = .array (cT .int) (.array .int) ∧ s.vm.classes[cT .int]? = some kI := by
  obtain ⟨comp, c, k, h1, -, h3, h4, h5⟩ := arrayOverA_spec hg.2.2.2.2.2
  have e1 : c = cT (.array .int) := Option.some.inj (h5.symm.trans (hK.2 3 _ rfl).2)
  have e2 : comp = cT .int := Option.some.inj (h1.symm.trans (hK.2 0 _ rfl).2)
  subst e1; subst e2
  obtain ⟨kI, hI, -⟩ := Vm.findClass_spec h1
  exact ⟨k, kI, h3, h4, hI⟩
section Rows6
variable {Z : Gz} {μ : Mt} {d k0 mc ms : Nat} {Q : Po} {pc : Nat} {L S : List Value} {h : Hp} {k cs ss : Nat}
theorem AW.idiv {x y : Int32} (hd : decode μ.2.1 pc = .ok (.idiv, 1)) (hne : ¬ y = 0) (K : AW Z μ d k0 mc ms Q (pc + 1) L (.int (x / y) :: S) h k cs ss) : AW Z μ d k0 mc ms Q pc L (.int y :: .int x :: S) h k cs ss :=
  AW.pure (fun h _ => aw_ok_cons aw_okI (aw_ok_tail (aw_ok_tail h))) (fun _ _ _ _ _ _ _ _ _ _ _ _ _ _ _ hx hb _ _ _ q => lv_idiv hx hb hd hne q) K
theorem AW.irem {x y : Int32} (hd : decode μ.2.1 pc = .ok (.irem, 1)) (hne : ¬ y = 0) (K : AW Z μ d k0 mc ms Q (pc + 1) L (.int (x - x / y * y) :: S) h k cs ss) : AW Z μ d k0 mc ms Q pc L (.int y :: .int x :: S) h k cs ss :=
  AW.pure (fun h _ => aw_ok_cons aw_okI (aw_ok_tail (aw_ok_tail h))) (fun _ _ _ _ _ _ _ _ _ _ _ _ _ _ _ hx hb _ _ _ q => lv_irem hx hb hd hne q) K
theorem AW.ishr {x y : Int32} (hd : decode μ.2.1 pc = .ok (.ishr, 1)) (K : AW Z μ d k0 mc ms Q (pc + 1) L (.int (x >>> (y &&& 31)) :: S) h k cs ss) : AW Z μ d k0 mc ms Q pc L (.int y :: .int x :: S) h k cs ss :=
  AW.pure (fun h _ => aw_ok_cons aw_okI (aw_ok_tail (aw_ok_tail h))) (fun _ _ _ _ _ _ _ _ _ _ _ _ _ _ _ hx hb _ _ _ q => lv_ishr hx hb hd q) K
theorem AW.lload {i : Nat} {v : Int64} (hd : decode μ.2.1 pc = .ok (.lload i, 2)) (hl : L[i]? = some (.long v)) (K : AW Z μ d k0 mc ms Q (pc + 2) L (.long v :: S) h k cs ss) : AW Z μ d k0 mc ms Q pc L S h k cs ss :=
  AW.pure (fun h _ => aw_ok_cons aw_okJ h) (fun _ _ _ _ _ _ _ _ _ _ _ _ _ _ _ hx hb _ _ hL q => lv_lload hx hb hd (hL.2.2 _ _ hl (fun e => nomatch e)).1 q) K
theorem AW.lstore {i : Nat} {v : Int64} {L' : List Value} (hd : decode μ.2.1 pc = .ok (.lstore i, 2)) (hn : i + 1 < μ.2.2.1) (hlow : aw_low L i = true) (hL : (L.set i (.long v)).set (i + 1) .null = L') (K : AW Z μ d k0 mc ms Q (pc + 2) L' S h k cs ss) : AW Z μ d k0 mc ms Q pc L (.long v :: S) h k cs ss := by
  intro l D cT p e s m args below meth c ad0 ad A H locs ls hC ha hk hS hw hl hs
  refine lv_lstore (nL := μ.2.2.1) (lv := aw_pairs ad L) hC.2.1 hC.2.2.1 hd hl.has hn rfl (fun ls' h' => ?_)
  exact K l D cT p e s m args below meth c ad0 ad A H locs ls' hC ha hk hS hw (aw_store2 hl (aw_okJ) hlow hL h') (aw_ok_tail hs)
theorem AW.alenq {i n : Nat} {f : Nat → Option Nat} (hd : decode μ.2.1 pc = .ok (.arraylength, 1)) (h0 : 0 < i) (hh : h i = qrow n f) (K : AW Z μ d k0 mc ms Q (pc + 1) L (.int (Int32.ofNat n) :: S) h k cs ss) : AW Z μ d k0 mc ms Q pc L (.ref i :: S) h k cs ss := by
  intro l D cT p e s m args below meth c ad0 ad A H locs ls hC ha hk hS hw2 hl hs
  have hi : i < k := hs _ List.mem_cons_self
  exact va_alen hC.2.1 hC.2.2.1 hw2.2.2.1 hw2.1 (i - 1) 3 (aw_at_arr h0 hi hh) (ty := .array .int) rfl rfl hd (K l D cT p e s m args below meth c ad0 ad A H locs ls hC ha hk hS hw2 hl (aw_ok_cons aw_okI (aw_ok_tail hs)))
theorem AW.aald {i n j : Nat} {f : Nat → Option Nat} {x : Int32} (hd : decode μ.2.1 pc = .ok (.aaload, 1)) (h0 : 0 < i) (hh : h i = qrow n f) (hin : vp_in x n) (hj : f x.toNatClampNeg = some j) (K : AW Z μ d k0 mc ms Q (pc + 1) L (.ref j :: S) h k cs ss) : AW Z μ d k0 mc ms Q pc L (.int x :: .ref i :: S) h k cs ss := by
  intro l D cT p e s m args below meth c ad0 ad A H locs ls hC ha hk hS hw2 hl hs
  have hi : i < k := hs _ (List.mem_cons_of_mem _ List.mem_cons_self)
  have hlt : x.toNatClampNeg < n := Nat.not_le.mp fun q => hin (Or.inr q)
  have hok : aw_ok k (.ref j) := by
    have := hw2.2.2.2.2 i h0 hi
    rw [hh] at this
    exact this _ _ hj
  refine W.aald (v := .ref (ad j)) (ty := .array .int) hC.2.1 hC.2.2.1 (hw2.1 (i - 1) _ (aw_at_arr h0 hi hh)) ((hw2.2.2.1.2 3 _ rfl).1 n (fun j => va_rf ((f j).map ad))) rfl (fun q => by cases q) (by show ¬ (x < 0 ∨ (arrV _ _ _).slots.size ≤ _); rw [arrV_size]; exact hin) ?_ rfl rfl hd
    (K l D cT p e s m args below meth c ad0 ad A H locs ls hC ha hk hS hw2 hl (aw_ok_cons hok (aw_ok_tail (aw_ok_tail hs))))
  show (arrV _ n (fun j => va_rf ((f j).map ad))).slots[_]? = _
  rw [arrV_read _ _ hlt, hj]
  rfl
theorem AW.aast {i n v nv : Nat} {f : Nat → Option Nat} {gv : Nat → Int32} {x : Int32} (hd : decode μ.2.1 pc = .ok (.aastore, 1)) (h0 : 0 < i) (hh : h i = qrow n f) (v0 : 0 < v) (hv : h v = irow nv gv) (hin : vp_in x n) (K : AW Z μ d k0 mc ms Q (pc + 1) L S (va_up h i (qrow n (va_up f x.toNatClampNeg (some v)))) k cs ss) : AW Z μ d k0 mc ms Q pc L (.ref v :: .int x :: .ref i :: S) h k cs ss := by
  intro l D cT p e s m args below meth c ad0 ad A H locs ls hC ha hk hS hw2 hl hs
  have hvk : v < k := hs _ List.mem_cons_self
  have hi : i < k := hs _ (List.mem_cons_of_mem _ (List.mem_cons_of_mem _ List.mem_cons_self))
  have hlt : x.toNatClampNeg < n := Nat.not_le.mp fun q => hin (Or.inr q)
  have h1 : ¬ x < 0 := fun q => hin (Or.inl q)
  obtain ⟨kA, kI, q1, q2, q3⟩ := aw_qk hC.2.2.2.2.2.2.2.2.2.1 hw2.2.2.1
  have hcv := hw2.1 (v - 1) _ (aw_at_arr v0 hvk hv)
  refine W.aast hC.2.1 hC.2.2.1 (hw2.1 (i - 1) _ (aw_at_arr h0 hi hh)) (fun q h => by cases h) (fun h => by cases h) q1 q2 rfl q3 ⟨h1, by show _ < (arrV _ _ _).slots.size; rw [arrV_size]; exact hlt⟩ hcv (fun q h => by cases h) q3 (aw_asg _ _) rfl rfl hd fun H1 e1 z oq => ?_
  have he : va_at D aw_cl (ad i, aw_ce cT ad (qrow n (va_up f x.toNatClampNeg (some v)))) H1 := by
    show H1[ad i]? = some (vp_cell (cT (.array .int)) (n, .inr (.inr (.inr (.inr fun j => ((va_up f x.toNatClampNeg (some v)) j).map ad)))))
    rw [e1]
    show some (((vp_cell (cT (.array .int)) (n, .inr (.inr (.inr (.inr fun j => (f j).map ad))))).setSlot x.toNatClampNeg (.ref (ad v)))) = _
    rw [vp_cell_q, vp_cell_q, arrV_store]
    congr 2
    funext q
    by_cases hq : q = x.toNatClampNeg
    · subst hq
      simp [updV, va_up, va_rf]
    · simp [updV, va_up, hq]
  have hoi := hw2.2.2.2.2 i h0 hi
  rw [hh] at hoi
  refine K l D cT p e s m args below meth c ad0 ad A H1 _ ls hC ha hk (hS.put z oq (hw2.2.1.2 (i - 1) _ (aw_at_arr h0 hi hh))) (aw_Wo_set hw2 h0 hi (fun j w hw => ?_) (hw2.1.set hw2.2.1 (aw_at_arr h0 hi hh) he oq) (hw2.2.1.set (aw_at_arr h0 hi hh))) hl (aw_ok_tail (aw_ok_tail (aw_ok_tail hs)))
  simp only [va_up] at hw
  split at hw
  · cases hw; exact hvk
  · exact hoi j w hw
theorem AW.newq {index N : Nat} {n : Int32} (hd : decode μ.2.1 pc = .ok (.anewarray index, 3)) (hw : Cond.classLink μ.1.cls index (FieldType.array .int).toString ∈ lw_tbl) (hn : ¬ n < 0) (hN : n.toNatClampNeg = N) (hb : N * 4 ≤ 536870912) (hcs : cs + 1 ≤ mc) (hss : ss + N ≤ ms)
    (K : AW Z μ d k0 mc ms Q (pc + 3) L (.ref k :: S) (va_up h k (qrow N (fun _ => none))) (k + 1) (cs + 1) (ss + N)) : AW Z μ d k0 mc ms Q pc L (.int n :: S) h k cs ss := by
  intro l D cT p e s m args below meth c ad0 ad A H locs ls hC ha hk hS hw2 hl hs
  subst hN
  have hg := hC.2.2.2.2.2.2.2.2.2.1
  refine W.anewA (t := .int) hC.2.1 hC.2.2.1 hC.2.2.2.2.2.2.2.1 (aw_hts hg hw rfl) (aw_AO.use hg.2.2.2.2.2) rfl hd rfl hn hb hcs hss fun cA kA comp f1 f2 f3 f4 => ?_
  have hcA : cA = cT (.array .int) := Option.some.inj (f1.symm.trans (hw2.2.2.1.2 3 _ rfl).2)
  subst hcA
  generalize hH1 : H.push ({ cls := cT (.array .int), slots := Array.replicate n.toNatClampNeg .null, vm := .none } : Cell) = H1
  have z1 : H1.size = H.size + 1 := by rw [← hH1, Array.size_push]
  have e1 : H1[H.size]? = some (arrV (cT (.array .int)) n.toNatClampNeg (fun _ => .null)) := by rw [← hH1, Array.getElem?_push_size, ← arrV_new]
  have o1 : ∀ q : Nat, q < H.size → H1[q]? = H[q]? := fun q hq => by rw [← hH1, Array.getElem?_push, if_neg (Nat.ne_of_lt hq)]
  have hkk : ∀ (j : Nat) (x : Nat × va_E), (aw_ws cT ad h k)[j]? = some x → H1[x.1]? = H[x.1]? := fun j x hx => o1 x.1 ((hw2.1 j x hx).lt)
  have hP : va_P D aw_cl (aw_ws cT ad h k ++ [(H.size, aw_ce cT ad (qrow n.toNatClampNeg (fun _ => none)))]) H1 := by
    refine (hw2.1.kept hkk).app (fun j x hx => ?_)
    have hz : j < 1 := (List.getElem?_eq_some_iff.mp hx).1
    rw [show j = 0 by omega] at hx
    cases hx
    show H1[H.size]? = some (vp_cell (cT (.array .int)) (n.toNatClampNeg, .inr (.inr (.inr (.inr (fun _ => none))))))
    rw [e1, vp_cell_q]
    rfl
  have hK := K l D cT p e s m args below meth c ad0 (va_up ad k H.size) A H1 locs ls hC (fun i hi => by simp only [va_up, Nat.ne_of_lt (Nat.lt_of_lt_of_le hi hk), if_false]; exact ha i hi) (Nat.le_succ_of_le hk)
    ⟨Nat.le_trans hS.1 (by omega), fun x h1 h2 => (o1 x (Nat.lt_of_lt_of_le h1 hS.1)).trans (hS.2.1 x h1 h2), hS.2.2⟩ (aw_Wo_push (e := qrow n.toNatClampNeg (fun _ => none)) hw2 (show aw_oka k (n.toNatClampNeg, .inr (.inr (.inr (.inr (fun _ => none))))) from fun j i e => by cases e) hP (hw2.2.1.push hw2.1 rfl (hC.2.2.2.2.2.2.2.2.2.2.1 _ hS.1))) (aw_push_Lv hl) (aw_ok_cons (Nat.lt_succ_self k) (fun v hv => aw_ok_le (aw_ok_tail hs v hv) (Nat.le_succ _)))
  rw [List.map_cons, aw_push_cv (aw_ok_tail hs)] at hK
  have e2 : aw_cv (va_up ad k H.size) (.ref k) = .ref H.size := by simp [aw_cv, va_up]
  rw [e2] at hK
  exact hK
theorem AW.copyq {i j n0 n1 index : Nat} {f g : Nat → Option Nat} {sp dp n : Int32} (hd : decode μ.2.1 pc = .ok (.invokestatic index, 3)) (hlink : Cond.methodLink μ.1.cls index arraycopyName ∈ lw_tbl) (hnat : Cond.native arraycopyName ∈ lw_tbl) (hst : Cond.static arraycopyName ∈ lw_tbl) (hini : Cond.initialized "java/lang/System" ∈ lw_tbl)
    (i0 : 0 < i) (j0 : 0 < j) (hi : h i = qrow n0 f) (hj : h j = qrow n1 g) (h1 : ¬ sp < 0) (h2 : ¬ dp < 0) (h3 : ¬ n < 0) (h4 : sp.toNatClampNeg + n.toNatClampNeg ≤ n0) (h5 : dp.toNatClampNeg + n.toNatClampNeg ≤ n1) (hel : ∀ q : Nat, q < n.toNatClampNeg → ∀ y, f (sp.toNatClampNeg + q) = some y → 0 < y ∧ ∃ a b, h y = irow a b) (hcat : (S.map fun v => v.category).sum ≤ 8)
    (K : AW Z μ d k0 mc ms Q (pc + 3) L S (va_up h j (qrow n1 (va_cpy f g sp.toNatClampNeg dp.toNatClampNeg n.toNatClampNeg))) k cs ss) : AW Z μ d k0 mc ms Q pc L (.int n :: .int dp :: .ref j :: .int sp :: .ref i :: S) h k cs ss := by
  intro l D cT p e s m args below meth c ad0 ad A H locs ls hC ha hk hS hw hl hs
  have hg := hC.2.2.2.2.2.2.2.2.2.1
  have hjk : j < k := hs (.ref j) (by simp)
  have hik : i < k := hs (.ref i) (by simp)
  have hcat2 : ((S.map (aw_cv ad)).map fun v => v.category).sum ≤ 8 := by
    have e : ((S.map (aw_cv ad)).map fun v => v.category) = S.map fun v => v.category := by
      rw [List.map_map]
      exact List.map_congr_left fun v _ => aw_cat ad v
    rw [e]; exact hcat
  have hnw : nativeFrameWords "java/lang/System" "arraycopy" 5 + 11 ≤ 100 := by decide
  have hoi := hw.2.2.2.2 i i0 hik
  rw [hi] at hoi
  have hoj := hw.2.2.2.2 j j0 hjk
  rw [hj] at hoj
  have nn : ∀ z : Int32, ¬ z < 0 → z.toInt = (z.toNatClampNeg : Int) := by
    intro z hz
    have hz0 : (0 : Int) ≤ z.toInt := by
      have := Int32.not_lt.mp hz
      simpa using Int32.le_iff_toInt_le.mp this
    show z.toInt = ((z.toInt.toNat : Nat) : Int)
    omega
  obtain ⟨kA, kI, q1, q2, q3⟩ := aw_qk hg hw.2.2.1
  have ha0 := aw_at_arr (cT := cT) (ad := ad) i0 hik hi
  have ha1 := aw_at_arr (cT := cT) (ad := ad) j0 hjk hj
  have hc0 : H[ad i]? = some (vp_cell (cT (.array .int)) (n0, .inr (.inr (.inr (.inr fun j => (f j).map ad))))) := hw.1 (i - 1) _ ha0
  have hc1 : H[ad j]? = some (vp_cell (cT (.array .int)) (n1, .inr (.inr (.inr (.inr fun j => (g j).map ad))))) := hw.1 (j - 1) _ ha1
  intro T hT X
  obtain ⟨vm', X', step⟩ := X.arraycopy hC.2.1 hC.2.2.2.2.2.2.2.1 (aw_hts hg hlink rfl) (aw_hts hg hnat rfl) (aw_hts hg hst rfl) (aw_hts hg hini rfl) (src := ad i) (dst := ad j) (cs := vp_cell (cT (.array .int)) (n0, .inr (.inr (.inr (.inr fun j => (f j).map ad))))) (cd := vp_cell (cT (.array .int)) (n1, .inr (.inr (.inr (.inr fun j => (g j).map ad))))) (srcPos := sp) (destPos := dp) (n := n) (by rw [hT]; exact hc0) (by rw [hT]; exact hc1)
    (fun _ h => by cases h) (fun _ h => by cases h) (fun h => by cases h) (fun h => by cases h) q1 q1 q2 q2 rfl h1 h2 h3
    (by rw [nn sp h1, nn n h3]; show ¬ _ > ((arrV _ n0 (fun j => va_rf ((f j).map ad))).slots.size : Int); rw [arrV_size]; omega)
    (by rw [nn dp h2, nn n h3]; show ¬ _ > ((arrV _ n1 (fun j => va_rf ((g j).map ad))).slots.size : Int); rw [arrV_size]; omega)
    (fun vm₁ hal q hq => by
      have e : (vp_cell (cT (.array .int)) (n0, .inr (.inr (.inr (.inr fun j => (f j).map ad))))).slots.getD (sp.toNatClampNeg + q) .null = va_rf ((f (sp.toNatClampNeg + q)).map ad) := by
        show (arrV _ n0 (fun j => va_rf ((f j).map ad))).slots.getD _ _ = _
        rw [Array.getD_eq_getD_getElem?, arrV_read _ _ (by omega)]
        rfl
      rw [e]
      cases hy : f (sp.toNatClampNeg + q) with
      | none => exact ⟨rfl, trivial⟩
      | some y =>
        obtain ⟨y0, a, b, hyb⟩ := hel q hq y hy
        have hyk : y < k := hoi _ _ hy
        have hcy := hw.1 (y - 1) _ (aw_at_arr y0 hyk hyb)
        obtain ⟨kE', hkE', -⟩ := hal.2.2 _ _ q3
        refine ⟨rfl, vp_cell (cT .int) (a, .inl b), (show T.heap[ad y]? = some _ by rw [hT]; exact hcy), (fun q h => by cases h), ⟨kE', hkE'⟩, ?_, ?_⟩
        · exact ⟨kE', hkE'⟩
        · show vm₁.assignable _ _ = true
          exact aw_asg _ _)
    (g := F0 m pc ls (.int n :: .int dp :: .ref (ad j) :: .int sp :: .ref (ad i) :: S.map (aw_cv ad))) rfl (by rw [hC.2.2.2.1]; exact hl.1) (rest := S.map (aw_cv ad)) rfl (by rw [hC.2.2.1]; exact hd) (by show 1 ≤ d + 20; omega) (by show 2 * 0 + _ + _ ≤ 41 * d + 852; omega)
  have e1 : copied (vp_cell (cT (.array .int)) (n0, .inr (.inr (.inr (.inr fun j => (f j).map ad))))) (vp_cell (cT (.array .int)) (n1, .inr (.inr (.inr (.inr fun j => (g j).map ad))))) sp dp n = vp_cell (cT (.array .int)) (n1, .inr (.inr (.inr (.inr fun q => ((va_cpy f g sp.toNatClampNeg dp.toNatClampNeg n.toNatClampNeg) q).map ad)))) := by
    rw [vp_cell_q, vp_cell_q, vp_cell_q]
    have := va_copied (fun z : Option Nat => va_rf z) (cT (.array .int)) (cT (.array .int)) (n1 := n1) (dp := dp.toNatClampNeg) (fun j => (f j).map ad) (fun j => (g j).map ad) h4
    refine Eq.trans this ?_
    congr 1
    funext q
    simp only [va_cpy]
    split <;> rfl
  rw [e1] at X' step
  have hl9 : ad j < H.size := (Array.getElem?_eq_some_iff.mp hc1).1
  have hheap : ((T.setVm vm').setCell (ad j) (vp_cell (cT (.array .int)) (n1, .inr (.inr (.inr (.inr fun q => ((va_cpy f g sp.toNatClampNeg dp.toNatClampNeg n.toNatClampNeg) q).map ad)))))).heap = H.setIfInBounds (ad j) (vp_cell (cT (.array .int)) (n1, .inr (.inr (.inr (.inr fun q => ((va_cpy f g sp.toNatClampNeg dp.toNatClampNeg n.toNatClampNeg) q).map ad))))) := by rw [← hT]; rfl
  have oq : ∀ q : Nat, q ≠ ad j → (H.setIfInBounds (ad j) (vp_cell (cT (.array .int)) (n1, .inr (.inr (.inr (.inr fun q => ((va_cpy f g sp.toNatClampNeg dp.toNatClampNeg n.toNatClampNeg) q).map ad))))))[q]? = H[q]? := fun q hq => by simp [Array.getElem?_setIfInBounds, Ne.symm hq]
  have hset := aw_Wo_set (e := qrow n1 (va_cpy f g sp.toNatClampNeg dp.toNatClampNeg n.toNatClampNeg)) hw j0 hjk (fun q w hq => by
      simp only [va_cpy] at hq
      split at hq
      · exact hoi _ _ hq
      · exact hoj _ _ hq) (hw.1.set hw.2.1 ha1 (show (H.setIfInBounds (ad j) _)[ad j]? = some _ by simp [Array.getElem?_setIfInBounds, hl9]; rfl) oq) (hw.2.1.set ha1)
  obtain ⟨t, a1, b1⟩ := K l D cT p e s m args below meth c ad0 ad A _ _ ls hC ha hk ⟨by simp; exact hS.1, fun q g1 g2 => by
      rw [oq q (fun e => g2 (by rw [e]; exact hw.2.1.2 (j - 1) _ ha1))]
      exact hS.2.1 q g1 g2, fun q hq => by
      rcases List.mem_append.mp hq with h | h
      · exact hS.2.2 q h
      · obtain ⟨z, -, hz⟩ := List.mem_map.mp h
        rw [← hz]
        exact hw.2.1.2 (j - 1) _ ha1⟩ hset hl (aw_ok_tail (aw_ok_tail (aw_ok_tail (aw_ok_tail (aw_ok_tail hs))))) _ hheap X'
  exact ⟨t, step t a1, b1⟩
theorem AW.callVH {μ' : Mt} {d' mc' ms' index n i ci : Nat} {q : vw_C} {fs as S' : List Value} {R : Po} (hd : decode μ.2.1 pc = .ok (.invokevirtual index, 3)) (hM : AM μ' d' (.ref i :: as) h k mc' ms' R) (hm : aw_mokH μ' n) (hin : Cond.instanceMethod μ'.1 ∈ lw_tbl) (hsel : Cond.selects μ'.1.cls μ'.1 μ'.1 ∈ lw_tbl) (hlink : Cond.methodLink μ.1.cls index μ'.1 ∈ lw_tbl)
    (h0 : 0 < i) (hh : h i = .inr (ci, fs)) (hc : aw_cl[ci]? = some q) (hq : q.1 = μ'.1.cls) (hn : as.length = n) (hd' : d' + 1 ≤ d) (hS2 : S = as.reverse ++ .ref i :: S') (hcat : (S'.map fun v => v.category).sum ≤ 8) (hcs : cs + mc' ≤ mc) (hss : ss + ms' ≤ ms)
    (K : ∀ (v : Option Value) (h' : Hp) (k' : Nat), R (.inl v) h' k' → AW Z μ d k0 mc ms Q (pc + 3) L (v.toList ++ S') h' k' (cs + mc') (ss + ms'))
    (KX : ∀ (E : String) (h' : Hp) (k' : Nat), R (.inr E) h' k' → AX Z μ d k0 mc ms Q E pc L h' k' (cs + mc') (ss + ms')) : AW Z μ d k0 mc ms Q pc L S h k cs ss := by
  intro l D cT p e s m args below meth c ad0 ad A H locs ls hC ha hk hS hw hl hs
  have hg := hC.2.2.2.2.2.2.2.2.2.1
  have hik : i < k := hs (.ref i) (by rw [hS2]; exact List.mem_append_right _ List.mem_cons_self)
  have hok : ∀ v ∈ Value.ref i :: as, aw_ok k v := fun v hv => by
    rcases List.mem_cons.mp hv with rfl | hv
    · exact hik
    · exact hs v (by rw [hS2]; exact List.mem_append_left _ (List.mem_reverse.mpr hv))
  have hok2 : ∀ v ∈ S', aw_ok k v := fun v hv => hs v (by rw [hS2]; exact List.mem_append_right _ (List.mem_cons_of_mem _ hv))
  obtain ⟨m1, m2, m3, m4, m5, m6⟩ := hm
  have hcw : vx_CVW (aw_R d mc ms) s args μ.1.cls μ'.1.cls index μ'.1 μ'.2.1 μ'.2.2.1 μ'.2.2.2.1 μ'.2.2.2.2 [aw_cw μ'] (aw_R d' mc' ms') mc' ms' n := by
    refine ⟨⟨rfl, rfl, ?_, ?_, fun w hw a' U hW => ?_, ?_⟩, ?_, aw_hts hg m3 rfl, m4, fun sig h => ?_, aw_hts hg hlink rfl, aw_hts hg hin rfl, aw_hts hg hsel rfl⟩
    · show d' + 20 + 1 ≤ d + 20; omega
    · show 8 + (μ'.2.2.1 + 11) + (41 * d' + 852) ≤ 41 * d + 852; omega
    · rw [List.mem_singleton] at hw
      rw [hw]
      exact aw_stable (by rw [m1]; rfl) hW (hg.1 _ m2 (by rw [m1]; rfl))
    · rw [m1]; exact List.mem_singleton.mpr rfl
    · rw [← m1]; exact aw_hts hg m2 (by rw [m1]; rfl)
    · rw [h] at m5; exact (Option.some.inj m5).symm
  have hr := vx_runVX (e := e) (below := below) (meth := meth) (As := as.map (aw_cv ad)) (rest := S'.map (aw_cv ad)) (b := ad i) (C := μ'.1.cls) (Ts := []) (locs := locs) (cells := cs) (slots := ss) (g := F0 m pc ls (S.map (aw_cv ad))) (nL := μ.2.2.1) ⟨hC.2.1, hC.2.2.1, hC.2.2.2.1, hC.2.2.2.2.2.2.2.1, fun w h => nomatch h⟩ (hM l D cT ad H.size hC.1) hcw
    ⟨aw_blind, by rw [← hq]; exact va_recv hw.2.2.1 hw.1 hc (aw_at_obj h0 hik hh), aw_pre hw hS hC.2.2.2.2.2.2.2.2.2.2.1 hg hok⟩
    rfl (by rw [List.length_map]; exact hn) hl.1 (by show S.map _ = _; rw [hS2, List.map_append, List.map_reverse]; rfl) (aw_stW hcat) hd ⟨hcs, hss⟩
  exact aw_run hr hC ha hk hS hw hl hok2 K KX
end Rows6
end
section
/-! AW: a contract in a larger world, a world renamed, the script at id 0 -/
def rnc (f : Nat → Nat) (c : Ce) : Ce := match c with
  | .inl x => .inl (x.1, aw_ca f x.2)
  | .inr o => .inr (o.1, o.2.map (aw_cv f))
def rno (f : Nat → Nat) (o : Out) : Out := match o with
  | .inl v => .inl (v.map (aw_cv f))
  | .inr E => .inr E
theorem rn_cv (ad f : Nat → Nat) (v : Value) : aw_cv ad (aw_cv f v) = aw_cv (fun i => ad (f i)) v := by cases v <;> rfl
theorem rn_ca (ad f : Nat → Nat) (a : vp_A) : aw_ca ad (aw_ca f a) = aw_ca (fun i => ad (f i)) a := by
  obtain ⟨n, a⟩ := a
  rcases a with g | g | g | g | g
  · rfl
  · rfl
  · rfl
  · rfl
  · show ((n, .inr (.inr (.inr (.inr fun j => ((g j).map f).map ad)))) : vp_A) = (n, .inr (.inr (.inr (.inr fun j => (g j).map fun i => ad (f i)))))
    have : (fun j => ((g j).map f).map ad) = fun j => (g j).map fun i => ad (f i) := by
      funext j
      cases g j <;> rfl
    rw [this]
theorem rn_ce (cT : FieldType → ClassId) (ad f : Nat → Nat) (c : Ce) : aw_ce cT ad (rnc f c) = aw_ce cT (fun i => ad (f i)) c := by
  rcases c with c | c
  · show Sum.inl (cT c.1, aw_ca ad (aw_ca f c.2)) = Sum.inl (cT c.1, _)
    rw [rn_ca]
  · show Sum.inr (c.1, (c.2.map (aw_cv f)).map (aw_cv ad)) = Sum.inr (c.1, c.2.map _)
    rw [List.map_map]
    congr 2
    exact List.map_congr_left fun v _ => rn_cv ad f v
theorem rn_okv {f : Nat → Nat} {k k' : Nat} {v : Value} (h : aw_ok k v) (hf : ∀ i, i < k → f i < k') : aw_ok k' (aw_cv f v) := by
  cases v <;> first | trivial | exact hf _ h
theorem rn_okc {f : Nat → Nat} {k k' : Nat} {c : Ce} (h : aw_okc k c) (hf : ∀ i, i < k → f i < k') : aw_okc k' (rnc f c) := by
  rcases c with ⟨ty, n, a⟩ | c
  · rcases a with g | g | g | g | g
    · trivial
    · trivial
    · trivial
    · trivial
    · show ∀ j i, (g j).map f = some i → i < k'
      intro j i e
      cases hg : g j with
      | none => rw [hg] at e; cases e
      | some q => rw [hg] at e; cases e; exact hf _ (h j q hg)
  · intro v hv
    obtain ⟨w, hw, rfl⟩ := List.mem_map.mp hv
    exact rn_okv (h w hw) hf
/-- where the ids of a small world lie in a larger one: those that are there behind b, those that are made behind all -/
def emb (b k K : Nat) (i : Nat) : Nat := if i < k then b + i else K + (i - k)
theorem emb_lo {b k K i : Nat} (h : i < k) : emb b k K i = b + i := by simp [emb, h]
theorem emb_hi {b k K i : Nat} (h : k ≤ i) : emb b k K i = K + (i - k) := by simp [emb, Nat.not_lt.mpr h]
theorem aw_at_ws {cT : FieldType → ClassId} {ad : Nat → Nat} {h : Hp} {k i : Nat} {q : Nat × va_E} (h0 : 0 < i) (hi : i < k) (hq : q = (ad i, aw_ce cT ad (h i))) : (aw_ws cT ad h k)[i - 1]? = some q := by rw [hq]; exact aw_ws_at cT ad h h0 hi
set_option maxHeartbeats 4000000 in
theorem frame_pre {D : va_G} {cT : FieldType → ClassId} {ad : Nat → Nat} {h H : Hp} {k K b sz : Nat} {U : State} (hk : 0 < k) (hK : b + k ≤ K) (hH : ∀ i, 0 < i → i < k → H (b + i) = rnc (emb b k K) (h i)) (hok : ∀ i, 0 < i → i < k → aw_okc k (h i))
    (hw : aw_Wo D cT (va_A (aw_ws cT ad H K) sz) ad H K U.heap U) : (∀ q, va_A (aw_ws cT (fun i => ad (b + i)) h k) sz q → va_A (aw_ws cT ad H K) sz q) ∧ aw_Wo D cT (va_A (aw_ws cT (fun i => ad (b + i)) h k) sz) (fun i => ad (b + i)) h k U.heap U := by
  have hin : ∀ i, 0 < i → i < k → (aw_ws cT ad H K)[b + i - 1]? = some (ad (b + i), aw_ce cT (fun i => ad (b + i)) (h i)) := fun i i0 ik => by
    refine aw_at_ws (by omega) (by omega) ?_
    rw [hH i i0 ik, rn_ce, aw_ce_congr (hok i i0 ik) (ad := fun i => ad (b + i)) (ad' := fun i => ad (emb b k K i))]
    intro j hj
    show ad (emb b k K j) = ad (b + j)
    rw [emb_lo hj]
  have hsub : ∀ q, va_A (aw_ws cT (fun i => ad (b + i)) h k) sz q → va_A (aw_ws cT ad H K) sz q := fun q hq => by
    rcases hq with ⟨j, e, hj⟩ | hq
    · obtain ⟨h1, h2⟩ := aw_ws_out hj
      cases h2
      exact Or.inl ⟨_, _, hin (j + 1) (Nat.succ_pos j) h1⟩
    · exact Or.inr hq
  refine ⟨hsub, fun j q hq => ?_, ⟨fun i j p q hp hq e => ?_, fun j q hq => Or.inl ⟨j, q.2, hq⟩⟩, hw.2.2.1, hk, hok⟩
  · obtain ⟨h1, h2⟩ := aw_ws_out hq
    rw [h2]
    exact hw.1 _ _ (hin (j + 1) (Nat.succ_pos j) h1)
  · obtain ⟨h1, h2⟩ := aw_ws_out hp
    obtain ⟨h3, h4⟩ := aw_ws_out hq
    rw [h2, h4] at e
    have := hw.2.1.1 _ _ _ _ (hin (i + 1) (Nat.succ_pos i) h1) (hin (j + 1) (Nat.succ_pos j) h3) e
    omega
/-- the larger world behind -/
def fr_ad (ad ad' : Nat → Nat) (k K : Nat) (j : Nat) : Nat := if j < K then ad j else ad' (k + (j - K))
def fr_h (H h' : Hp) (b k K : Nat) (j : Nat) : Ce := if j < K then (if b < j ∧ j < b + k then rnc (emb b k K) (h' (j - b)) else H j) else rnc (emb b k K) (h' (k + (j - K)))
set_option maxHeartbeats 4000000 in
theorem frame_post {D : va_G} {cT : FieldType → ClassId} {ad ad' : Nat → Nat} {h h' H : Hp} {k k' K b : Nat} {U t : State} (hk : 0 < k) (hK : b + k ≤ K) (hk' : k ≤ k')
    (hw : aw_Wo D cT (va_A (aw_ws cT ad H K) U.heap.size) ad H K U.heap U) (hH : ∀ i, 0 < i → i < k → H (b + i) = rnc (emb b k K) (h i)) (hok : ∀ i, 0 < i → i < k → aw_okc k (h i)) (he : ∀ i, i < k → ad' i = ad (b + i))
    (hw' : aw_Wo D cT (va_A (aw_ws cT (fun i => ad (b + i)) h k) U.heap.size) ad' h' k' t.heap t) (hF : va_F (va_A (aw_ws cT (fun i => ad (b + i)) h k) U.heap.size) U t) :
    (∀ i, i < k' → fr_ad ad ad' k K (emb b k K i) = ad' i) ∧ (∀ i, 0 < i → i < k' → fr_h H h' b k K (emb b k K i) = rnc (emb b k K) (h' i)) ∧ (∀ j, 0 < j → j < K → (j ≤ b ∨ b + k ≤ j) → fr_h H h' b k K j = H j) ∧ (∀ i, i < K → fr_ad ad ad' k K i = ad i) ∧
    aw_Wo D cT (va_A (aw_ws cT ad H K) U.heap.size) (fr_ad ad ad' k K) (fr_h H h' b k K) (K + (k' - k)) t.heap t := by
  obtain ⟨hsub, -⟩ := frame_pre (U := U) (sz := U.heap.size) hk hK hH hok hw
  have a1 : ∀ i, i < k' → fr_ad ad ad' k K (emb b k K i) = ad' i := fun i hi => by
    by_cases q : i < k
    · rw [emb_lo q, fr_ad, if_pos (by omega), he i q]
    · rw [emb_hi (by omega), fr_ad, if_neg (by omega)]
      congr 1
      omega
  have a2 : ∀ i, 0 < i → i < k' → fr_h H h' b k K (emb b k K i) = rnc (emb b k K) (h' i) := fun i i0 hi => by
    by_cases q : i < k
    · rw [emb_lo q, fr_h, if_pos (by omega), if_pos (by omega), Nat.add_sub_cancel_left]
    · rw [emb_hi (by omega), fr_h, if_neg (by omega), show k + (K + (i - k) - K) = i by omega]
  have a3 : ∀ j, 0 < j → j < K → (j ≤ b ∨ b + k ≤ j) → fr_h H h' b k K j = H j := fun j j0 jK hj => by
    rw [fr_h, if_pos jK, if_neg (by omega)]
  have a4 : ∀ i, i < K → fr_ad ad ad' k K i = ad i := fun i hi => by rw [fr_ad, if_pos hi]
  refine ⟨a1, a2, a3, a4, ?_⟩
  have cls : ∀ id, 0 < id → id < K + (k' - k) → (∃ i, 0 < i ∧ i < k' ∧ emb b k K i = id) ∨ (id < K ∧ (id ≤ b ∨ b + k ≤ id)) := fun id i0 hid => by
    by_cases q : id < K
    · by_cases q2 : b < id ∧ id < b + k
      · exact Or.inl ⟨id - b, by omega, by omega, by rw [emb_lo (by omega)]; omega⟩
      · exact Or.inr ⟨q, by omega⟩
    · exact Or.inl ⟨k + (id - K), by omega, by omega, by rw [emb_hi (by omega)]; omega⟩
  have inn : ∀ i, 0 < i → i < k' → (fr_ad ad ad' k K (emb b k K i), aw_ce cT (fr_ad ad ad' k K) (fr_h H h' b k K (emb b k K i))) = (ad' i, aw_ce cT ad' (h' i)) := fun i i0 hi => by
    rw [a1 i hi, a2 i i0 hi, rn_ce, aw_ce_congr (hw'.2.2.2.2 i i0 hi) (ad := ad') (ad' := fun i => fr_ad ad ad' k K (emb b k K i)) a1]
  have out : ∀ id, 0 < id → id < K → (id ≤ b ∨ b + k ≤ id) → (fr_ad ad ad' k K id, aw_ce cT (fr_ad ad ad' k K) (fr_h H h' b k K id)) = (ad id, aw_ce cT ad (H id)) := fun id i0 hid ho => by
    rw [a4 id hid, a3 id i0 hid ho, aw_ce_congr (hw.2.2.2.2 id i0 hid) a4]
  have outA : ∀ id, 0 < id → id < K → (id ≤ b ∨ b + k ≤ id) → ¬ va_A (aw_ws cT (fun i => ad (b + i)) h k) U.heap.size (ad id) ∧ ad id < U.heap.size := fun id i0 hid ho => by
    have hl : ad id < U.heap.size := (hw.1 (id - 1) _ (aw_ws_at cT ad H i0 hid)).lt
    refine ⟨fun hq => ?_, hl⟩
    rcases hq with ⟨j, e, hj⟩ | hq
    · obtain ⟨h1, h2⟩ := aw_ws_out hj
      have e2 : ad id = ad (b + (j + 1)) := congrArg Prod.fst h2
      have := hw.2.1.1 _ _ _ _ (aw_ws_at cT ad H i0 hid) (aw_ws_at cT ad H (i := b + (j + 1)) (by omega) (by omega)) e2
      omega
    · omega
  refine ⟨fun j q hq => ?_, ⟨fun i j p q hp hq e => ?_, fun j q hq => ?_⟩, hw'.2.2.1, by omega, fun id i0 hid => ?_⟩
  · obtain ⟨h1, h2⟩ := aw_ws_out hq
    rw [h2]
    rcases cls (j + 1) (Nat.succ_pos j) h1 with ⟨i, i0, ik, hi⟩ | ⟨hid, ho⟩
    · rw [← hi, inn i i0 ik]
      exact hw'.1 (i - 1) _ (aw_ws_at cT ad' h' i0 ik)
    · rw [out _ (Nat.succ_pos j) hid ho]
      obtain ⟨o1, o2⟩ := outA _ (Nat.succ_pos j) hid ho
      exact (hw.1 j _ (aw_ws_at cT ad H (i := j + 1) (Nat.succ_pos j) hid)).kept (hF.2 _ o2 o1)
  · obtain ⟨h1, h2⟩ := aw_ws_out hp
    obtain ⟨h3, h4⟩ := aw_ws_out hq
    rw [h2, h4] at e
    have e : fr_ad ad ad' k K (i + 1) = fr_ad ad ad' k K (j + 1) := e
    rcases cls (i + 1) (Nat.succ_pos i) h1 with ⟨x, x0, xk, hx⟩ | ⟨hx, ho⟩ <;> rcases cls (j + 1) (Nat.succ_pos j) h3 with ⟨y, y0, yk, hy⟩ | ⟨hy, ho2⟩
    · rw [← hx, ← hy, a1 x xk, a1 y yk] at e
      have := hw'.2.1.1 _ _ _ _ (aw_ws_at cT ad' h' x0 xk) (aw_ws_at cT ad' h' y0 yk) e
      have : x = y := by omega
      subst this
      omega
    · rw [← hx, a1 x xk, a4 _ hy] at e
      have hm := hw'.2.1.2 _ _ (aw_ws_at cT ad' h' x0 xk)
      have hm : va_A (aw_ws cT (fun i => ad (b + i)) h k) U.heap.size (ad' x) := hm
      rw [e] at hm
      exact absurd hm (outA _ (Nat.succ_pos j) hy ho2).1
    · rw [← hy, a1 y yk, a4 _ hx] at e
      have hm := hw'.2.1.2 _ _ (aw_ws_at cT ad' h' y0 yk)
      have hm : va_A (aw_ws cT (fun i => ad (b + i)) h k) U.heap.size (ad' y) := hm
      rw [← e] at hm
      exact absurd hm (outA _ (Nat.succ_pos i) hx ho).1
    · rw [a4 _ hx, a4 _ hy] at e
      have := hw.2.1.1 _ _ _ _ (aw_ws_at cT ad H (i := i + 1) (Nat.succ_pos i) hx) (aw_ws_at cT ad H (i := j + 1) (Nat.succ_pos j) hy) e
      omega
  · obtain ⟨h1, h2⟩ := aw_ws_out hq
    rw [h2]
    rcases cls (j + 1) (Nat.succ_pos j) h1 with ⟨i, i0, ik, hi⟩ | ⟨hid, ho⟩
    · show va_A _ _ (fr_ad ad ad' k K (j + 1))
      rw [← hi, a1 i ik]
      exact hsub _ (hw'.2.1.2 _ _ (aw_ws_at cT ad' h' i0 ik))
    · show va_A _ _ (fr_ad ad ad' k K (j + 1))
      rw [a4 _ hid]
      exact Or.inl ⟨_, _, aw_ws_at cT ad H (i := j + 1) (Nat.succ_pos j) hid⟩
  · rcases cls id i0 hid with ⟨i, q0, qk, hi⟩ | ⟨hid, ho⟩
    · rw [← hi, a2 i q0 qk]
      refine rn_okc (hw'.2.2.2.2 i q0 qk) fun r hr => ?_
      by_cases q : r < k
      · rw [emb_lo q]; omega
      · rw [emb_hi (by omega)]; omega
    · rw [a3 id i0 hid ho]
      exact aw_okc_le (hw.2.2.2.2 id i0 hid) (by omega)
/-- what a contract of a small world says of the larger one -/
def FQ (b k K : Nat) (H : Hp) (Q : Po) : Po := fun oc' H' K' => ∃ (oc : Out) (h' : Hp) (k' : Nat), Q oc h' k' ∧ k ≤ k' ∧ K' = K + (k' - k) ∧ oc' = rno (emb b k K) oc ∧ (∀ i, 0 < i → i < k' → H' (emb b k K i) = rnc (emb b k K) (h' i)) ∧ (∀ j, 0 < j → j < K → (j ≤ b ∨ b + k ≤ j) → H' j = H j)
set_option maxHeartbeats 4000000 in
theorem AM.frame {μ : Mt} {d : Nat} {as as' : List Value} {h H : Hp} {k K b mc ms : Nat} {Q : Po} (hM : AM μ d as h k mc ms Q) (hk : 0 < k) (hK : b + k ≤ K) (hH : ∀ i, 0 < i → i < k → H (b + i) = rnc (emb b k K) (h i)) (hok : ∀ i, 0 < i → i < k → aw_okc k (h i)) (hoa : ∀ v ∈ as, aw_ok k v) (has : as.map (aw_cv (emb b k K)) = as') :
    AM μ d as' H K mc ms (FQ b k K H Q) := by
  subst has
  intro l D cT ad sz hl
  intro p e ha hc hkk s m args below hf happ hP hK2
  obtain ⟨hP0, hP1, hP2, hP3, hP4⟩ := hP
  subst hP1
  obtain ⟨hsub, hw⟩ := frame_pre (U := s) (sz := s.heap.size) hk hK hH hok hP3
  have eargs : (as.map (aw_cv (emb b k K))).map (aw_cv ad) = as.map (aw_cv fun i => ad (b + i)) := by
    rw [List.map_map]
    refine List.map_congr_left fun v hv => ?_
    show aw_cv ad (aw_cv (emb b k K) v) = _
    rw [rn_cv]
    exact aw_cv_congr (hoa v hv) fun i hi => by show ad (emb b k K i) = ad (b + i); rw [emb_lo hi]
  obtain ⟨n, o, g1, g2, g3, g4⟩ := hM l D cT (fun i => ad (b + i)) s.heap.size hl p e ha hc hkk s m args below hf happ ⟨by rw [hP0, eargs], rfl, hoa, hw, hP4.moved (State.WarmedH.refl s) (fun _ _ _ => rfl) hsub⟩ hK2
  refine ⟨n, o, g1, g2, g3, ?_⟩
  rcases g4 with ⟨⟨⟨v, h', k', ad', rfl, hq, c1, c2, c3, c4⟩, hF⟩, L, f1, f2⟩ | ⟨q, rfl, E, ce, L, ⟨⟨h', k', ad', hq, c1, c2, c4⟩, hF⟩, t1, t2, t3, t4, t5, t6⟩
  · obtain ⟨b1, b2, b3, b4, b5⟩ := frame_post hk hK c2 hP3 hH hok c1 c4 hF
    refine Or.inl ⟨⟨⟨v.map (aw_cv (emb b k K)), fr_h H h' b k K, K + (k' - k), fr_ad ad ad' k K, ?_, ⟨.inl v, h', k', hq, c2, rfl, rfl, b2, b3⟩, b4, by omega, fun w hw9 => ?_, b5⟩, hF.1, fun q h1 h2 => hF.2 q h1 (fun z => h2 (hsub q z))⟩, L, f1, fun q hq => hsub _ (f2 q hq)⟩
    · congr 1
      cases v with
      | none => rfl
      | some v =>
        show some (aw_cv ad' v) = some (aw_cv (fr_ad ad ad' k K) (aw_cv (emb b k K) v))
        rw [rn_cv]
        congr 1
        exact (aw_cv_congr (c3 v rfl) b1).symm
    · cases v with
      | none => cases hw9
      | some v =>
        cases hw9
        refine rn_okv (c3 v rfl) fun r hr => ?_
        by_cases q : r < k
        · rw [emb_lo q]; omega
        · rw [emb_hi (by omega)]; omega
  · obtain ⟨b1, b2, b3, b4, b5⟩ := frame_post hk hK c2 hP3 hH hok c1 c4 hF
    exact Or.inr ⟨q, rfl, E, ce, L, ⟨⟨fr_h H h' b k K, K + (k' - k), fr_ad ad ad' k K, ⟨.inr E, h', k', hq, c2, rfl, rfl, b2, b3⟩, b4, by omega, b5⟩, hF.1, fun q h1 h2 => hF.2 q h1 (fun z => h2 (hsub q z))⟩, t1, t2, t3, t4, t5, fun z hz => hsub _ (t6 z hz)⟩
/-- a weaker end -/
theorem AM.weaken {μ : Mt} {d : Nat} {as : List Value} {h : Hp} {k mc ms : Nat} {Q Q' : Po} (hM : AM μ d as h k mc ms Q) (hQ : ∀ o h' k', Q o h' k' → Q' o h' k') : AM μ d as h k mc ms Q' := by
  intro l D cT ad sz hl p e ha hc hkk s m args below hf happ hP hK2
  obtain ⟨n, o, g1, g2, g3, g4⟩ := hM l D cT ad sz hl p e ha hc hkk s m args below hf happ hP hK2
  refine ⟨n, o, g1, g2, g3, ?_⟩
  rcases g4 with ⟨⟨⟨v, h', k', ad', rfl, hq, c⟩, hF⟩, r⟩ | ⟨q, rfl, E, ce, L, ⟨⟨h', k', ad', hq, c⟩, hF⟩, r⟩
  · exact Or.inl ⟨⟨⟨v, h', k', ad', rfl, hQ _ _ _ hq, c⟩, hF⟩, r⟩
  · exact Or.inr ⟨q, rfl, E, ce, L, ⟨⟨h', k', ad', hQ _ _ _ hq, c⟩, hF⟩, r⟩
section Ren
variable {Z : Gz} {μ : Mt} {d k0 mc ms : Nat} {Q : Po} {pc : Nat} {L S L' S' : List Value} {h h' : Hp} {k k' cs ss : Nat}
theorem aw_ws_congr {cT : FieldType → ClassId} {ad : Nat → Nat} {h h' : Hp} {k : Nat} (hj : ∀ i, 0 < i → i < k → h i = h' i) : aw_ws cT ad h k = aw_ws cT ad h' k := by
  unfold aw_ws
  refine List.map_congr_left fun i hi => ?_
  rw [hj (i + 1) (Nat.succ_pos i) (by have := List.mem_range.mp hi; omega)]
/-- what lies at no id of the world may be taken to be anything -/
theorem AW.junk (hj : ∀ i, 0 < i → i < k → h i = h' i) (K : AW Z μ d k0 mc ms Q pc L S h' k cs ss) : AW Z μ d k0 mc ms Q pc L S h k cs ss := by
  intro l D cT p e s m args below meth c ad0 ad A H locs ls hC ha hk hS hw hl hs
  refine K l D cT p e s m args below meth c ad0 ad A H locs ls hC ha hk hS ?_ hl hs
  obtain ⟨h1, h2, h3, h4, h5⟩ := hw
  rw [aw_ws_congr hj] at h1 h2
  exact ⟨h1, h2, h3, h4, fun i h0 hi => hj i h0 hi ▸ h5 i h0 hi⟩
theorem AM.junk {as : List Value} (hj : ∀ i, 0 < i → i < k → h i = h' i) (hM : AM μ d as h' k mc ms Q) : AM μ d as h k mc ms Q := by
  intro l D cT ad sz hl
  have := hM l D cT ad sz hl
  rw [← aw_ws_congr (cT := cT) (ad := ad) hj] at this
  intro p e ha hc hkk s m args below hf happ hP hK2
  refine this p e ha hc hkk s m args below hf happ ⟨hP.1, hP.2.1, hP.2.2.1, ?_, hP.2.2.2.2⟩ hK2
  obtain ⟨h1, h2, h3, h4, h5⟩ := hP.2.2.2.1
  have e2 := aw_ws_congr (cT := cT) (ad := ad) hj
  exact ⟨by rw [← e2]; exact h1, by rw [← e2]; exact h2, h3, h4, fun i h0 hi => hj i h0 hi ▸ h5 i h0 hi⟩
/-- all ids from k0 on are forgotten -/
theorem AW.forget (hk0 : 0 < k0) (hkk : k0 ≤ k) (hS : S = []) (hL : ∀ (i : Nat) (v : Value), L'[i]? = some v → v ≠ .null → L[i]? = some v ∧ aw_ok k0 v) (hokc : ∀ i, 0 < i → i < k0 → aw_okc k0 (h i)) (K : AW Z μ d k0 mc ms Q pc L' [] h k0 cs ss) : AW Z μ d k0 mc ms Q pc L S h k cs ss := by
  subst hS
  intro l D cT p e s m args below meth c ad0 ad A H locs ls hC ha hk hS2 hw hl hs
  have hin : ∀ j q, (aw_ws cT ad h k0)[j]? = some q → (aw_ws cT ad h k)[j]? = some q := fun j q hq => by
    obtain ⟨h1, h2⟩ := aw_ws_out hq
    rw [h2]
    exact aw_ws_at cT ad h (i := j + 1) (Nat.succ_pos j) (by omega)
  refine K l D cT p e s m args below meth c ad0 ad A H locs ls hC ha (Nat.le_refl _) hS2 ⟨fun j q hq => hw.1 j q (hin j q hq), ⟨fun i j p q hp hq e => hw.2.1.1 i j p q (hin i p hp) (hin j q hq) e, fun j q hq => hw.2.1.2 j q (hin j q hq)⟩, hw.2.2.1, hk0, hokc⟩ ⟨hl.1, hl.2.1, fun i v h1 h2 => ⟨(hl.2.2 i v (hL i v h1 h2).1 h2).1, (hL i v h1 h2).2⟩⟩ (fun v hv => nomatch hv)
end Ren
/-! the script, at id 0 -/
def aw_ZL (L : Nat) (xs : Nat → Int32) : Gz := fun s A ad0 => va_X (ad0 0) L xs s s.heap ∧ ad0 0 < s.heap.size ∧ ¬ A (ad0 0)
/-- a contract of a method that reads the script -/
def AMz (n : Nat) (xs : Nat → Int32) (μ : Mt) (d : Nat) (as : List Value) (h : Hp) (k mc ms : Nat) (Q : Po) : Prop :=
  ∀ (l : Launch) (D : va_G) (cT : FieldType → ClassId) (ad : Nat → Nat) (sz : Nat), l.stackTraces = false →
    vx_Met l μ.1 [aw_cw μ] (aw_R d mc ms) (va_Pc (as.map (aw_cv ad)) (fun U => (U.heap.size = sz ∧ (∀ v ∈ as, aw_ok k v) ∧ aw_Wo D cT (va_A (aw_ws cT ad h k) sz) ad h k U.heap U ∧ aw_GF (va_A (aw_ws cT ad h k) sz) U) ∧ aw_ZL n xs U (va_A (aw_ws cT ad h k) sz) ad))
      (aw_Qc D cT (va_A (aw_ws cT ad h k) sz) ad k Q) (aw_Xc D cT (va_A (aw_ws cT ad h k) sz) ad k Q) mc ms (va_A (aw_ws cT ad h k) sz)
set_option maxHeartbeats 4000000 in
theorem AMz.intro {N : Nat} {xs : Nat → Int32} {μ : Mt} {d n : Nat} {as L : List Value} {h : Hp} {k mc ms : Nat} {Q : Po} (hy : plainName μ.1.cls = true) (hh : μ.2.2.2.2 = []) (hn : (aw_loc as).length + n = μ.2.2.1) (hL : aw_loc as ++ List.replicate n .null = L)
    (K : AW (aw_ZL N xs) μ d k mc ms Q 0 L [] h k 0 0) : AMz N xs μ d as h k mc ms Q := by
  intro l D cT ad sz hl
  have hcw : aw_cw μ = .code μ.1 μ.2.1 μ.2.2.1 μ.2.2.2.1 := by unfold aw_cw; rw [hh]
  refine vx_ofW (cc := μ.2.1) (maxL := μ.2.2.1) (ret := μ.2.2.2.1) (ws' := []) hy (by rw [hcw]) ?_
  intro p e s m args below meth c s₁ B hml ht hv
  obtain ⟨rfl, ⟨hsz, hok, hw, hg⟩, hz⟩ := hv
  subst hsz
  have hnm := (name_of_methodNamed B.named B.method).1
  rw [lg_entry_eq]
  refine K l D cT p e s m _ below meth c ad ad _ s.heap [] _ ⟨hl, B.exec, B.bytes, hml, B.returns, B.notSynchronized, hnm, findClass_of_methodNamed B.named, ?_, hg, fun q hq => Or.inr hq, hz⟩ (fun _ _ => rfl) (Nat.le_refl _) va_S.rf hw (aw_entry hn hL hok) (fun v hv => nomatch hv)
  rw [hh]
  cases he : c.exceptionTable.toList with
  | nil => rfl
  | cons x y => exact absurd (ht x (by rw [he]; exact List.mem_cons_self)) id
theorem aw_blindz {N : Nat} {xs : Nat → Int32} {D : va_G} {cT : FieldType → ClassId} {ad : Nat → Nat} {as : List Value} {h : Hp} {k sz : Nat} : FrameBlind (va_Pc (as.map (aw_cv ad)) (fun U => (U.heap.size = sz ∧ (∀ v ∈ as, aw_ok k v) ∧ aw_Wo D cT (va_A (aw_ws cT ad h k) sz) ad h k U.heap U ∧ aw_GF (va_A (aw_ws cT ad h k) sz) U) ∧ aw_ZL N xs U (va_A (aw_ws cT ad h k) sz) ad)) := by
  intro a U g mk q
  obtain ⟨q0, ⟨q1, q2, q3, q4⟩, q5, q6, q7⟩ := q
  have hb := aw_blind (D := D) (cT := cT) (ad := ad) (as := as) (h := h) (k := k) (sz := sz) a U g mk ⟨q0, q1, q2, q3, q4⟩
  exact ⟨hb.1, hb.2, va_X.moved (u := U) (U := U.calling g mk a) (Vm.Alike.refl U.vm) q5, q6, q7⟩
theorem aw_prez {N : Nat} {xs : Nat → Int32} {D : va_G} {cT : FieldType → ClassId} {A : Nat → Prop} {ad ad0 : Nat → Nat} {as : List Value} {h : Hp} {k : Nat} {H : Heap} {s : State} {locs : List Loc} (hw : aw_Wo D cT A ad h k H s) (hS : va_S A s.heap H locs) (hA : ∀ q, s.heap.size ≤ q → A q) (hg : aw_GF A s) (hok : ∀ v ∈ as, aw_ok k v) (hz : aw_ZL N xs s A ad0) (h0 : ad 0 = ad0 0) :
    ∀ U : State, U.heap = H → s.WarmedH U.vm → va_Pc (as.map (aw_cv ad)) (fun U => (U.heap.size = H.size ∧ (∀ v ∈ as, aw_ok k v) ∧ aw_Wo D cT (va_A (aw_ws cT ad h k) H.size) ad h k U.heap U ∧ aw_GF (va_A (aw_ws cT ad h k) H.size) U) ∧ aw_ZL N xs U (va_A (aw_ws cT ad h k) H.size) ad) (as.map (aw_cv ad)).toArray U := by
  intro U hU hW
  have hp := aw_pre hw hS hA hg hok U hU hW
  have hF := aw_free hw hS hA
  subst hU
  refine ⟨hp.1, hp.2, ?_⟩
  unfold aw_ZL at hz ⊢
  rw [h0]
  exact ⟨(hz.1.kept (hS.2.1 _ hz.2.1 hz.2.2)).moved hW.alike, Nat.lt_of_lt_of_le hz.2.1 hS.1, fun q => hz.2.2 (hF _ q)⟩
section Scr
variable {N : Nat} {xs : Nat → Int32} {μ : Mt} {d k0 mc ms : Nat} {Q : Po} {pc : Nat} {L S : List Value} {h : Hp} {k cs ss : Nat}
theorem AW.sld {i v : Int32} (hd : decode μ.2.1 pc = .ok (.iaload, 1)) (hk0 : 0 < k0) (hin : vp_in i N) (hv : xs i.toNatClampNeg = v) (K : AW (aw_ZL N xs) μ d k0 mc ms Q (pc + 1) L (.int v :: S) h k cs ss) : AW (aw_ZL N xs) μ d k0 mc ms Q pc L (.int i :: .ref 0 :: S) h k cs ss := by
  subst hv
  intro l D cT p e s m args below meth c ad0 ad A H locs ls hC ha hk hS hw hl hs
  have hZ : aw_ZL N xs s A ad0 := hC.2.2.2.2.2.2.2.2.2.2.2
  have e0 : aw_cv ad (.ref 0) = .ref (ad0 0) := by
    show Value.ref (ad 0) = _
    rw [ha 0 hk0]
  rw [List.map_cons, List.map_cons, e0]
  exact va_sld hC.2.1 hC.2.2.1 hZ.1 hZ.2.1 hZ.2.2 hS hin hd (K l D cT p e s m args below meth c ad0 ad A H locs ls hC ha hk hS hw hl (aw_ok_cons aw_okI (aw_ok_tail (aw_ok_tail hs))))
theorem AW.slen (hd : decode μ.2.1 pc = .ok (.arraylength, 1)) (hk0 : 0 < k0) (K : AW (aw_ZL N xs) μ d k0 mc ms Q (pc + 1) L (.int (Int32.ofNat N) :: S) h k cs ss) : AW (aw_ZL N xs) μ d k0 mc ms Q pc L (.ref 0 :: S) h k cs ss := by
  intro l D cT p e s m args below meth c ad0 ad A H locs ls hC ha hk hS hw hl hs
  have hZ : aw_ZL N xs s A ad0 := hC.2.2.2.2.2.2.2.2.2.2.2
  have e0 : aw_cv ad (.ref 0) = .ref (ad0 0) := by
    show Value.ref (ad 0) = _
    rw [ha 0 hk0]
  rw [List.map_cons, e0]
  exact va_slen hC.2.1 hC.2.2.1 hZ.1 hZ.2.1 hZ.2.2 hS hd (K l D cT p e s m args below meth c ad0 ad A H locs ls hC ha hk hS hw hl (aw_ok_cons aw_okI (aw_ok_tail hs)))
theorem AW.callVz {μ' : Mt} {d' mc' ms' index n i ci : Nat} {q : vw_C} {fs as S' : List Value} {R : Po} (hd : decode μ.2.1 pc = .ok (.invokevirtual index, 3)) (hM : AMz N xs μ' d' (.ref i :: as) h k mc' ms' R) (hk0 : 0 < k0) (hm : aw_mok μ' n) (hin : Cond.instanceMethod μ'.1 ∈ lw_tbl) (hsel : Cond.selects μ'.1.cls μ'.1 μ'.1 ∈ lw_tbl) (hlink : Cond.methodLink μ.1.cls index μ'.1 ∈ lw_tbl)
    (h0 : 0 < i) (hh : h i = .inr (ci, fs)) (hc : aw_cl[ci]? = some q) (hq : q.1 = μ'.1.cls) (hn : as.length = n) (hd' : d' + 1 ≤ d) (hS2 : S = as.reverse ++ .ref i :: S') (hcat : (S'.map fun v => v.category).sum ≤ 8) (hcs : cs + mc' ≤ mc) (hss : ss + ms' ≤ ms)
    (K : ∀ (v : Option Value) (h' : Hp) (k' : Nat), R (.inl v) h' k' → AW (aw_ZL N xs) μ d k0 mc ms Q (pc + 3) L (v.toList ++ S') h' k' (cs + mc') (ss + ms'))
    (KX : ∀ (E : String) (h' : Hp) (k' : Nat), R (.inr E) h' k' → AX (aw_ZL N xs) μ d k0 mc ms Q E pc L h' k' (cs + mc') (ss + ms')) : AW (aw_ZL N xs) μ d k0 mc ms Q pc L S h k cs ss := by
  intro l D cT p e s m args below meth c ad0 ad A H locs ls hC ha hk hS hw hl hs
  have hg := hC.2.2.2.2.2.2.2.2.2.1
  have hik : i < k := hs (.ref i) (by rw [hS2]; exact List.mem_append_right _ List.mem_cons_self)
  have hok : ∀ v ∈ Value.ref i :: as, aw_ok k v := fun v hv => by
    rcases List.mem_cons.mp hv with rfl | hv
    · exact hik
    · exact hs v (by rw [hS2]; exact List.mem_append_left _ (List.mem_reverse.mpr hv))
  have hok2 : ∀ v ∈ S', aw_ok k v := fun v hv => hs v (by rw [hS2]; exact List.mem_append_right _ (List.mem_cons_of_mem _ hv))
  have hr := vx_runV (e := e) (below := below) (meth := meth) (As := as.map (aw_cv ad)) (rest := S'.map (aw_cv ad)) (b := ad i) (C := μ'.1.cls) (Ts := []) (locs := locs) (cells := cs) (slots := ss) (g := F0 m pc ls (S.map (aw_cv ad))) (nL := μ.2.2.1) ⟨hC.2.1, hC.2.2.1, hC.2.2.2.1, hC.2.2.2.2.2.2.2.1, fun w h => nomatch h⟩ (hM l D cT ad H.size hC.1) ⟨aw_callB (μ := μ) (d := d) (mc := mc) (ms := ms) (d' := d') (mc' := mc') (ms' := ms') hm hg hd' (aw_hts hg hlink rfl), aw_hts (args := args) hg hin rfl, aw_hts hg hsel rfl⟩
    ⟨aw_blindz, by rw [← hq]; exact va_recv hw.2.2.1 hw.1 hc (aw_at_obj h0 hik hh), aw_prez hw hS hC.2.2.2.2.2.2.2.2.2.2.1 hg hok hC.2.2.2.2.2.2.2.2.2.2.2 (ha 0 hk0)⟩
    rfl (by rw [List.length_map]; exact hn) hl.1 (by show S.map _ = _; rw [hS2, List.map_append, List.map_reverse]; rfl) (aw_stW hcat) hd ⟨hcs, hss⟩
  exact aw_run hr hC ha hk hS hw hl hok2 K KX
theorem AW.callSNz {μ' : Mt} {d' mc' ms' index n : Nat} {host : String} {as S' : List Value} {R : Po} (hd : decode μ.2.1 pc = .ok (.invokestatic index, 3)) (hM : AMz N xs μ' d' as h k mc' ms' R) (hk0 : 0 < k0) (hm : aw_mok μ' n) (hst : Cond.static μ'.1 ∈ lw_tbl) (hlink : Cond.methodLinkNest μ.1.cls index μ'.1 host ∈ lw_tbl) (hn : as.length = n) (hd' : d' + 1 ≤ d) (hS2 : S = as.reverse ++ S') (hcat : (S'.map fun v => v.category).sum ≤ 8) (hcs : cs + mc' ≤ mc) (hss : ss + ms' ≤ ms) (hX : ∀ E h' k', ¬ R (.inr E) h' k')
    (K : ∀ (v : Option Value) (h' : Hp) (k' : Nat), R (.inl v) h' k' → AW (aw_ZL N xs) μ d k0 mc ms Q (pc + 3) L (v.toList ++ S') h' k' (cs + mc') (ss + ms')) : AW (aw_ZL N xs) μ d k0 mc ms Q pc L S h k cs ss := by
  intro l D cT p e s m args below meth c ad0 ad A H locs ls hC ha hk hS hw hl hs
  have hg := hC.2.2.2.2.2.2.2.2.2.1
  have hok : ∀ v ∈ as, aw_ok k v := fun v hv => hs v (by rw [hS2]; exact List.mem_append_left _ (List.mem_reverse.mpr hv))
  have hok2 : ∀ v ∈ S', aw_ok k v := fun v hv => hs v (by rw [hS2]; exact List.mem_append_right _ hv)
  have hMM := aw_met (hM l D cT ad H.size hC.1) (fun E st t hx => by obtain ⟨⟨h', k', ad', hx, -⟩, -⟩ := hx; exact hX _ _ _ hx)
  have hr := va_runSN (e := e) (below := below) (meth := meth) (As := as.map (aw_cv ad)) (rest := S'.map (aw_cv ad)) (Ts := []) (locs := locs) (cells := cs) (slots := ss) (g := F0 m pc ls (S.map (aw_cv ad))) (nL := μ.2.2.1) ⟨hC.2.1, hC.2.2.1, hC.2.2.2.1, hC.2.2.2.2.2.2.2.1, fun w h => nomatch h⟩ hMM ⟨aw_callN (μ := μ) (d := d) (mc := mc) (ms := ms) (d' := d') (mc' := mc') (ms' := ms') hm hg hd' (aw_hts (args := args) hg hlink rfl), aw_hts (args := args) hg hst rfl, trivial⟩ ⟨aw_blindz, aw_prez hw hS hC.2.2.2.2.2.2.2.2.2.2.1 hg hok hC.2.2.2.2.2.2.2.2.2.2.2 (ha 0 hk0)⟩
    rfl (by rw [List.length_map]; exact hn) hl.1 (aw_rev hS2) (aw_stW hcat) hd ⟨hcs, hss⟩
  exact aw_run (aw_unrun hr) hC ha hk hS hw hl hok2 K (fun E h' k' hx => absurd hx (hX _ _ _))
end Scr
end
section
/-! THE CLAIM OUT OF ONE WALK OF THE LAW'S BODY. Your part is whole_start (and what it stands on); all else here is the same for every law, but numbers. -/
def R_law : String := "FoundryNineLaw"
def lw_P (b : Addr) (xs : List Int32) (args : Array Value) (s : State) : Prop := args = #[.ref b] ∧ s.IntsAt b xs ∧ xs.length ≤ 260 ∧ (Jvm.Cond.and given_1 narrow_1).before args s = true
def lw_Q (_ : Array Value) (s : State) (o : Outcome) (t : State) : Prop := o = .returned (some (.int 1)) ∧ Framed s o t [] 600074 7301550
def lw_Z (below : List Frame) (a : Array Value) (s : State) : State → Prop := fun t => ∃ o, t.status = .running ∧ Ended t below o ∧ lw_Q a s o t
/-- the law's own end, with 1 on the stack, nothing written that was there before, its room as the claim has it -/
theorem lw_ret {p : Program} {l : Launch} {e : Env} {s : State} {m : MethodId} {below : List Frame} {meth : Method} {c : Code} {b : Nat} (hx : p.tables.exec = Jvm.exec) (hb : c.code = code) (hr : meth.sig.returnType = ret) (hlocks : meth.locks = false) {pc : Nat} {H : Heap} {ls : Array Slot} (hdg : decode code pc = .ok (.ireturn, 1)) : W p l e room_1 s m #[Value.ref b] below meth c H [] 600074 7301550 (lw_Z below #[Value.ref b] s) (F0 m pc ls [.int 1]) := by
  intro T hT X
  obtain ⟨fs, hret, hrun, hended, hW, hframe⟩ := X.leave (v := some (.int 1)) (hlocks := hlocks) (fun h => by rw [hr] at h; cases h)
  have hmeth' : T.vm.method? m = some meth := X.method'
  refine ⟨T.setFrames fs, ?_, .returned (some (.int 1)), hrun, hended, rfl, ⟨_, rfl⟩, hW, hframe⟩
  jvm_step X.here [X.here.top, hx, hb, hdg, hmeth', hr, ret, narrow_b1]
  (try refine ⟨rfl, ?_⟩); (try refine ⟨rfl, ?_⟩)
  first | (intro acts; rw [hret _ acts rfl rfl rfl]) | rw [hret _ _ rfl rfl rfl]
  exact Steps.refl _
/-- what holds at the law's entry: the machine, the code, the tables' words (any of lw_tbl by 'hts w (by decide +kernel)'), the script of L ints xs at the cell b, what the Statement gives of the start (any of its parts by flat_of_before) -/
def lw_At (p : Program) (s : State) (m : MethodId) (meth : Method) (c : Code) (b L : Nat) (xs : Nat → Int32) : Prop :=
  p.tables.exec = Jvm.exec ∧ c.code = code ∧ meth.sig.returnType = ret ∧ c.maxLocals = 22 ∧ s.vm.findClass R_law = some m.cls ∧ (∀ w ∈ lw_tbl, w.before #[Value.ref b] s = true) ∧ va_X b L xs s s.heap ∧ b < s.heap.size ∧ meth.locks = false ∧ (Jvm.Cond.and given_1 narrow_1).before #[Value.ref b] s = true
/-! AW: the law's own start and end -/
theorem aw_ex0 : ∀ q ∈ aw_str, Cond.exactly (.string q.1 q.2.1) "java/lang/String" ∈ flatC (Jvm.Cond.and given_1 narrow_1) := by decide +kernel
theorem aw_nc0 : ∀ x ∈ aw_exc, ∀ y ∈ aw_exc, x ≠ y → Cond.not (.castable x y) ∈ flatC (Jvm.Cond.and given_1 narrow_1) := by decide +kernel
theorem aw_th0 : Cond.laysStatic Bundle.tN "UNASSIGNED_STACK" Bundle.steD ∈ lw_tbl ∧ Cond.laysStatic Bundle.tN "SUPPRESSED_SENTINEL" Bundle.listD ∈ lw_tbl ∧ Cond.initialized Bundle.tN ∈ lw_tbl ∧
    Cond.isRef (.static Bundle.tN "UNASSIGNED_STACK" Bundle.steD) ∈ flatC (Jvm.Cond.and given_1 narrow_1) ∧ Cond.isRef (.static Bundle.tN "SUPPRESSED_SENTINEL" Bundle.listD) ∈ flatC (Jvm.Cond.and given_1 narrow_1) := by decide +kernel
theorem aw_GF0 {args : Array Value} {s : State} (hts : ∀ w ∈ lw_tbl, w.before args s = true) (hgv : (Jvm.Cond.and given_1 narrow_1).before args s = true) : aw_GF (fun q => s.heap.size ≤ q) s := by
  have hf := flat_of_before _ hgv
  refine ⟨fun w hw ho => aw_stable ho (State.WarmedH.refl s) (hts w hw), fun q hq => ?_, fun x hx y hy hxy => va_Nc.of (hf _ (aw_nc0 x hx y hy hxy)), ?_, ?_, hts _ aw_q0⟩
  · obtain ⟨w, hw, he⟩ := List.mem_filterMap.mp hq
    have h1 := hts w hw
    have h2 := hf _ (aw_ex0 q hq)
    obtain ⟨a, c, cell, k, h3, -⟩ := Cond.exactly_spec h2
    cases w <;> first | (cases he) | skip
    exact ⟨a, vk_R.of h1 h3⟩
  · exact vx_Zqof (hts _ aw_th0.1) (hts _ aw_th0.2.2.1) (hf _ aw_th0.2.2.2.1) (fun a h1 h2 => Nat.not_lt.mpr h2 h1)
  · exact vx_Zqof (hts _ aw_th0.2.1) (hts _ aw_th0.2.2.1) (hf _ aw_th0.2.2.2.2) (fun a h1 h2 => Nat.not_lt.mpr h2 h1)
theorem aw_arr0 {args : Array Value} {s : State} {ty : FieldType} (h : (Cond.arrayClass ty).before args s = true) : ∃ c, ArrOfT s c ty ∧ s.vm.findClass ("[" ++ ty.toString) = some c := by
  obtain ⟨c, k, comp, h1, h2, h3⟩ := Cond.arrayClass_spec h
  exact ⟨c, fun n z => ⟨fun q hq => (by cases hq), k, h2, comp, h3⟩, h1⟩
theorem aw_ar0 : Cond.arrayClass .int ∈ lw_tbl ∧ Cond.arrayClass .boolean ∈ lw_tbl ∧ Cond.arrayClass .byte ∈ lw_tbl ∧ Cond.instantiable RX0 1 ∈ lw_tbl ∧ Cond.instantiable RX1 12 ∈ lw_tbl ∧ Cond.instantiable RX2 6 ∈ lw_tbl ∧ Cond.instantiable RX3 18 ∈ lw_tbl ∧ Cond.instantiable RX4 7 ∈ lw_tbl ∧ Cond.instantiable RX5 14 ∈ lw_tbl := by decide +kernel
theorem aw_K0 {args : Array Value} {s : State} (hts : ∀ w ∈ lw_tbl, w.before args s = true) : ∃ (D : va_G) (cT : FieldType → ClassId), va_K D aw_cl (aw_tys cT) s := by
  obtain ⟨a1, a2, a3, i0, i1, i2, i3, i4, i5⟩ := aw_ar0
  obtain ⟨t1, t1a, t1b⟩ := aw_arr0 (hts _ a1)
  obtain ⟨t2, t2a, t2b⟩ := aw_arr0 (hts _ a2)
  obtain ⟨t3, t3a, t3b⟩ := aw_arr0 (hts _ a3)
  obtain ⟨c0, s0, k0⟩ := u_known hts (fun w h => (aw_cw0 w h).1) (hts _ i0)
  obtain ⟨c1, s1, k1⟩ := u_known hts (fun w h => (aw_cw1 w h).1) (hts _ i1)
  obtain ⟨c2, s2, k2⟩ := u_known hts (fun w h => (aw_cw2 w h).1) (hts _ i2)
  obtain ⟨c3, s3, k3⟩ := u_known hts (fun w h => (aw_cw3 w h).1) (hts _ i3)
  obtain ⟨c4, s4, k4⟩ := u_known hts (fun w h => (aw_cw4 w h).1) (hts _ i4)
  obtain ⟨c5, s5, k5⟩ := u_known hts (fun w h => (aw_cw5 w h).1) (hts _ i5)
  obtain ⟨comp, t4, k4', q1, -, q3, q4, q5⟩ := arrayOverA_spec (hts _ aw_q0)
  have t4a : ArrOfT s t4 (.array .int) := fun n z => ⟨fun q hq => (by cases hq), k4', q3, comp, q4⟩
  refine ⟨(fun k => [c0, c1, c2, c3, c4, c5].getD k 0, fun k => [s0, s1, s2, s3, s4, s5].getD k (fun _ => 0)), fun t => match t with | .int => t1 | .boolean => t2 | .byte => t3 | _ => t4, ?_, ?_⟩
  · intro k q hq
    match k, hq with
    | 0, hq => cases hq; exact k0
    | 1, hq => cases hq; exact k1
    | 2, hq => cases hq; exact k2
    | 3, hq => cases hq; exact k3
    | 4, hq => cases hq; exact k4
    | 5, hq => cases hq; exact k5
    | k + 6, hq => simp at hq
  · intro k q hq
    match k, hq with
    | 0, hq => cases hq; exact ⟨t1a, t1b⟩
    | 1, hq => cases hq; exact ⟨t2a, t2b⟩
    | 2, hq => cases hq; exact ⟨t3a, t3b⟩
    | 3, hq => cases hq; exact ⟨t4a, q5⟩
    | k + 4, hq => simp [aw_tys] at hq
theorem aw_room_le {s : State} {pl : Platform} {r r' : Room} (hf : r.frames ≤ r'.frames) (hl : r.locals ≤ r'.locals) (hc : r.cells ≤ r'.cells) (hs : r.slots ≤ r'.slots) (h : s.hasRoom pl r' = true) : s.hasRoom pl r = true := by
  simp only [State.hasRoom, Bool.and_eq_true, decide_eq_true_eq] at h ⊢
  obtain ⟨⟨⟨⟨h1, h2, h3, h4, h5, h6⟩, h7⟩, h8⟩, h9⟩ := h
  exact ⟨⟨⟨⟨by omega, by omega, by omega, by omega, by omega, h6⟩, by omega⟩, by omega⟩, h9⟩
abbrev mlaw : Mt := (x, code, 22, ret, [])
def aw_QL : Po := fun o _ _ => o = .inl (some (.int 1))
theorem aw_law {p : Program} {e : Env} {s : State} {m : MethodId} {below : List Frame} {meth : Method} {c : Code} (l : Launch) (hflags : l.flags = flags0) {b L : Nat} {xs : Nat → Int32} (C0 : lw_At p s m meth c b L xs) (hnm : meth.name = x.name) (htb : c.exceptionTable.toList = [])
    (K : ∀ h : Hp, AW (aw_ZL L xs) mlaw 2028 1 600074 7301550 aw_QL 0 (.ref 0 :: List.replicate 21 .null) [] h 1 0 0) :
    W p l e room_1 s m #[Value.ref b] below meth c s.heap [] 0 0 (lw_Z below #[Value.ref b] s) (entryFrame m ([Value.ref b] : List Value).toArray 22) := by
  obtain ⟨hx, hb, hr, hml, hown, hts, hX, hbl, hlocks, hgv⟩ := id C0
  obtain ⟨D, cT, hK⟩ := aw_K0 hts
  have hst : l.stackTraces = false := by
    show (!l.flags.contains noTraceFlag) = false
    rw [hflags]
    decide +kernel
  have hent := aw_entry (ad := fun _ => b) (k := 1) (nL := 22) (n := 21) (as := [.ref 0]) (L := (.ref 0 :: List.replicate 21 .null)) rfl rfl (fun v hv => by rw [List.mem_singleton] at hv; subst hv; exact Nat.one_pos)
  have hA : ¬ (fun q : Nat => s.heap.size ≤ q) b := Nat.not_le.mpr hbl
  have hW := K (fun _ => .inr (0, [])) l D cT p e s m #[Value.ref b] below meth c (fun _ => b) (fun _ => b) (fun q : Nat => s.heap.size ≤ q) s.heap [] _
    ⟨hst, hx, hb, hml, hr, hlocks, hnm, hown, htb, aw_GF0 hts hgv, fun q hq => hq, hX, hbl, hA⟩ (fun _ _ => rfl) (Nat.le_refl _) va_S.rf
    ⟨fun k q h => by simp [aw_ws] at h, ⟨fun i j p q h => by simp [aw_ws] at h, fun k q h => by simp [aw_ws] at h⟩, hK, Nat.one_pos, fun i h0 h1 => absurd h1 (by omega)⟩ hent (fun v hv => nomatch hv)
  rw [lg_entry_eq]
  intro T hT X
  obtain ⟨t, a1, o, b1, b2, b3⟩ := hW T hT { X with room := aw_room_le (Nat.le_of_ble_eq_true rfl) (Nat.le_of_ble_eq_true rfl) (Nat.le_of_ble_eq_true rfl) (Nat.le_of_ble_eq_true rfl) X.room }
  refine ⟨t, a1, o, b1, b2, ?_⟩
  rcases b3 with ⟨⟨⟨v, h', k', ad', rfl, hq, -⟩, -⟩, Lc, hF, hL⟩ | ⟨q, rfl, E, ce, Lc, ⟨⟨h', k', ad', hq, -⟩, -⟩, -⟩
  · have hv : v = some (.int 1) := Sum.inl.inj hq
    subst hv
    refine ⟨rfl, ?_⟩
    obtain ⟨f1, f2, f3⟩ := hF
    refine ⟨f1, f2, ?_⟩
    exact f3.weaken (fun y hy hlt => absurd hlt (Nat.not_lt.mpr (hL y hy))) (Nat.le_refl _) (Nat.le_refl _)
  · exact absurd hq (fun e => by cases e)
end
section
/-! the layout: the class's cells (ids 1 to 46), the reference's (47 to 59; its row at t), the law's row of one long (61) -/
abbrev Mem : Type := Nat → Nat → Int32
def up2 (m : Mem) (i j : Nat) (v : Int32) : Mem := va_up m i (upd (m i) j v)
def sh (t : Nat) (ex : Hp) (o : Nat → Int64) (i : Nat) (g : Nat → Int32) : Ce := match i with
  | 1 => .inr (4, [.ref 2, .ref 14, .ref 19, .ref 21, .ref 23, .ref 35, .int (g 6)])
  | 2 => .inr (1, [.ref 3, .ref 4, .ref 5, .ref 6, .ref 7, .ref 8, .ref 9, .ref 10, .ref 11, .ref 12, .ref 13, .int (g 11)])
  | 3 => .inl (.int, 30, .inl g)
  | 4 => .inl (.int, 30, .inl g)
  | 5 => .inl (.int, 30, .inl g)
  | 6 => .inl (.int, 30, .inl g)
  | 7 => .inl (.int, 30, .inl g)
  | 8 => .inl (.int, 30, .inl g)
  | 9 => .inl (.int, 30, .inl g)
  | 10 => .inl (.int, 30, .inl g)
  | 11 => .inl (.int, 24, .inl g)
  | 12 => .inl (.int, 24, .inl g)
  | 13 => .inl (.int, 24, .inl g)
  | 14 => .inr (2, [.ref 15, .ref 16, .ref 17, .ref 18, .int (g 4), .int (g 5)])
  | 15 => .inl (.int, 54, .inl g)
  | 16 => .inl (.int, 54, .inl g)
  | 17 => .inl (.boolean, 30, .inl g)
  | 18 => .inl (.int, 24, .inl g)
  | 19 => .inr (0, [.ref 20])
  | 20 => .inl (.int, 24, .inl g)
  | 21 => .inr (0, [.ref 22])
  | 22 => .inl (.int, 24, .inl g)
  | 23 => .inr (3, [.ref 2, .ref 24, .ref 25, .ref 26, .ref 27, .ref 28, .ref 29, .ref 30, .ref 31, .ref 32, .ref 33, .ref 34, .int (g 12), .int (g 13), .int (g 14), .int (g 15), .int (g 16), .int (g 17)])
  | 24 => .inl (.int, 24, .inl g)
  | 25 => .inl (.int, 24, .inl g)
  | 26 => .inl (.int, 24, .inl g)
  | 27 => .inl (.int, 24, .inl g)
  | 28 => .inl (.int, 30, .inl g)
  | 29 => .inl (.int, 30, .inl g)
  | 30 => .inl (.int, 30, .inl g)
  | 31 => .inl (.int, 30, .inl g)
  | 32 => .inl (.int, 40, .inl g)
  | 33 => .inl (.int, 40, .inl g)
  | 34 => .inl (.int, 40, .inl g)
  | 35 => .inr (3, [.ref 2, .ref 36, .ref 37, .ref 38, .ref 39, .ref 40, .ref 41, .ref 42, .ref 43, .ref 44, .ref 45, .ref 46, .int (g 12), .int (g 13), .int (g 14), .int (g 15), .int (g 16), .int (g 17)])
  | 36 => .inl (.int, 24, .inl g)
  | 37 => .inl (.int, 24, .inl g)
  | 38 => .inl (.int, 24, .inl g)
  | 39 => .inl (.int, 24, .inl g)
  | 40 => .inl (.int, 30, .inl g)
  | 41 => .inl (.int, 30, .inl g)
  | 42 => .inl (.int, 30, .inl g)
  | 43 => .inl (.int, 30, .inl g)
  | 44 => .inl (.int, 40, .inl g)
  | 45 => .inl (.int, 40, .inl g)
  | 46 => .inl (.int, 40, .inl g)
  | 47 => .inr (5, [.int (g 0), .int (g 1), .ref 48, .ref 49, .ref 50, .ref 51, .ref 52, .ref 53, .ref 54, .ref 55, .ref t, .int (g 11), .int (g 12), .ref 57, .ref 58, .ref 59])
  | 48 => .inl (.int, 30, .inl g)
  | 49 => .inl (.int, 30, .inl g)
  | 50 => .inl (.int, 30, .inl g)
  | 51 => .inl (.int, 30, .inl g)
  | 52 => .inl (.int, 30, .inl g)
  | 53 => .inl (.int, 30, .inl g)
  | 54 => .inl (.int, 30, .inl g)
  | 55 => .inl (.int, 30, .inl g)
  | 57 => .inl (.int, 108, .inl g)
  | 58 => .inl (.int, 24, .inl g)
  | 59 => .inl (.boolean, 24, .inl g)
  | 61 => .inl (.long, 1, .inr (.inl o))
  | j => ex j
def lay (t : Nat) (ex : Hp) (o : Nat → Int64) (m : Mem) : Hp := fun i => if i = t then .inl (.int, 342, .inl (m 60)) else sh t ex o i (m i)
/-- where the reference's row may lie -/
def tok (t : Nat) : Prop := t = 60 ∨ 62 ≤ t
def fixid (i : Nat) : Bool := decide (0 < i) && (decide (i < 60) || decide (i = 61)) && !decide (i = 56)
theorem fix_ne {t i : Nat} (ht : tok t) (hi : fixid i = true) : i ≠ t := by
  simp only [fixid, Bool.and_eq_true, Bool.or_eq_true, decide_eq_true_eq] at hi
  rcases ht with ht | ht <;> omega
theorem fix_pos {i : Nat} (hi : fixid i = true) : 0 < i := by
  simp only [fixid, Bool.and_eq_true, decide_eq_true_eq] at hi
  exact hi.1.1
theorem lay_at {t : Nat} {ex : Hp} {o : Nat → Int64} {m : Mem} {i : Nat} (ht : tok t) (hi : fixid i = true) : lay t ex o m i = sh t ex o i (m i) := by
  simp only [lay, if_neg (fix_ne ht hi)]
theorem lay_t {t : Nat} {ex : Hp} {o : Nat → Int64} {m : Mem} : lay t ex o m t = .inl (.int, 342, .inl (m 60)) := by simp [lay]
theorem lay_up {t : Nat} {ex : Hp} {o : Nat → Int64} {m : Mem} {i : Nat} {g : Nat → Int32} (ht : tok t) (hi : fixid i = true) : va_up (lay t ex o m) i (sh t ex o i g) = lay t ex o (va_up m i g) := by
  have h1 := fix_ne ht hi
  funext j
  by_cases hj : j = i
  · subst hj
    simp [va_up, lay, h1]
  · by_cases hjt : j = t
    · subst hjt
      have h60 : ¬ (60 = i) := by intro e; subst e; simp [fixid] at hi
      simp [va_up, lay, hj, h60]
    · simp [va_up, lay, hj, hjt]
theorem lay_upt {t : Nat} {ex : Hp} {o : Nat → Int64} {m : Mem} {g : Nat → Int32} (ht : tok t) (h60 : ∀ f, sh t ex o 60 f = sh t ex o 60 (m 60) := by intro f; rfl) : va_up (lay t ex o m) t (.inl (.int, 342, .inl g)) = lay t ex o (va_up m 60 g) := by
  funext j
  by_cases hjt : j = t
  · subst hjt
    simp [va_up, lay]
  · by_cases hj : j = 60
    · subst hj
      simp only [va_up, lay, if_neg hjt, if_true]
      exact (h60 g).symm
    · simp [va_up, lay, hj, hjt]
section LW
variable {Z : Gz} {μ : Mt} {d k0 mc ms : Nat} {Q : Po} {pc : Nat} {L S : List Value} {k cs ss t : Nat} {ex : Hp} {o : Nat → Int64} {m : Mem}
/-- a field of an object of the layout -/
theorem LW.get {i ci index f N : Nat} {C : String} {T : u_T} {fs : List Value} {v : Value} (ht : tok t) (hi : fixid i = true) (hs : sh t ex o i (m i) = .inr (ci, fs)) (hd : decode μ.2.1 pc = .ok (.getfield index, 3)) (hw : Cond.fieldLink μ.1.cls index (T f).1 (T f).2.1 (T f).2.2.1 ∈ lw_tbl) (hc : aw_cl[ci]? = some (C, T, N)) (hf : f < N)
    (hv : fs[f]? = some v) (K : AW Z μ d k0 mc ms Q (pc + 3) L (v :: S) (lay t ex o m) k cs ss) : AW Z μ d k0 mc ms Q pc L (.ref i :: S) (lay t ex o m) k cs ss :=
  AW.get hd hw hc hf rfl (fix_pos hi) ((lay_at ht hi).trans hs) hv K
theorem LW.getN {i ci index f N : Nat} {C host : String} {T : u_T} {fs : List Value} {v : Value} (ht : tok t) (hi : fixid i = true) (hs : sh t ex o i (m i) = .inr (ci, fs)) (hd : decode μ.2.1 pc = .ok (.getfield index, 3)) (hw : Cond.fieldLinkNest μ.1.cls index (T f).1 (T f).2.1 (T f).2.2.1 host ∈ lw_tbl) (hc : aw_cl[ci]? = some (C, T, N)) (hf : f < N)
    (hv : fs[f]? = some v) (K : AW Z μ d k0 mc ms Q (pc + 3) L (v :: S) (lay t ex o m) k cs ss) : AW Z μ d k0 mc ms Q pc L (.ref i :: S) (lay t ex o m) k cs ss :=
  AW.getN hd hw hc hf rfl (fix_pos hi) ((lay_at ht hi).trans hs) hv K
/-- an int or boolean field is written -/
theorem LW.put {i ci index f N : Nat} {C : String} {T : u_T} {fs : List Value} {v : Int32} (ht : tok t) (hi : fixid i = true) (hs : sh t ex o i (m i) = .inr (ci, fs)) (hs2 : .inr (ci, fs.set f (.int v)) = sh t ex o i (upd (m i) f v)) (hd : decode μ.2.1 pc = .ok (.putfield index, 3)) (hw : Cond.fieldLink μ.1.cls index (T f).1 (T f).2.1 (T f).2.2.1 ∈ lw_tbl) (hc : aw_cl[ci]? = some (C, T, N)) (hf : f < N)
    (hl : f < fs.length) (hfin : (T f).2.2.2 = false) (hn : narrow (aw_ty ci f) (.int v) = .int v ∧ fits (aw_ty ci f) (.int v) = true) (K : AW Z μ d k0 mc ms Q (pc + 3) L S (lay t ex o (up2 m i f v)) k cs ss) : AW Z μ d k0 mc ms Q pc L (.int v :: .ref i :: S) (lay t ex o m) k cs ss := by
  refine AW.put hd hw hc hf rfl (fix_pos hi) ((lay_at ht hi).trans hs) hl hfin (fun _ => hn) rfl ?_
  rw [hs2, lay_up ht hi]
  exact K
theorem LW.putN {i ci index f N : Nat} {C host : String} {T : u_T} {fs : List Value} {v : Int32} (ht : tok t) (hi : fixid i = true) (hs : sh t ex o i (m i) = .inr (ci, fs)) (hs2 : .inr (ci, fs.set f (.int v)) = sh t ex o i (upd (m i) f v)) (hd : decode μ.2.1 pc = .ok (.putfield index, 3)) (hw : Cond.fieldLinkNest μ.1.cls index (T f).1 (T f).2.1 (T f).2.2.1 host ∈ lw_tbl) (hc : aw_cl[ci]? = some (C, T, N)) (hf : f < N)
    (hl : f < fs.length) (hfin : (T f).2.2.2 = false) (hn : narrow (aw_ty ci f) (.int v) = .int v ∧ fits (aw_ty ci f) (.int v) = true) (K : AW Z μ d k0 mc ms Q (pc + 3) L S (lay t ex o (up2 m i f v)) k cs ss) : AW Z μ d k0 mc ms Q pc L (.int v :: .ref i :: S) (lay t ex o m) k cs ss := by
  refine AW.putN hd hw hc hf rfl (fix_pos hi) ((lay_at ht hi).trans hs) hl hfin (fun _ => hn) rfl ?_
  rw [hs2, lay_up ht hi]
  exact K
theorem LW.iald {i n j : Nat} {x : Int32} (ht : tok t) (hi : fixid i = true) (hs : sh t ex o i (m i) = .inl (.int, n, .inl (m i))) (hd : decode μ.2.1 pc = .ok (.iaload, 1)) (hin : vp_in x n) (hj : x.toNatClampNeg = j) (K : AW Z μ d k0 mc ms Q (pc + 1) L (.int (m i j) :: S) (lay t ex o m) k cs ss) : AW Z μ d k0 mc ms Q pc L (.int x :: .ref i :: S) (lay t ex o m) k cs ss := by
  subst hj
  exact AW.iald hd (fix_pos hi) ((lay_at ht hi).trans hs) hin K
theorem LW.zald {i n j : Nat} {x : Int32} (ht : tok t) (hi : fixid i = true) (hs : sh t ex o i (m i) = .inl (.boolean, n, .inl (m i))) (hd : decode μ.2.1 pc = .ok (.baload, 1)) (hin : vp_in x n) (hj : x.toNatClampNeg = j) (K : AW Z μ d k0 mc ms Q (pc + 1) L (.int (m i j) :: S) (lay t ex o m) k cs ss) : AW Z μ d k0 mc ms Q pc L (.int x :: .ref i :: S) (lay t ex o m) k cs ss := by
  subst hj
  exact AW.zald hd (fix_pos hi) ((lay_at ht hi).trans hs) hin K
theorem LW.iast {i n j : Nat} {x y : Int32} (ht : tok t) (hi : fixid i = true) (hs : ∀ g, sh t ex o i g = .inl (.int, n, .inl g)) (hd : decode μ.2.1 pc = .ok (.iastore, 1)) (hin : vp_in x n) (hj : x.toNatClampNeg = j) (K : AW Z μ d k0 mc ms Q (pc + 1) L S (lay t ex o (up2 m i j y)) k cs ss) : AW Z μ d k0 mc ms Q pc L (.int y :: .int x :: .ref i :: S) (lay t ex o m) k cs ss := by
  subst hj
  refine AW.iast hd (fix_pos hi) ((lay_at ht hi).trans (hs _)) hin ?_
  rw [← hs, lay_up ht hi]
  exact K
theorem LW.zast {i n j : Nat} {x y : Int32} (ht : tok t) (hi : fixid i = true) (hs : ∀ g, sh t ex o i g = .inl (.boolean, n, .inl g)) (hd : decode μ.2.1 pc = .ok (.bastore, 1)) (hin : vp_in x n) (hy : vp_nar .boolean y = y) (hj : x.toNatClampNeg = j) (K : AW Z μ d k0 mc ms Q (pc + 1) L S (lay t ex o (up2 m i j y)) k cs ss) : AW Z μ d k0 mc ms Q pc L (.int y :: .int x :: .ref i :: S) (lay t ex o m) k cs ss := by
  subst hj
  refine AW.zast hd (fix_pos hi) ((lay_at ht hi).trans (hs _)) hin hy ?_
  rw [← hs, lay_up ht hi]
  exact K
/-- the reference's row -/
theorem LW.ialdt {j : Nat} {x : Int32} (ht : tok t) (hd : decode μ.2.1 pc = .ok (.iaload, 1)) (hin : vp_in x 342) (hj : x.toNatClampNeg = j) (K : AW Z μ d k0 mc ms Q (pc + 1) L (.int (m 60 j) :: S) (lay t ex o m) k cs ss) : AW Z μ d k0 mc ms Q pc L (.int x :: .ref t :: S) (lay t ex o m) k cs ss := by
  subst hj
  exact AW.iald hd (by rcases ht with h | h <;> omega) lay_t hin K
theorem LW.iastt {j : Nat} {x y : Int32} (ht : tok t) (hd : decode μ.2.1 pc = .ok (.iastore, 1)) (hin : vp_in x 342) (hj : x.toNatClampNeg = j) (K : AW Z μ d k0 mc ms Q (pc + 1) L S (lay t ex o (up2 m 60 j y)) k cs ss) : AW Z μ d k0 mc ms Q pc L (.int y :: .int x :: .ref t :: S) (lay t ex o m) k cs ss := by
  subst hj
  refine AW.iast hd (by rcases ht with h | h <;> omega) lay_t hin ?_
  rw [lay_upt ht]
  exact K
theorem LW.copyi {i j n0 n1 index : Nat} {sp dp n : Int32} (ht : tok t) (hi : fixid i = true) (hj : fixid j = true) (hsi : sh t ex o i (m i) = .inl (.int, n0, .inl (m i))) (hsj : ∀ g, sh t ex o j g = .inl (.int, n1, .inl g)) (hd : decode μ.2.1 pc = .ok (.invokestatic index, 3)) (hlink : Cond.methodLink μ.1.cls index arraycopyName ∈ lw_tbl) (hnat : Cond.native arraycopyName ∈ lw_tbl) (hst : Cond.static arraycopyName ∈ lw_tbl) (hini : Cond.initialized "java/lang/System" ∈ lw_tbl)
    (h1 : ¬ sp < 0) (h2 : ¬ dp < 0) (h3 : ¬ n < 0) (h4 : sp.toNatClampNeg + n.toNatClampNeg ≤ n0) (h5 : dp.toNatClampNeg + n.toNatClampNeg ≤ n1) (hcat : (S.map fun v => v.category).sum ≤ 8)
    (K : AW Z μ d k0 mc ms Q (pc + 3) L S (lay t ex o (va_up m j (va_cpy (m i) (m j) sp.toNatClampNeg dp.toNatClampNeg n.toNatClampNeg))) k cs ss) : AW Z μ d k0 mc ms Q pc L (.int n :: .int dp :: .ref j :: .int sp :: .ref i :: S) (lay t ex o m) k cs ss := by
  refine AW.copyi hd hlink hnat hst hini (fix_pos hi) (fix_pos hj) ((lay_at ht hi).trans hsi) ((lay_at ht hj).trans (hsj _)) h1 h2 h3 h4 h5 hcat ?_
  rw [← hsj, lay_up ht hj]
  exact K
end LW
end
section
/-! each word of the tables, by its place in lw_tbl (printed by wip/tools/mk_words.py out of the Statement) -/
theorem in_t1 {w : Cond} (h : w ∈ tables_1_1) : w ∈ lw_tbl := List.mem_append_right _ (by show w ∈ tables_1; unfold tables_1; exact List.mem_append_left _ h)
theorem in_t2 {w : Cond} (h : w ∈ tables_1_2) : w ∈ lw_tbl := List.mem_append_right _ (by show w ∈ tables_1; unfold tables_1; exact List.mem_append_right _ (List.mem_append_left _ h))
theorem in_t3 {w : Cond} (h : w ∈ tables_1_3) : w ∈ lw_tbl := List.mem_append_right _ (by show w ∈ tables_1; unfold tables_1; exact List.mem_append_right _ (List.mem_append_right _ (List.mem_append_left _ h)))
theorem in_t4 {w : Cond} (h : w ∈ tables_1_4) : w ∈ lw_tbl := List.mem_append_right _ (by show w ∈ tables_1; unfold tables_1; exact List.mem_append_right _ (List.mem_append_right _ (List.mem_append_right _ (h))))
theorem tw_0 : (Jvm.Cond.initialized "FoundryNineLaw") ∈ lw_tbl := List.mem_of_getElem? (i := 41) (by decide +kernel)
theorem tw_1 : (Jvm.Cond.initialized "FoundryNineLaw$Bench") ∈ lw_tbl := List.mem_of_getElem? (i := 42) (by decide +kernel)
theorem tw_2 : (Jvm.Cond.initialized "FoundryNine") ∈ lw_tbl := List.mem_of_getElem? (i := 43) (by decide +kernel)
theorem tw_3 : (Jvm.Cond.initialized "FoundryNine$Circuit") ∈ lw_tbl := List.mem_of_getElem? (i := 44) (by decide +kernel)
theorem tw_4 : (Jvm.Cond.initialized "java/util/Arrays") ∈ lw_tbl := List.mem_of_getElem? (i := 45) (by decide +kernel)
theorem tw_5 : (Jvm.Cond.initialized "FoundryNine$Flaws") ∈ lw_tbl := List.mem_of_getElem? (i := 46) (by decide +kernel)
theorem tw_6 : (Jvm.Cond.initialized "FoundryNine$Arrivals") ∈ lw_tbl := List.mem_of_getElem? (i := 47) (by decide +kernel)
theorem tw_7 : (Jvm.Cond.initialized "FoundryNine$Run") ∈ lw_tbl := List.mem_of_getElem? (i := 48) (by decide +kernel)
theorem tw_8 : (Jvm.Cond.initialized "java/lang/System") ∈ lw_tbl := List.mem_of_getElem? (i := 49) (by decide +kernel)
theorem tw_9 : (Jvm.Cond.initialized "java/lang/Throwable") ∈ lw_tbl := List.mem_of_getElem? (i := 50) (by decide +kernel)
theorem tw_10 : (Jvm.Cond.initialized "java/lang/Exception") ∈ lw_tbl := List.mem_of_getElem? (i := 51) (by decide +kernel)
theorem tw_11 : (Jvm.Cond.initialized "java/lang/RuntimeException") ∈ lw_tbl := List.mem_of_getElem? (i := 52) (by decide +kernel)
theorem tw_12 : (Jvm.Cond.initialized "java/lang/IndexOutOfBoundsException") ∈ lw_tbl := List.mem_of_getElem? (i := 53) (by decide +kernel)
theorem tw_13 : (Jvm.Cond.initialized "java/lang/IllegalStateException") ∈ lw_tbl := List.mem_of_getElem? (i := 54) (by decide +kernel)
theorem tw_14 : (Jvm.Cond.initialized "java/lang/Math") ∈ lw_tbl := List.mem_of_getElem? (i := 55) (by decide +kernel)
theorem tw_15 : (Jvm.Cond.initialized "java/lang/IllegalArgumentException") ∈ lw_tbl := List.mem_of_getElem? (i := 56) (by decide +kernel)
theorem tw_16 : (Jvm.Cond.initialized "java/lang/Integer") ∈ lw_tbl := List.mem_of_getElem? (i := 57) (by decide +kernel)
theorem tw_17 : (Jvm.Cond.methodLink "FoundryNineLaw" (33 : Nat) ({ cls := "FoundryNine", name := "arrival", desc := "(I)I" } : Jvm.MethodName)) ∈ lw_tbl := List.mem_of_getElem? (i := 58) (by decide +kernel)
theorem tw_18 : (Jvm.Cond.instanceMethod ({ cls := "FoundryNine", name := "arrival", desc := "(I)I" } : Jvm.MethodName)) ∈ lw_tbl := List.mem_of_getElem? (i := 59) (by decide +kernel)
theorem tw_19 : (Jvm.Cond.selects "FoundryNine" ({ cls := "FoundryNine", name := "arrival", desc := "(I)I" } : Jvm.MethodName) ({ cls := "FoundryNine", name := "arrival", desc := "(I)I" } : Jvm.MethodName)) ∈ lw_tbl := List.mem_of_getElem? (i := 60) (by decide +kernel)
set_option maxRecDepth 20000 in
theorem tw_20 : (Jvm.Cond.code ({ cls := "FoundryNine", name := "arrival", desc := "(I)I" } : Jvm.MethodName) prog_1_method_10_code (2 : Nat) (Option.some Jvm.ClassFile.FieldType.int)) ∈ lw_tbl := in_t1 (List.mem_of_getElem? (i := 20) rfl)
theorem tw_21 : (Jvm.Cond.methodLink "FoundryNine" (49 : Nat) ({ cls := "FoundryNine", name := "checkWire", desc := "(I)V" } : Jvm.MethodName)) ∈ lw_tbl := List.mem_of_getElem? (i := 62) (by decide +kernel)
theorem tw_22 : (Jvm.Cond.static ({ cls := "FoundryNine", name := "checkWire", desc := "(I)V" } : Jvm.MethodName)) ∈ lw_tbl := List.mem_of_getElem? (i := 63) (by decide +kernel)
set_option maxRecDepth 20000 in
theorem tw_23 : (Jvm.Cond.code ({ cls := "FoundryNine", name := "checkWire", desc := "(I)V" } : Jvm.MethodName) prog_1_method_37_code (1 : Nat) (Option.none : Option Jvm.ClassFile.FieldType)) ∈ lw_tbl := in_t1 (List.mem_of_getElem? (i := 23) rfl)
theorem tw_24 : (Jvm.Cond.methodLink "FoundryNine" (298 : Nat) ({ cls := "FoundryNine", name := "isWire", desc := "(I)Z" } : Jvm.MethodName)) ∈ lw_tbl := List.mem_of_getElem? (i := 65) (by decide +kernel)
theorem tw_25 : (Jvm.Cond.static ({ cls := "FoundryNine", name := "isWire", desc := "(I)Z" } : Jvm.MethodName)) ∈ lw_tbl := List.mem_of_getElem? (i := 66) (by decide +kernel)
set_option maxRecDepth 20000 in
theorem tw_26 : (Jvm.Cond.code ({ cls := "FoundryNine", name := "isWire", desc := "(I)Z" } : Jvm.MethodName) prog_1_method_35_code (1 : Nat) (Option.some Jvm.ClassFile.FieldType.boolean)) ∈ lw_tbl := in_t1 (List.mem_of_getElem? (i := 26) rfl)
theorem tw_27 : (Jvm.Cond.classLink "FoundryNine" (106 : Nat) "java/lang/IndexOutOfBoundsException") ∈ lw_tbl := List.mem_of_getElem? (i := 68) (by decide +kernel)
theorem tw_28 : (Jvm.Cond.instantiable "java/lang/IndexOutOfBoundsException" (6 : Nat)) ∈ lw_tbl := List.mem_of_getElem? (i := 69) (by decide +kernel)
theorem tw_29 : (Jvm.Cond.castable "java/lang/IndexOutOfBoundsException" "java/lang/IndexOutOfBoundsException") ∈ lw_tbl := List.mem_of_getElem? (i := 70) (by decide +kernel)
theorem tw_30 : (Jvm.Cond.declares ({ cls := "java/lang/RuntimeException", name := "<init>", desc := "()V" } : Jvm.MethodName)) ∈ lw_tbl := List.mem_of_getElem? (i := 71) (by decide +kernel)
theorem tw_31 : (Jvm.Cond.declares ({ cls := "java/lang/RuntimeException", name := "<init>", desc := "(Ljava/lang/String;)V" } : Jvm.MethodName)) ∈ lw_tbl := List.mem_of_getElem? (i := 72) (by decide +kernel)
theorem tw_32 : (Jvm.Cond.declares ({ cls := "java/lang/Exception", name := "<init>", desc := "()V" } : Jvm.MethodName)) ∈ lw_tbl := List.mem_of_getElem? (i := 73) (by decide +kernel)
theorem tw_33 : (Jvm.Cond.declares ({ cls := "java/lang/Exception", name := "<init>", desc := "(Ljava/lang/String;)V" } : Jvm.MethodName)) ∈ lw_tbl := List.mem_of_getElem? (i := 74) (by decide +kernel)
theorem tw_34 : (Jvm.Cond.declares ({ cls := "java/lang/Throwable", name := "<init>", desc := "()V" } : Jvm.MethodName)) ∈ lw_tbl := List.mem_of_getElem? (i := 75) (by decide +kernel)
theorem tw_35 : (Jvm.Cond.declares ({ cls := "java/lang/Throwable", name := "<init>", desc := "(Ljava/lang/String;)V" } : Jvm.MethodName)) ∈ lw_tbl := List.mem_of_getElem? (i := 76) (by decide +kernel)
theorem tw_36 : (Jvm.Cond.selects "java/lang/IndexOutOfBoundsException" ({ cls := "java/lang/Throwable", name := "fillInStackTrace", desc := "(I)Ljava/lang/Throwable;" } : Jvm.MethodName) ({ cls := "java/lang/Throwable", name := "fillInStackTrace", desc := "(I)Ljava/lang/Throwable;" } : Jvm.MethodName)) ∈ lw_tbl := List.mem_of_getElem? (i := 77) (by decide +kernel)
theorem tw_37 : (Jvm.Cond.selects "java/lang/IndexOutOfBoundsException" ({ cls := "java/lang/Throwable", name := "fillInStackTrace", desc := "()Ljava/lang/Throwable;" } : Jvm.MethodName) ({ cls := "java/lang/Throwable", name := "fillInStackTrace", desc := "()Ljava/lang/Throwable;" } : Jvm.MethodName)) ∈ lw_tbl := List.mem_of_getElem? (i := 78) (by decide +kernel)
theorem tw_38 : (Jvm.Cond.lays "java/lang/IndexOutOfBoundsException" "java/lang/Throwable" "cause" "Ljava/lang/Throwable;") ∈ lw_tbl := List.mem_of_getElem? (i := 79) (by decide +kernel)
theorem tw_39 : (Jvm.Cond.lays "java/lang/Throwable" "java/lang/Throwable" "cause" "Ljava/lang/Throwable;") ∈ lw_tbl := List.mem_of_getElem? (i := 80) (by decide +kernel)
theorem tw_40 : (Jvm.Cond.lays "java/lang/IndexOutOfBoundsException" "java/lang/Throwable" "stackTrace" "[Ljava/lang/StackTraceElement;") ∈ lw_tbl := List.mem_of_getElem? (i := 81) (by decide +kernel)
theorem tw_41 : (Jvm.Cond.lays "java/lang/Throwable" "java/lang/Throwable" "stackTrace" "[Ljava/lang/StackTraceElement;") ∈ lw_tbl := List.mem_of_getElem? (i := 82) (by decide +kernel)
theorem tw_42 : (Jvm.Cond.lays "java/lang/IndexOutOfBoundsException" "java/lang/Throwable" "suppressedExceptions" "Ljava/util/List;") ∈ lw_tbl := List.mem_of_getElem? (i := 83) (by decide +kernel)
theorem tw_43 : (Jvm.Cond.lays "java/lang/Throwable" "java/lang/Throwable" "suppressedExceptions" "Ljava/util/List;") ∈ lw_tbl := List.mem_of_getElem? (i := 84) (by decide +kernel)
theorem tw_44 : (Jvm.Cond.lays "java/lang/IndexOutOfBoundsException" "java/lang/Throwable" "detailMessage" "Ljava/lang/String;") ∈ lw_tbl := List.mem_of_getElem? (i := 85) (by decide +kernel)
theorem tw_45 : (Jvm.Cond.lays "java/lang/Throwable" "java/lang/Throwable" "detailMessage" "Ljava/lang/String;") ∈ lw_tbl := List.mem_of_getElem? (i := 86) (by decide +kernel)
theorem tw_46 : (Jvm.Cond.lays "java/lang/IndexOutOfBoundsException" "java/lang/Throwable" "backtrace" "Ljava/lang/Object;") ∈ lw_tbl := List.mem_of_getElem? (i := 87) (by decide +kernel)
theorem tw_47 : (Jvm.Cond.lays "java/lang/Throwable" "java/lang/Throwable" "backtrace" "Ljava/lang/Object;") ∈ lw_tbl := List.mem_of_getElem? (i := 88) (by decide +kernel)
theorem tw_48 : (Jvm.Cond.fieldLink "java/lang/Throwable" (198 : Nat) "java/lang/Throwable" "backtrace" "Ljava/lang/Object;") ∈ lw_tbl := List.mem_of_getElem? (i := 89) (by decide +kernel)
theorem tw_49 : (Jvm.Cond.superclass "java/lang/Throwable" "java/lang/Object") ∈ lw_tbl := List.mem_of_getElem? (i := 90) (by decide +kernel)
theorem tw_50 : (Jvm.Cond.instanceMethod ({ cls := "java/lang/Throwable", name := "<init>", desc := "()V" } : Jvm.MethodName)) ∈ lw_tbl := List.mem_of_getElem? (i := 91) (by decide +kernel)
set_option maxRecDepth 20000 in
theorem tw_51 : (Jvm.Cond.code ({ cls := "java/lang/Throwable", name := "<init>", desc := "()V" } : Jvm.MethodName) prog_18_method_1_code (1 : Nat) (Option.none : Option Jvm.ClassFile.FieldType)) ∈ lw_tbl := in_t1 (List.mem_of_getElem? (i := 51) rfl)
theorem tw_52 : (Jvm.Cond.methodLink "java/lang/Throwable" (1 : Nat) ({ cls := "java/lang/Object", name := "<init>", desc := "()V" } : Jvm.MethodName)) ∈ lw_tbl := List.mem_of_getElem? (i := 93) (by decide +kernel)
theorem tw_53 : (Jvm.Cond.instanceMethod ({ cls := "java/lang/Object", name := "<init>", desc := "()V" } : Jvm.MethodName)) ∈ lw_tbl := List.mem_of_getElem? (i := 94) (by decide +kernel)
set_option maxRecDepth 20000 in
theorem tw_54 : (Jvm.Cond.code ({ cls := "java/lang/Object", name := "<init>", desc := "()V" } : Jvm.MethodName) object_method_1_code (1 : Nat) (Option.none : Option Jvm.ClassFile.FieldType)) ∈ lw_tbl := in_t1 (List.mem_of_getElem? (i := 54) rfl)
theorem tw_55 : (Jvm.Cond.fieldLink "java/lang/Throwable" (13 : Nat) "java/lang/Throwable" "UNASSIGNED_STACK" "[Ljava/lang/StackTraceElement;") ∈ lw_tbl := List.mem_of_getElem? (i := 96) (by decide +kernel)
theorem tw_56 : (Jvm.Cond.laysStatic "java/lang/Throwable" "UNASSIGNED_STACK" "[Ljava/lang/StackTraceElement;") ∈ lw_tbl := List.mem_of_getElem? (i := 97) (by decide +kernel)
theorem tw_57 : (Jvm.Cond.fieldLink "java/lang/Throwable" (20 : Nat) "java/lang/Throwable" "SUPPRESSED_SENTINEL" "Ljava/util/List;") ∈ lw_tbl := List.mem_of_getElem? (i := 98) (by decide +kernel)
theorem tw_58 : (Jvm.Cond.laysStatic "java/lang/Throwable" "SUPPRESSED_SENTINEL" "Ljava/util/List;") ∈ lw_tbl := List.mem_of_getElem? (i := 99) (by decide +kernel)
theorem tw_59 : (Jvm.Cond.methodLink "java/lang/Throwable" (27 : Nat) ({ cls := "java/lang/Throwable", name := "fillInStackTrace", desc := "()Ljava/lang/Throwable;" } : Jvm.MethodName)) ∈ lw_tbl := List.mem_of_getElem? (i := 100) (by decide +kernel)
theorem tw_60 : (Jvm.Cond.instanceMethod ({ cls := "java/lang/Throwable", name := "fillInStackTrace", desc := "()Ljava/lang/Throwable;" } : Jvm.MethodName)) ∈ lw_tbl := List.mem_of_getElem? (i := 101) (by decide +kernel)
theorem tw_61 : (Jvm.Cond.sameMethod "java/lang/Throwable" "java/lang/Throwable" "fillInStackTrace" "()Ljava/lang/Throwable;") ∈ lw_tbl := List.mem_of_getElem? (i := 102) (by decide +kernel)
theorem tw_62 : (Jvm.Cond.selects "java/lang/IllegalArgumentException" ({ cls := "java/lang/Throwable", name := "fillInStackTrace", desc := "()Ljava/lang/Throwable;" } : Jvm.MethodName) ({ cls := "java/lang/Throwable", name := "fillInStackTrace", desc := "()Ljava/lang/Throwable;" } : Jvm.MethodName)) ∈ lw_tbl := List.mem_of_getElem? (i := 103) (by decide +kernel)
theorem tw_63 : (Jvm.Cond.selects "java/lang/IllegalStateException" ({ cls := "java/lang/Throwable", name := "fillInStackTrace", desc := "()Ljava/lang/Throwable;" } : Jvm.MethodName) ({ cls := "java/lang/Throwable", name := "fillInStackTrace", desc := "()Ljava/lang/Throwable;" } : Jvm.MethodName)) ∈ lw_tbl := List.mem_of_getElem? (i := 104) (by decide +kernel)
set_option maxRecDepth 20000 in
theorem tw_64 : (Jvm.Cond.codeSync ({ cls := "java/lang/Throwable", name := "fillInStackTrace", desc := "()Ljava/lang/Throwable;" } : Jvm.MethodName) prog_18_method_18_code (1 : Nat) (Option.some (Jvm.ClassFile.FieldType.object "java/lang/Throwable"))) ∈ lw_tbl := in_t1 (List.mem_of_getElem? (i := 64) rfl)
theorem tw_65 : (Jvm.Cond.methodLink "java/lang/Throwable" (202 : Nat) ({ cls := "java/lang/Throwable", name := "fillInStackTrace", desc := "(I)Ljava/lang/Throwable;" } : Jvm.MethodName)) ∈ lw_tbl := List.mem_of_getElem? (i := 106) (by decide +kernel)
theorem tw_66 : (Jvm.Cond.privateMethod ({ cls := "java/lang/Throwable", name := "fillInStackTrace", desc := "(I)Ljava/lang/Throwable;" } : Jvm.MethodName)) ∈ lw_tbl := List.mem_of_getElem? (i := 107) (by decide +kernel)
theorem tw_67 : (Jvm.Cond.instanceMethod ({ cls := "java/lang/Throwable", name := "fillInStackTrace", desc := "(I)Ljava/lang/Throwable;" } : Jvm.MethodName)) ∈ lw_tbl := List.mem_of_getElem? (i := 108) (by decide +kernel)
theorem tw_68 : (Jvm.Cond.instantiable "java/lang/Throwable" (6 : Nat)) ∈ lw_tbl := List.mem_of_getElem? (i := 109) (by decide +kernel)
theorem tw_69 : (Jvm.Cond.native ({ cls := "java/lang/Throwable", name := "fillInStackTrace", desc := "(I)Ljava/lang/Throwable;" } : Jvm.MethodName)) ∈ lw_tbl := List.mem_of_getElem? (i := 110) (by decide +kernel)
theorem tw_70 : (Jvm.Cond.stringRef "FoundryNine" (302 : Nat) "no such wire") ∈ lw_tbl := List.mem_of_getElem? (i := 111) (by decide +kernel)
theorem tw_71 : (Jvm.Cond.methodLink "FoundryNine" (110 : Nat) ({ cls := "java/lang/IndexOutOfBoundsException", name := "<init>", desc := "(Ljava/lang/String;)V" } : Jvm.MethodName)) ∈ lw_tbl := List.mem_of_getElem? (i := 112) (by decide +kernel)
theorem tw_72 : (Jvm.Cond.instanceMethod ({ cls := "java/lang/IndexOutOfBoundsException", name := "<init>", desc := "(Ljava/lang/String;)V" } : Jvm.MethodName)) ∈ lw_tbl := List.mem_of_getElem? (i := 113) (by decide +kernel)
set_option maxRecDepth 20000 in
theorem tw_73 : (Jvm.Cond.code ({ cls := "java/lang/IndexOutOfBoundsException", name := "<init>", desc := "(Ljava/lang/String;)V" } : Jvm.MethodName) prog_12_method_2_code (2 : Nat) (Option.none : Option Jvm.ClassFile.FieldType)) ∈ lw_tbl := in_t1 (List.mem_of_getElem? (i := 73) rfl)
theorem tw_74 : (Jvm.Cond.methodLink "java/lang/IndexOutOfBoundsException" (7 : Nat) ({ cls := "java/lang/RuntimeException", name := "<init>", desc := "(Ljava/lang/String;)V" } : Jvm.MethodName)) ∈ lw_tbl := List.mem_of_getElem? (i := 115) (by decide +kernel)
theorem tw_75 : (Jvm.Cond.instanceMethod ({ cls := "java/lang/RuntimeException", name := "<init>", desc := "(Ljava/lang/String;)V" } : Jvm.MethodName)) ∈ lw_tbl := List.mem_of_getElem? (i := 116) (by decide +kernel)
set_option maxRecDepth 20000 in
theorem tw_76 : (Jvm.Cond.code ({ cls := "java/lang/RuntimeException", name := "<init>", desc := "(Ljava/lang/String;)V" } : Jvm.MethodName) prog_15_method_2_code (2 : Nat) (Option.none : Option Jvm.ClassFile.FieldType)) ∈ lw_tbl := in_t1 (List.mem_of_getElem? (i := 76) rfl)
theorem tw_77 : (Jvm.Cond.methodLink "java/lang/RuntimeException" (7 : Nat) ({ cls := "java/lang/Exception", name := "<init>", desc := "(Ljava/lang/String;)V" } : Jvm.MethodName)) ∈ lw_tbl := List.mem_of_getElem? (i := 118) (by decide +kernel)
theorem tw_78 : (Jvm.Cond.instanceMethod ({ cls := "java/lang/Exception", name := "<init>", desc := "(Ljava/lang/String;)V" } : Jvm.MethodName)) ∈ lw_tbl := List.mem_of_getElem? (i := 119) (by decide +kernel)
set_option maxRecDepth 20000 in
theorem tw_79 : (Jvm.Cond.code ({ cls := "java/lang/Exception", name := "<init>", desc := "(Ljava/lang/String;)V" } : Jvm.MethodName) prog_9_method_2_code (2 : Nat) (Option.none : Option Jvm.ClassFile.FieldType)) ∈ lw_tbl := in_t1 (List.mem_of_getElem? (i := 79) rfl)
theorem tw_80 : (Jvm.Cond.methodLink "java/lang/Exception" (7 : Nat) ({ cls := "java/lang/Throwable", name := "<init>", desc := "(Ljava/lang/String;)V" } : Jvm.MethodName)) ∈ lw_tbl := List.mem_of_getElem? (i := 121) (by decide +kernel)
theorem tw_81 : (Jvm.Cond.instanceMethod ({ cls := "java/lang/Throwable", name := "<init>", desc := "(Ljava/lang/String;)V" } : Jvm.MethodName)) ∈ lw_tbl := List.mem_of_getElem? (i := 122) (by decide +kernel)
set_option maxRecDepth 20000 in
theorem tw_82 : (Jvm.Cond.code ({ cls := "java/lang/Throwable", name := "<init>", desc := "(Ljava/lang/String;)V" } : Jvm.MethodName) prog_18_method_2_code (2 : Nat) (Option.none : Option Jvm.ClassFile.FieldType)) ∈ lw_tbl := in_t1 (List.mem_of_getElem? (i := 82) rfl)
theorem tw_83 : (Jvm.Cond.fieldLink "java/lang/Throwable" (198 : Nat) "java/lang/Throwable" "backtrace" "Ljava/lang/Object;") ∈ lw_tbl := List.mem_of_getElem? (i := 124) (by decide +kernel)
theorem tw_84 : (Jvm.Cond.fieldLink "java/lang/Throwable" (31 : Nat) "java/lang/Throwable" "detailMessage" "Ljava/lang/String;") ∈ lw_tbl := List.mem_of_getElem? (i := 125) (by decide +kernel)
theorem tw_85 : (Jvm.Cond.fieldLink "java/lang/Throwable" (7 : Nat) "java/lang/Throwable" "cause" "Ljava/lang/Throwable;") ∈ lw_tbl := List.mem_of_getElem? (i := 126) (by decide +kernel)
theorem tw_86 : (Jvm.Cond.fieldLink "java/lang/Throwable" (17 : Nat) "java/lang/Throwable" "stackTrace" "[Ljava/lang/StackTraceElement;") ∈ lw_tbl := List.mem_of_getElem? (i := 127) (by decide +kernel)
theorem tw_87 : (Jvm.Cond.fieldLink "java/lang/Throwable" (24 : Nat) "java/lang/Throwable" "suppressedExceptions" "Ljava/util/List;") ∈ lw_tbl := List.mem_of_getElem? (i := 128) (by decide +kernel)
theorem tw_88 : (Jvm.Cond.soleField "java/lang/Throwable" "backtrace") ∈ lw_tbl := List.mem_of_getElem? (i := 129) (by decide +kernel)
theorem tw_89 : (Jvm.Cond.soleField "java/lang/Throwable" "detailMessage") ∈ lw_tbl := List.mem_of_getElem? (i := 130) (by decide +kernel)
theorem tw_90 : (Jvm.Cond.soleField "java/lang/Throwable" "cause") ∈ lw_tbl := List.mem_of_getElem? (i := 131) (by decide +kernel)
theorem tw_91 : (Jvm.Cond.soleField "java/lang/Throwable" "stackTrace") ∈ lw_tbl := List.mem_of_getElem? (i := 132) (by decide +kernel)
theorem tw_92 : (Jvm.Cond.lays "java/lang/IndexOutOfBoundsException" "java/lang/Throwable" "depth" "I") ∈ lw_tbl := List.mem_of_getElem? (i := 133) (by decide +kernel)
theorem tw_93 : (Jvm.Cond.soleField "java/lang/Throwable" "depth") ∈ lw_tbl := List.mem_of_getElem? (i := 134) (by decide +kernel)
theorem tw_94 : (Jvm.Cond.soleField "java/lang/Throwable" "suppressedExceptions") ∈ lw_tbl := List.mem_of_getElem? (i := 135) (by decide +kernel)
theorem tw_95 : (Jvm.Cond.superclass "java/lang/IndexOutOfBoundsException" "java/lang/RuntimeException") ∈ lw_tbl := List.mem_of_getElem? (i := 136) (by decide +kernel)
theorem tw_96 : (Jvm.Cond.arrayClass Jvm.ClassFile.FieldType.byte) ∈ lw_tbl := List.mem_of_getElem? (i := 137) (by decide +kernel)
theorem tw_97 : (Jvm.Cond.methodLink "FoundryNineLaw" (48 : Nat) ({ cls := "FoundryNine", name := "longest", desc := "()I" } : Jvm.MethodName)) ∈ lw_tbl := List.mem_of_getElem? (i := 138) (by decide +kernel)
theorem tw_98 : (Jvm.Cond.instanceMethod ({ cls := "FoundryNine", name := "longest", desc := "()I" } : Jvm.MethodName)) ∈ lw_tbl := List.mem_of_getElem? (i := 139) (by decide +kernel)
theorem tw_99 : (Jvm.Cond.selects "FoundryNine" ({ cls := "FoundryNine", name := "longest", desc := "()I" } : Jvm.MethodName) ({ cls := "FoundryNine", name := "longest", desc := "()I" } : Jvm.MethodName)) ∈ lw_tbl := List.mem_of_getElem? (i := 140) (by decide +kernel)
set_option maxRecDepth 20000 in
theorem tw_100 : (Jvm.Cond.code ({ cls := "FoundryNine", name := "longest", desc := "()I" } : Jvm.MethodName) prog_1_method_11_code (1 : Nat) (Option.some Jvm.ClassFile.FieldType.int)) ∈ lw_tbl := in_t1 (List.mem_of_getElem? (i := 100) rfl)
theorem tw_101 : (Jvm.Cond.methodLink "FoundryNine" (122 : Nat) ({ cls := "FoundryNine$Arrivals", name := "greatest", desc := "()I" } : Jvm.MethodName)) ∈ lw_tbl := List.mem_of_getElem? (i := 142) (by decide +kernel)
theorem tw_102 : (Jvm.Cond.instanceMethod ({ cls := "FoundryNine$Arrivals", name := "greatest", desc := "()I" } : Jvm.MethodName)) ∈ lw_tbl := List.mem_of_getElem? (i := 143) (by decide +kernel)
theorem tw_103 : (Jvm.Cond.selects "FoundryNine$Arrivals" ({ cls := "FoundryNine$Arrivals", name := "greatest", desc := "()I" } : Jvm.MethodName) ({ cls := "FoundryNine$Arrivals", name := "greatest", desc := "()I" } : Jvm.MethodName)) ∈ lw_tbl := List.mem_of_getElem? (i := 144) (by decide +kernel)
set_option maxRecDepth 20000 in
theorem tw_104 : (Jvm.Cond.code ({ cls := "FoundryNine$Arrivals", name := "greatest", desc := "()I" } : Jvm.MethodName) prog_2_method_5_code (3 : Nat) (Option.some Jvm.ClassFile.FieldType.int)) ∈ lw_tbl := in_t1 (List.mem_of_getElem? (i := 104) rfl)
theorem tw_105 : (Jvm.Cond.methodLink "FoundryNine$Arrivals" (55 : Nat) ({ cls := "java/lang/Math", name := "max", desc := "(II)I" } : Jvm.MethodName)) ∈ lw_tbl := List.mem_of_getElem? (i := 146) (by decide +kernel)
theorem tw_106 : (Jvm.Cond.static ({ cls := "java/lang/Math", name := "max", desc := "(II)I" } : Jvm.MethodName)) ∈ lw_tbl := List.mem_of_getElem? (i := 147) (by decide +kernel)
set_option maxRecDepth 20000 in
theorem tw_107 : (Jvm.Cond.code ({ cls := "java/lang/Math", name := "max", desc := "(II)I" } : Jvm.MethodName) prog_14_method_65_code (2 : Nat) (Option.some Jvm.ClassFile.FieldType.int)) ∈ lw_tbl := in_t1 (List.mem_of_getElem? (i := 107) rfl)
theorem tw_108 : (Jvm.Cond.methodLink "FoundryNineLaw" (55 : Nat) ({ cls := "FoundryNine", name := "way", desc := "(I)I" } : Jvm.MethodName)) ∈ lw_tbl := List.mem_of_getElem? (i := 149) (by decide +kernel)
theorem tw_109 : (Jvm.Cond.instanceMethod ({ cls := "FoundryNine", name := "way", desc := "(I)I" } : Jvm.MethodName)) ∈ lw_tbl := List.mem_of_getElem? (i := 150) (by decide +kernel)
theorem tw_110 : (Jvm.Cond.selects "FoundryNine" ({ cls := "FoundryNine", name := "way", desc := "(I)I" } : Jvm.MethodName) ({ cls := "FoundryNine", name := "way", desc := "(I)I" } : Jvm.MethodName)) ∈ lw_tbl := List.mem_of_getElem? (i := 151) (by decide +kernel)
set_option maxRecDepth 20000 in
theorem tw_111 : (Jvm.Cond.code ({ cls := "FoundryNine", name := "way", desc := "(I)I" } : Jvm.MethodName) prog_1_method_12_code (4 : Nat) (Option.some Jvm.ClassFile.FieldType.int)) ∈ lw_tbl := in_t1 (List.mem_of_getElem? (i := 111) rfl)
theorem tw_112 : (Jvm.Cond.methodLink "FoundryNine" (126 : Nat) ({ cls := "FoundryNine$Arrivals", name := "latestDriven", desc := "(LFoundryNine$Circuit;)I" } : Jvm.MethodName)) ∈ lw_tbl := List.mem_of_getElem? (i := 153) (by decide +kernel)
theorem tw_113 : (Jvm.Cond.instanceMethod ({ cls := "FoundryNine$Arrivals", name := "latestDriven", desc := "(LFoundryNine$Circuit;)I" } : Jvm.MethodName)) ∈ lw_tbl := List.mem_of_getElem? (i := 154) (by decide +kernel)
theorem tw_114 : (Jvm.Cond.selects "FoundryNine$Arrivals" ({ cls := "FoundryNine$Arrivals", name := "latestDriven", desc := "(LFoundryNine$Circuit;)I" } : Jvm.MethodName) ({ cls := "FoundryNine$Arrivals", name := "latestDriven", desc := "(LFoundryNine$Circuit;)I" } : Jvm.MethodName)) ∈ lw_tbl := List.mem_of_getElem? (i := 155) (by decide +kernel)
set_option maxRecDepth 20000 in
theorem tw_115 : (Jvm.Cond.code ({ cls := "FoundryNine$Arrivals", name := "latestDriven", desc := "(LFoundryNine$Circuit;)I" } : Jvm.MethodName) prog_2_method_6_code (5 : Nat) (Option.some Jvm.ClassFile.FieldType.int)) ∈ lw_tbl := in_t1 (List.mem_of_getElem? (i := 115) rfl)
theorem tw_116 : (Jvm.Cond.methodLink "FoundryNine" (130 : Nat) ({ cls := "FoundryNine$Arrivals", name := "wireBehind", desc := "(LFoundryNine$Circuit;I)I" } : Jvm.MethodName)) ∈ lw_tbl := List.mem_of_getElem? (i := 157) (by decide +kernel)
theorem tw_117 : (Jvm.Cond.instanceMethod ({ cls := "FoundryNine$Arrivals", name := "wireBehind", desc := "(LFoundryNine$Circuit;I)I" } : Jvm.MethodName)) ∈ lw_tbl := List.mem_of_getElem? (i := 158) (by decide +kernel)
theorem tw_118 : (Jvm.Cond.selects "FoundryNine$Arrivals" ({ cls := "FoundryNine$Arrivals", name := "wireBehind", desc := "(LFoundryNine$Circuit;I)I" } : Jvm.MethodName) ({ cls := "FoundryNine$Arrivals", name := "wireBehind", desc := "(LFoundryNine$Circuit;I)I" } : Jvm.MethodName)) ∈ lw_tbl := List.mem_of_getElem? (i := 159) (by decide +kernel)
set_option maxRecDepth 20000 in
theorem tw_119 : (Jvm.Cond.code ({ cls := "FoundryNine$Arrivals", name := "wireBehind", desc := "(LFoundryNine$Circuit;I)I" } : Jvm.MethodName) prog_2_method_7_code (5 : Nat) (Option.some Jvm.ClassFile.FieldType.int)) ∈ lw_tbl := in_t1 (List.mem_of_getElem? (i := 119) rfl)
theorem tw_120 : (Jvm.Cond.methodLink "FoundryNine$Arrivals" (21 : Nat) ({ cls := "FoundryNine$Circuit", name := "firstLineOf", desc := "(I)I" } : Jvm.MethodName)) ∈ lw_tbl := List.mem_of_getElem? (i := 161) (by decide +kernel)
theorem tw_121 : (Jvm.Cond.instanceMethod ({ cls := "FoundryNine$Circuit", name := "firstLineOf", desc := "(I)I" } : Jvm.MethodName)) ∈ lw_tbl := List.mem_of_getElem? (i := 162) (by decide +kernel)
theorem tw_122 : (Jvm.Cond.selects "FoundryNine$Circuit" ({ cls := "FoundryNine$Circuit", name := "firstLineOf", desc := "(I)I" } : Jvm.MethodName) ({ cls := "FoundryNine$Circuit", name := "firstLineOf", desc := "(I)I" } : Jvm.MethodName)) ∈ lw_tbl := List.mem_of_getElem? (i := 163) (by decide +kernel)
set_option maxRecDepth 20000 in
theorem tw_123 : (Jvm.Cond.code ({ cls := "FoundryNine$Circuit", name := "firstLineOf", desc := "(I)I" } : Jvm.MethodName) prog_3_method_7_code (3 : Nat) (Option.some Jvm.ClassFile.FieldType.int)) ∈ lw_tbl := in_t1 (List.mem_of_getElem? (i := 123) rfl)
theorem tw_124 : (Jvm.Cond.methodLinkNest "FoundryNine$Circuit" (55 : Nat) ({ cls := "FoundryNine", name := "isWire", desc := "(I)Z" } : Jvm.MethodName) "FoundryNine") ∈ lw_tbl := List.mem_of_getElem? (i := 165) (by decide +kernel)
theorem tw_125 : (Jvm.Cond.methodLink "FoundryNine$Arrivals" (68 : Nat) ({ cls := "FoundryNine$Circuit", name := "isGate", desc := "(I)Z" } : Jvm.MethodName)) ∈ lw_tbl := List.mem_of_getElem? (i := 166) (by decide +kernel)
theorem tw_126 : (Jvm.Cond.instanceMethod ({ cls := "FoundryNine$Circuit", name := "isGate", desc := "(I)Z" } : Jvm.MethodName)) ∈ lw_tbl := List.mem_of_getElem? (i := 167) (by decide +kernel)
theorem tw_127 : (Jvm.Cond.selects "FoundryNine$Circuit" ({ cls := "FoundryNine$Circuit", name := "isGate", desc := "(I)Z" } : Jvm.MethodName) ({ cls := "FoundryNine$Circuit", name := "isGate", desc := "(I)Z" } : Jvm.MethodName)) ∈ lw_tbl := List.mem_of_getElem? (i := 168) (by decide +kernel)
set_option maxRecDepth 20000 in
theorem tw_128 : (Jvm.Cond.code ({ cls := "FoundryNine$Circuit", name := "isGate", desc := "(I)Z" } : Jvm.MethodName) prog_3_method_4_code (2 : Nat) (Option.some Jvm.ClassFile.FieldType.boolean)) ∈ lw_tbl := in_t1 (List.mem_of_getElem? (i := 128) rfl)
theorem tw_129 : (Jvm.Cond.methodLink "FoundryNine$Arrivals" (46 : Nat) ({ cls := "FoundryNine$Arrivals", name := "arrivalOf", desc := "(I)I" } : Jvm.MethodName)) ∈ lw_tbl := List.mem_of_getElem? (i := 170) (by decide +kernel)
theorem tw_130 : (Jvm.Cond.privateMethod ({ cls := "FoundryNine$Arrivals", name := "arrivalOf", desc := "(I)I" } : Jvm.MethodName)) ∈ lw_tbl := List.mem_of_getElem? (i := 171) (by decide +kernel)
theorem tw_131 : (Jvm.Cond.instanceMethod ({ cls := "FoundryNine$Arrivals", name := "arrivalOf", desc := "(I)I" } : Jvm.MethodName)) ∈ lw_tbl := List.mem_of_getElem? (i := 172) (by decide +kernel)
theorem tw_132 : (Jvm.Cond.instantiable "FoundryNine$Arrivals" (1 : Nat)) ∈ lw_tbl := List.mem_of_getElem? (i := 173) (by decide +kernel)
set_option maxRecDepth 20000 in
theorem tw_133 : (Jvm.Cond.code ({ cls := "FoundryNine$Arrivals", name := "arrivalOf", desc := "(I)I" } : Jvm.MethodName) prog_2_method_4_code (2 : Nat) (Option.some Jvm.ClassFile.FieldType.int)) ∈ lw_tbl := in_t1 (List.mem_of_getElem? (i := 133) rfl)
theorem tw_134 : (Jvm.Cond.methodLinkNest "FoundryNine$Arrivals" (61 : Nat) ({ cls := "FoundryNine", name := "isWire", desc := "(I)Z" } : Jvm.MethodName) "FoundryNine") ∈ lw_tbl := List.mem_of_getElem? (i := 175) (by decide +kernel)
theorem tw_135 : (Jvm.Cond.methodLink "FoundryNineLaw" (71 : Nat) ({ cls := "FoundryNine", name := "set", desc := "(II)I" } : Jvm.MethodName)) ∈ lw_tbl := List.mem_of_getElem? (i := 176) (by decide +kernel)
theorem tw_136 : (Jvm.Cond.instanceMethod ({ cls := "FoundryNine", name := "set", desc := "(II)I" } : Jvm.MethodName)) ∈ lw_tbl := List.mem_of_getElem? (i := 177) (by decide +kernel)
theorem tw_137 : (Jvm.Cond.selects "FoundryNine" ({ cls := "FoundryNine", name := "set", desc := "(II)I" } : Jvm.MethodName) ({ cls := "FoundryNine", name := "set", desc := "(II)I" } : Jvm.MethodName)) ∈ lw_tbl := List.mem_of_getElem? (i := 178) (by decide +kernel)
set_option maxRecDepth 20000 in
theorem tw_138 : (Jvm.Cond.code ({ cls := "FoundryNine", name := "set", desc := "(II)I" } : Jvm.MethodName) prog_1_method_15_code (4 : Nat) (Option.some Jvm.ClassFile.FieldType.int)) ∈ lw_tbl := in_t1 (List.mem_of_getElem? (i := 138) rfl)
theorem tw_139 : (Jvm.Cond.methodLink "FoundryNine" (157 : Nat) ({ cls := "FoundryNine", name := "checkRunning", desc := "()V" } : Jvm.MethodName)) ∈ lw_tbl := List.mem_of_getElem? (i := 180) (by decide +kernel)
theorem tw_140 : (Jvm.Cond.privateMethod ({ cls := "FoundryNine", name := "checkRunning", desc := "()V" } : Jvm.MethodName)) ∈ lw_tbl := List.mem_of_getElem? (i := 181) (by decide +kernel)
theorem tw_141 : (Jvm.Cond.instanceMethod ({ cls := "FoundryNine", name := "checkRunning", desc := "()V" } : Jvm.MethodName)) ∈ lw_tbl := List.mem_of_getElem? (i := 182) (by decide +kernel)
theorem tw_142 : (Jvm.Cond.instantiable "FoundryNine" (7 : Nat)) ∈ lw_tbl := List.mem_of_getElem? (i := 183) (by decide +kernel)
set_option maxRecDepth 20000 in
theorem tw_143 : (Jvm.Cond.code ({ cls := "FoundryNine", name := "checkRunning", desc := "()V" } : Jvm.MethodName) prog_1_method_42_code (1 : Nat) (Option.none : Option Jvm.ClassFile.FieldType)) ∈ lw_tbl := in_t1 (List.mem_of_getElem? (i := 143) rfl)
theorem tw_144 : (Jvm.Cond.classLink "FoundryNine" (146 : Nat) "java/lang/IllegalStateException") ∈ lw_tbl := List.mem_of_getElem? (i := 185) (by decide +kernel)
theorem tw_145 : (Jvm.Cond.instantiable "java/lang/IllegalStateException" (6 : Nat)) ∈ lw_tbl := List.mem_of_getElem? (i := 186) (by decide +kernel)
theorem tw_146 : (Jvm.Cond.castable "java/lang/IllegalStateException" "java/lang/IllegalStateException") ∈ lw_tbl := List.mem_of_getElem? (i := 187) (by decide +kernel)
theorem tw_147 : (Jvm.Cond.selects "java/lang/IllegalStateException" ({ cls := "java/lang/Throwable", name := "fillInStackTrace", desc := "(I)Ljava/lang/Throwable;" } : Jvm.MethodName) ({ cls := "java/lang/Throwable", name := "fillInStackTrace", desc := "(I)Ljava/lang/Throwable;" } : Jvm.MethodName)) ∈ lw_tbl := List.mem_of_getElem? (i := 188) (by decide +kernel)
theorem tw_148 : (Jvm.Cond.lays "java/lang/IllegalStateException" "java/lang/Throwable" "cause" "Ljava/lang/Throwable;") ∈ lw_tbl := List.mem_of_getElem? (i := 189) (by decide +kernel)
theorem tw_149 : (Jvm.Cond.lays "java/lang/IllegalStateException" "java/lang/Throwable" "stackTrace" "[Ljava/lang/StackTraceElement;") ∈ lw_tbl := List.mem_of_getElem? (i := 190) (by decide +kernel)
theorem tw_150 : (Jvm.Cond.lays "java/lang/IllegalStateException" "java/lang/Throwable" "suppressedExceptions" "Ljava/util/List;") ∈ lw_tbl := List.mem_of_getElem? (i := 191) (by decide +kernel)
theorem tw_151 : (Jvm.Cond.lays "java/lang/IllegalStateException" "java/lang/Throwable" "detailMessage" "Ljava/lang/String;") ∈ lw_tbl := List.mem_of_getElem? (i := 192) (by decide +kernel)
theorem tw_152 : (Jvm.Cond.lays "java/lang/IllegalStateException" "java/lang/Throwable" "backtrace" "Ljava/lang/Object;") ∈ lw_tbl := List.mem_of_getElem? (i := 193) (by decide +kernel)
theorem tw_153 : (Jvm.Cond.stringRef "FoundryNine" (312 : Nat) "it does not run") ∈ lw_tbl := List.mem_of_getElem? (i := 194) (by decide +kernel)
theorem tw_154 : (Jvm.Cond.methodLink "FoundryNine" (150 : Nat) ({ cls := "java/lang/IllegalStateException", name := "<init>", desc := "(Ljava/lang/String;)V" } : Jvm.MethodName)) ∈ lw_tbl := List.mem_of_getElem? (i := 195) (by decide +kernel)
theorem tw_155 : (Jvm.Cond.instanceMethod ({ cls := "java/lang/IllegalStateException", name := "<init>", desc := "(Ljava/lang/String;)V" } : Jvm.MethodName)) ∈ lw_tbl := List.mem_of_getElem? (i := 196) (by decide +kernel)
set_option maxRecDepth 20000 in
theorem tw_156 : (Jvm.Cond.code ({ cls := "java/lang/IllegalStateException", name := "<init>", desc := "(Ljava/lang/String;)V" } : Jvm.MethodName) prog_11_method_2_code (2 : Nat) (Option.none : Option Jvm.ClassFile.FieldType)) ∈ lw_tbl := in_t1 (List.mem_of_getElem? (i := 156) rfl)
theorem tw_157 : (Jvm.Cond.methodLink "java/lang/IllegalStateException" (7 : Nat) ({ cls := "java/lang/RuntimeException", name := "<init>", desc := "(Ljava/lang/String;)V" } : Jvm.MethodName)) ∈ lw_tbl := List.mem_of_getElem? (i := 198) (by decide +kernel)
theorem tw_158 : (Jvm.Cond.lays "java/lang/IllegalStateException" "java/lang/Throwable" "depth" "I") ∈ lw_tbl := List.mem_of_getElem? (i := 199) (by decide +kernel)
theorem tw_159 : (Jvm.Cond.superclass "java/lang/IllegalStateException" "java/lang/RuntimeException") ∈ lw_tbl := List.mem_of_getElem? (i := 200) (by decide +kernel)
theorem tw_160 : (Jvm.Cond.methodLink "FoundryNine" (160 : Nat) ({ cls := "FoundryNine", name := "checkSetting", desc := "(II)V" } : Jvm.MethodName)) ∈ lw_tbl := List.mem_of_getElem? (i := 201) (by decide +kernel)
theorem tw_161 : (Jvm.Cond.privateMethod ({ cls := "FoundryNine", name := "checkSetting", desc := "(II)V" } : Jvm.MethodName)) ∈ lw_tbl := List.mem_of_getElem? (i := 202) (by decide +kernel)
theorem tw_162 : (Jvm.Cond.instanceMethod ({ cls := "FoundryNine", name := "checkSetting", desc := "(II)V" } : Jvm.MethodName)) ∈ lw_tbl := List.mem_of_getElem? (i := 203) (by decide +kernel)
set_option maxRecDepth 20000 in
theorem tw_163 : (Jvm.Cond.code ({ cls := "FoundryNine", name := "checkSetting", desc := "(II)V" } : Jvm.MethodName) prog_1_method_43_code (3 : Nat) (Option.none : Option Jvm.ClassFile.FieldType)) ∈ lw_tbl := in_t1 (List.mem_of_getElem? (i := 163) rfl)
theorem tw_164 : (Jvm.Cond.methodLink "FoundryNine" (314 : Nat) ({ cls := "FoundryNine$Circuit", name := "isFirstDrivenBy", desc := "(II)Z" } : Jvm.MethodName)) ∈ lw_tbl := List.mem_of_getElem? (i := 205) (by decide +kernel)
theorem tw_165 : (Jvm.Cond.instanceMethod ({ cls := "FoundryNine$Circuit", name := "isFirstDrivenBy", desc := "(II)Z" } : Jvm.MethodName)) ∈ lw_tbl := List.mem_of_getElem? (i := 206) (by decide +kernel)
theorem tw_166 : (Jvm.Cond.selects "FoundryNine$Circuit" ({ cls := "FoundryNine$Circuit", name := "isFirstDrivenBy", desc := "(II)Z" } : Jvm.MethodName) ({ cls := "FoundryNine$Circuit", name := "isFirstDrivenBy", desc := "(II)Z" } : Jvm.MethodName)) ∈ lw_tbl := List.mem_of_getElem? (i := 207) (by decide +kernel)
set_option maxRecDepth 20000 in
theorem tw_167 : (Jvm.Cond.code ({ cls := "FoundryNine$Circuit", name := "isFirstDrivenBy", desc := "(II)Z" } : Jvm.MethodName) prog_3_method_5_code (4 : Nat) (Option.some Jvm.ClassFile.FieldType.boolean)) ∈ lw_tbl := in_t1 (List.mem_of_getElem? (i := 167) rfl)
theorem tw_168 : (Jvm.Cond.methodLink "FoundryNine$Circuit" (63 : Nat) ({ cls := "FoundryNine$Circuit", name := "firstLineOf", desc := "(I)I" } : Jvm.MethodName)) ∈ lw_tbl := List.mem_of_getElem? (i := 209) (by decide +kernel)
theorem tw_169 : (Jvm.Cond.classLink "FoundryNine" (60 : Nat) "java/lang/IllegalArgumentException") ∈ lw_tbl := List.mem_of_getElem? (i := 210) (by decide +kernel)
theorem tw_170 : (Jvm.Cond.instantiable "java/lang/IllegalArgumentException" (6 : Nat)) ∈ lw_tbl := List.mem_of_getElem? (i := 211) (by decide +kernel)
theorem tw_171 : (Jvm.Cond.castable "java/lang/IllegalArgumentException" "java/lang/IllegalArgumentException") ∈ lw_tbl := List.mem_of_getElem? (i := 212) (by decide +kernel)
theorem tw_172 : (Jvm.Cond.selects "java/lang/IllegalArgumentException" ({ cls := "java/lang/Throwable", name := "fillInStackTrace", desc := "(I)Ljava/lang/Throwable;" } : Jvm.MethodName) ({ cls := "java/lang/Throwable", name := "fillInStackTrace", desc := "(I)Ljava/lang/Throwable;" } : Jvm.MethodName)) ∈ lw_tbl := List.mem_of_getElem? (i := 213) (by decide +kernel)
theorem tw_173 : (Jvm.Cond.lays "java/lang/IllegalArgumentException" "java/lang/Throwable" "cause" "Ljava/lang/Throwable;") ∈ lw_tbl := List.mem_of_getElem? (i := 214) (by decide +kernel)
theorem tw_174 : (Jvm.Cond.lays "java/lang/IllegalArgumentException" "java/lang/Throwable" "stackTrace" "[Ljava/lang/StackTraceElement;") ∈ lw_tbl := List.mem_of_getElem? (i := 215) (by decide +kernel)
theorem tw_175 : (Jvm.Cond.lays "java/lang/IllegalArgumentException" "java/lang/Throwable" "suppressedExceptions" "Ljava/util/List;") ∈ lw_tbl := List.mem_of_getElem? (i := 216) (by decide +kernel)
theorem tw_176 : (Jvm.Cond.lays "java/lang/IllegalArgumentException" "java/lang/Throwable" "detailMessage" "Ljava/lang/String;") ∈ lw_tbl := List.mem_of_getElem? (i := 217) (by decide +kernel)
theorem tw_177 : (Jvm.Cond.lays "java/lang/IllegalArgumentException" "java/lang/Throwable" "backtrace" "Ljava/lang/Object;") ∈ lw_tbl := List.mem_of_getElem? (i := 218) (by decide +kernel)
theorem tw_178 : (Jvm.Cond.stringRef "FoundryNine" (317 : Nat) "no input drives it") ∈ lw_tbl := List.mem_of_getElem? (i := 219) (by decide +kernel)
theorem tw_179 : (Jvm.Cond.methodLink "FoundryNine" (64 : Nat) ({ cls := "java/lang/IllegalArgumentException", name := "<init>", desc := "(Ljava/lang/String;)V" } : Jvm.MethodName)) ∈ lw_tbl := List.mem_of_getElem? (i := 220) (by decide +kernel)
theorem tw_180 : (Jvm.Cond.instanceMethod ({ cls := "java/lang/IllegalArgumentException", name := "<init>", desc := "(Ljava/lang/String;)V" } : Jvm.MethodName)) ∈ lw_tbl := List.mem_of_getElem? (i := 221) (by decide +kernel)
set_option maxRecDepth 20000 in
theorem tw_181 : (Jvm.Cond.code ({ cls := "java/lang/IllegalArgumentException", name := "<init>", desc := "(Ljava/lang/String;)V" } : Jvm.MethodName) prog_10_method_2_code (2 : Nat) (Option.none : Option Jvm.ClassFile.FieldType)) ∈ lw_tbl := in_t1 (List.mem_of_getElem? (i := 181) rfl)
theorem tw_182 : (Jvm.Cond.methodLink "java/lang/IllegalArgumentException" (7 : Nat) ({ cls := "java/lang/RuntimeException", name := "<init>", desc := "(Ljava/lang/String;)V" } : Jvm.MethodName)) ∈ lw_tbl := List.mem_of_getElem? (i := 223) (by decide +kernel)
theorem tw_183 : (Jvm.Cond.lays "java/lang/IllegalArgumentException" "java/lang/Throwable" "depth" "I") ∈ lw_tbl := List.mem_of_getElem? (i := 224) (by decide +kernel)
theorem tw_184 : (Jvm.Cond.superclass "java/lang/IllegalArgumentException" "java/lang/RuntimeException") ∈ lw_tbl := List.mem_of_getElem? (i := 225) (by decide +kernel)
theorem tw_185 : (Jvm.Cond.stringRef "FoundryNine" (319 : Nat) "no such value of an input") ∈ lw_tbl := List.mem_of_getElem? (i := 226) (by decide +kernel)
theorem tw_186 : (Jvm.Cond.methodLink "FoundryNine" (167 : Nat) ({ cls := "FoundryNine$Run", name := "put", desc := "(II)V" } : Jvm.MethodName)) ∈ lw_tbl := List.mem_of_getElem? (i := 227) (by decide +kernel)
theorem tw_187 : (Jvm.Cond.instanceMethod ({ cls := "FoundryNine$Run", name := "put", desc := "(II)V" } : Jvm.MethodName)) ∈ lw_tbl := List.mem_of_getElem? (i := 228) (by decide +kernel)
theorem tw_188 : (Jvm.Cond.selects "FoundryNine$Run" ({ cls := "FoundryNine$Run", name := "put", desc := "(II)V" } : Jvm.MethodName) ({ cls := "FoundryNine$Run", name := "put", desc := "(II)V" } : Jvm.MethodName)) ∈ lw_tbl := List.mem_of_getElem? (i := 229) (by decide +kernel)
set_option maxRecDepth 20000 in
theorem tw_189 : (Jvm.Cond.code ({ cls := "FoundryNine$Run", name := "put", desc := "(II)V" } : Jvm.MethodName) prog_5_method_5_code (3 : Nat) (Option.none : Option Jvm.ClassFile.FieldType)) ∈ lw_tbl := in_t1 (List.mem_of_getElem? (i := 189) rfl)
theorem tw_190 : (Jvm.Cond.methodLink "FoundryNine$Run" (61 : Nat) ({ cls := "FoundryNine$Run", name := "beginCounting", desc := "()V" } : Jvm.MethodName)) ∈ lw_tbl := List.mem_of_getElem? (i := 231) (by decide +kernel)
theorem tw_191 : (Jvm.Cond.privateMethod ({ cls := "FoundryNine$Run", name := "beginCounting", desc := "()V" } : Jvm.MethodName)) ∈ lw_tbl := List.mem_of_getElem? (i := 232) (by decide +kernel)
theorem tw_192 : (Jvm.Cond.instanceMethod ({ cls := "FoundryNine$Run", name := "beginCounting", desc := "()V" } : Jvm.MethodName)) ∈ lw_tbl := List.mem_of_getElem? (i := 233) (by decide +kernel)
theorem tw_193 : (Jvm.Cond.instantiable "FoundryNine$Run" (18 : Nat)) ∈ lw_tbl := List.mem_of_getElem? (i := 234) (by decide +kernel)
set_option maxRecDepth 20000 in
theorem tw_194 : (Jvm.Cond.code ({ cls := "FoundryNine$Run", name := "beginCounting", desc := "()V" } : Jvm.MethodName) prog_5_method_13_code (1 : Nat) (Option.none : Option Jvm.ClassFile.FieldType)) ∈ lw_tbl := in_t1 (List.mem_of_getElem? (i := 194) rfl)
theorem tw_195 : (Jvm.Cond.methodLink "FoundryNine$Run" (52 : Nat) ({ cls := "java/util/Arrays", name := "fill", desc := "([II)V" } : Jvm.MethodName)) ∈ lw_tbl := List.mem_of_getElem? (i := 236) (by decide +kernel)
theorem tw_196 : (Jvm.Cond.static ({ cls := "java/util/Arrays", name := "fill", desc := "([II)V" } : Jvm.MethodName)) ∈ lw_tbl := List.mem_of_getElem? (i := 237) (by decide +kernel)
set_option maxRecDepth 20000 in
theorem tw_197 : (Jvm.Cond.code ({ cls := "java/util/Arrays", name := "fill", desc := "([II)V" } : Jvm.MethodName) prog_19_method_103_code (4 : Nat) (Option.none : Option Jvm.ClassFile.FieldType)) ∈ lw_tbl := in_t1 (List.mem_of_getElem? (i := 197) rfl)
theorem tw_198 : (Jvm.Cond.methodLink "FoundryNine$Run" (83 : Nat) ({ cls := "java/lang/System", name := "arraycopy", desc := "(Ljava/lang/Object;ILjava/lang/Object;II)V" } : Jvm.MethodName)) ∈ lw_tbl := List.mem_of_getElem? (i := 239) (by decide +kernel)
theorem tw_199 : (Jvm.Cond.static ({ cls := "java/lang/System", name := "arraycopy", desc := "(Ljava/lang/Object;ILjava/lang/Object;II)V" } : Jvm.MethodName)) ∈ lw_tbl := List.mem_of_getElem? (i := 240) (by decide +kernel)
theorem tw_200 : (Jvm.Cond.native ({ cls := "java/lang/System", name := "arraycopy", desc := "(Ljava/lang/Object;ILjava/lang/Object;II)V" } : Jvm.MethodName)) ∈ lw_tbl := List.mem_of_getElem? (i := 241) (by decide +kernel)
theorem tw_201 : (Jvm.Cond.methodLink "FoundryNine$Run" (100 : Nat) ({ cls := "FoundryNine$Run", name := "change", desc := "(II)V" } : Jvm.MethodName)) ∈ lw_tbl := List.mem_of_getElem? (i := 242) (by decide +kernel)
theorem tw_202 : (Jvm.Cond.privateMethod ({ cls := "FoundryNine$Run", name := "change", desc := "(II)V" } : Jvm.MethodName)) ∈ lw_tbl := List.mem_of_getElem? (i := 243) (by decide +kernel)
theorem tw_203 : (Jvm.Cond.instanceMethod ({ cls := "FoundryNine$Run", name := "change", desc := "(II)V" } : Jvm.MethodName)) ∈ lw_tbl := List.mem_of_getElem? (i := 244) (by decide +kernel)
set_option maxRecDepth 20000 in
theorem tw_204 : (Jvm.Cond.code ({ cls := "FoundryNine$Run", name := "change", desc := "(II)V" } : Jvm.MethodName) prog_5_method_14_code (5 : Nat) (Option.none : Option Jvm.ClassFile.FieldType)) ∈ lw_tbl := in_t1 (List.mem_of_getElem? (i := 204) rfl)
theorem tw_205 : (Jvm.Cond.methodLinkNest "FoundryNine$Run" (119 : Nat) ({ cls := "FoundryNine", name := "isWire", desc := "(I)Z" } : Jvm.MethodName) "FoundryNine") ∈ lw_tbl := List.mem_of_getElem? (i := 246) (by decide +kernel)
theorem tw_206 : (Jvm.Cond.methodLink "FoundryNine$Run" (123 : Nat) ({ cls := "FoundryNine$Circuit", name := "isUsedBy", desc := "(II)Z" } : Jvm.MethodName)) ∈ lw_tbl := List.mem_of_getElem? (i := 247) (by decide +kernel)
theorem tw_207 : (Jvm.Cond.instanceMethod ({ cls := "FoundryNine$Circuit", name := "isUsedBy", desc := "(II)Z" } : Jvm.MethodName)) ∈ lw_tbl := List.mem_of_getElem? (i := 248) (by decide +kernel)
theorem tw_208 : (Jvm.Cond.selects "FoundryNine$Circuit" ({ cls := "FoundryNine$Circuit", name := "isUsedBy", desc := "(II)Z" } : Jvm.MethodName) ({ cls := "FoundryNine$Circuit", name := "isUsedBy", desc := "(II)Z" } : Jvm.MethodName)) ∈ lw_tbl := List.mem_of_getElem? (i := 249) (by decide +kernel)
set_option maxRecDepth 20000 in
theorem tw_209 : (Jvm.Cond.code ({ cls := "FoundryNine$Circuit", name := "isUsedBy", desc := "(II)Z" } : Jvm.MethodName) prog_3_method_6_code (3 : Nat) (Option.some Jvm.ClassFile.FieldType.boolean)) ∈ lw_tbl := in_t1 (List.mem_of_getElem? (i := 209) rfl)
theorem tw_210 : (Jvm.Cond.methodLink "FoundryNine$Run" (126 : Nat) ({ cls := "FoundryNine$Run", name := "askRegister", desc := "(III)V" } : Jvm.MethodName)) ∈ lw_tbl := List.mem_of_getElem? (i := 251) (by decide +kernel)
theorem tw_211 : (Jvm.Cond.privateMethod ({ cls := "FoundryNine$Run", name := "askRegister", desc := "(III)V" } : Jvm.MethodName)) ∈ lw_tbl := List.mem_of_getElem? (i := 252) (by decide +kernel)
theorem tw_212 : (Jvm.Cond.instanceMethod ({ cls := "FoundryNine$Run", name := "askRegister", desc := "(III)V" } : Jvm.MethodName)) ∈ lw_tbl := List.mem_of_getElem? (i := 253) (by decide +kernel)
set_option maxRecDepth 20000 in
theorem tw_213 : (Jvm.Cond.code ({ cls := "FoundryNine$Run", name := "askRegister", desc := "(III)V" } : Jvm.MethodName) prog_5_method_16_code (7 : Nat) (Option.none : Option Jvm.ClassFile.FieldType)) ∈ lw_tbl := in_t1 (List.mem_of_getElem? (i := 213) rfl)
theorem tw_214 : (Jvm.Cond.methodLink "FoundryNine$Run" (137 : Nat) ({ cls := "FoundryNine$Run", name := "valueOf", desc := "(I)I" } : Jvm.MethodName)) ∈ lw_tbl := List.mem_of_getElem? (i := 255) (by decide +kernel)
theorem tw_215 : (Jvm.Cond.privateMethod ({ cls := "FoundryNine$Run", name := "valueOf", desc := "(I)I" } : Jvm.MethodName)) ∈ lw_tbl := List.mem_of_getElem? (i := 256) (by decide +kernel)
theorem tw_216 : (Jvm.Cond.instanceMethod ({ cls := "FoundryNine$Run", name := "valueOf", desc := "(I)I" } : Jvm.MethodName)) ∈ lw_tbl := List.mem_of_getElem? (i := 257) (by decide +kernel)
set_option maxRecDepth 20000 in
theorem tw_217 : (Jvm.Cond.code ({ cls := "FoundryNine$Run", name := "valueOf", desc := "(I)I" } : Jvm.MethodName) prog_5_method_20_code (2 : Nat) (Option.some Jvm.ClassFile.FieldType.int)) ∈ lw_tbl := in_t1 (List.mem_of_getElem? (i := 217) rfl)
theorem tw_218 : (Jvm.Cond.methodLink "FoundryNine$Run" (150 : Nat) ({ cls := "FoundryNine$Run", name := "makePending", desc := "(II)V" } : Jvm.MethodName)) ∈ lw_tbl := List.mem_of_getElem? (i := 259) (by decide +kernel)
theorem tw_219 : (Jvm.Cond.privateMethod ({ cls := "FoundryNine$Run", name := "makePending", desc := "(II)V" } : Jvm.MethodName)) ∈ lw_tbl := List.mem_of_getElem? (i := 260) (by decide +kernel)
theorem tw_220 : (Jvm.Cond.instanceMethod ({ cls := "FoundryNine$Run", name := "makePending", desc := "(II)V" } : Jvm.MethodName)) ∈ lw_tbl := List.mem_of_getElem? (i := 261) (by decide +kernel)
set_option maxRecDepth 20000 in
theorem tw_221 : (Jvm.Cond.code ({ cls := "FoundryNine$Run", name := "makePending", desc := "(II)V" } : Jvm.MethodName) prog_5_method_19_code (3 : Nat) (Option.none : Option Jvm.ClassFile.FieldType)) ∈ lw_tbl := in_t1 (List.mem_of_getElem? (i := 221) rfl)
theorem tw_222 : (Jvm.Cond.methodLink "FoundryNine$Run" (153 : Nat) ({ cls := "FoundryNine$Run", name := "rise", desc := "(I)V" } : Jvm.MethodName)) ∈ lw_tbl := List.mem_of_getElem? (i := 263) (by decide +kernel)
theorem tw_223 : (Jvm.Cond.privateMethod ({ cls := "FoundryNine$Run", name := "rise", desc := "(I)V" } : Jvm.MethodName)) ∈ lw_tbl := List.mem_of_getElem? (i := 264) (by decide +kernel)
theorem tw_224 : (Jvm.Cond.instanceMethod ({ cls := "FoundryNine$Run", name := "rise", desc := "(I)V" } : Jvm.MethodName)) ∈ lw_tbl := List.mem_of_getElem? (i := 265) (by decide +kernel)
set_option maxRecDepth 20000 in
theorem tw_225 : (Jvm.Cond.code ({ cls := "FoundryNine$Run", name := "rise", desc := "(I)V" } : Jvm.MethodName) prog_5_method_17_code (4 : Nat) (Option.none : Option Jvm.ClassFile.FieldType)) ∈ lw_tbl := in_t1 (List.mem_of_getElem? (i := 225) rfl)
theorem tw_226 : (Jvm.Cond.methodLink "FoundryNine$Run" (159 : Nat) ({ cls := "FoundryNine$Run", name := "isRecent", desc := "(II)Z" } : Jvm.MethodName)) ∈ lw_tbl := List.mem_of_getElem? (i := 267) (by decide +kernel)
theorem tw_227 : (Jvm.Cond.privateMethod ({ cls := "FoundryNine$Run", name := "isRecent", desc := "(II)Z" } : Jvm.MethodName)) ∈ lw_tbl := List.mem_of_getElem? (i := 268) (by decide +kernel)
theorem tw_228 : (Jvm.Cond.instanceMethod ({ cls := "FoundryNine$Run", name := "isRecent", desc := "(II)Z" } : Jvm.MethodName)) ∈ lw_tbl := List.mem_of_getElem? (i := 269) (by decide +kernel)
set_option maxRecDepth 20000 in
theorem tw_229 : (Jvm.Cond.code ({ cls := "FoundryNine$Run", name := "isRecent", desc := "(II)Z" } : Jvm.MethodName) prog_5_method_18_code (3 : Nat) (Option.some Jvm.ClassFile.FieldType.boolean)) ∈ lw_tbl := in_t1 (List.mem_of_getElem? (i := 229) rfl)
theorem tw_230 : (Jvm.Cond.methodLink "FoundryNine$Run" (162 : Nat) ({ cls := "FoundryNine$Run", name := "noteHazard", desc := "(II)V" } : Jvm.MethodName)) ∈ lw_tbl := List.mem_of_getElem? (i := 271) (by decide +kernel)
theorem tw_231 : (Jvm.Cond.privateMethod ({ cls := "FoundryNine$Run", name := "noteHazard", desc := "(II)V" } : Jvm.MethodName)) ∈ lw_tbl := List.mem_of_getElem? (i := 272) (by decide +kernel)
theorem tw_232 : (Jvm.Cond.instanceMethod ({ cls := "FoundryNine$Run", name := "noteHazard", desc := "(II)V" } : Jvm.MethodName)) ∈ lw_tbl := List.mem_of_getElem? (i := 273) (by decide +kernel)
set_option maxRecDepth 20000 in
theorem tw_233 : (Jvm.Cond.code ({ cls := "FoundryNine$Run", name := "noteHazard", desc := "(II)V" } : Jvm.MethodName) prog_5_method_22_code (3 : Nat) (Option.none : Option Jvm.ClassFile.FieldType)) ∈ lw_tbl := in_t1 (List.mem_of_getElem? (i := 233) rfl)
theorem tw_234 : (Jvm.Cond.methodLink "FoundryNine$Run" (130 : Nat) ({ cls := "FoundryNine$Run", name := "askGate", desc := "(I)V" } : Jvm.MethodName)) ∈ lw_tbl := List.mem_of_getElem? (i := 275) (by decide +kernel)
theorem tw_235 : (Jvm.Cond.privateMethod ({ cls := "FoundryNine$Run", name := "askGate", desc := "(I)V" } : Jvm.MethodName)) ∈ lw_tbl := List.mem_of_getElem? (i := 276) (by decide +kernel)
theorem tw_236 : (Jvm.Cond.instanceMethod ({ cls := "FoundryNine$Run", name := "askGate", desc := "(I)V" } : Jvm.MethodName)) ∈ lw_tbl := List.mem_of_getElem? (i := 277) (by decide +kernel)
set_option maxRecDepth 20000 in
theorem tw_237 : (Jvm.Cond.code ({ cls := "FoundryNine$Run", name := "askGate", desc := "(I)V" } : Jvm.MethodName) prog_5_method_15_code (3 : Nat) (Option.none : Option Jvm.ClassFile.FieldType)) ∈ lw_tbl := in_t1 (List.mem_of_getElem? (i := 237) rfl)
theorem tw_238 : (Jvm.Cond.methodLink "FoundryNine$Run" (146 : Nat) ({ cls := "FoundryNine$Run", name := "worked", desc := "(IIII)I" } : Jvm.MethodName)) ∈ lw_tbl := List.mem_of_getElem? (i := 279) (by decide +kernel)
theorem tw_239 : (Jvm.Cond.static ({ cls := "FoundryNine$Run", name := "worked", desc := "(IIII)I" } : Jvm.MethodName)) ∈ lw_tbl := List.mem_of_getElem? (i := 280) (by decide +kernel)
set_option maxRecDepth 20000 in
theorem tw_240 : (Jvm.Cond.code ({ cls := "FoundryNine$Run", name := "worked", desc := "(IIII)I" } : Jvm.MethodName) prog_5_method_23_code (4 : Nat) (Option.some Jvm.ClassFile.FieldType.int)) ∈ lw_tbl := in_t2 (List.mem_of_getElem? (i := 0) rfl)
theorem tw_241 : (Jvm.Cond.methodLink "FoundryNine$Run" (177 : Nat) ({ cls := "FoundryNine$Run", name := "turned", desc := "(I)I" } : Jvm.MethodName)) ∈ lw_tbl := List.mem_of_getElem? (i := 282) (by decide +kernel)
theorem tw_242 : (Jvm.Cond.static ({ cls := "FoundryNine$Run", name := "turned", desc := "(I)I" } : Jvm.MethodName)) ∈ lw_tbl := List.mem_of_getElem? (i := 283) (by decide +kernel)
set_option maxRecDepth 20000 in
theorem tw_243 : (Jvm.Cond.code ({ cls := "FoundryNine$Run", name := "turned", desc := "(I)I" } : Jvm.MethodName) prog_5_method_24_code (1 : Nat) (Option.some Jvm.ClassFile.FieldType.int)) ∈ lw_tbl := in_t2 (List.mem_of_getElem? (i := 3) rfl)
theorem tw_244 : (Jvm.Cond.methodLink "FoundryNine$Run" (180 : Nat) ({ cls := "FoundryNine$Run", name := "both", desc := "(II)I" } : Jvm.MethodName)) ∈ lw_tbl := List.mem_of_getElem? (i := 285) (by decide +kernel)
theorem tw_245 : (Jvm.Cond.static ({ cls := "FoundryNine$Run", name := "both", desc := "(II)I" } : Jvm.MethodName)) ∈ lw_tbl := List.mem_of_getElem? (i := 286) (by decide +kernel)
set_option maxRecDepth 20000 in
theorem tw_246 : (Jvm.Cond.code ({ cls := "FoundryNine$Run", name := "both", desc := "(II)I" } : Jvm.MethodName) prog_5_method_25_code (2 : Nat) (Option.some Jvm.ClassFile.FieldType.int)) ∈ lw_tbl := in_t2 (List.mem_of_getElem? (i := 6) rfl)
theorem tw_247 : (Jvm.Cond.methodLink "FoundryNine$Run" (184 : Nat) ({ cls := "FoundryNine$Run", name := "either", desc := "(II)I" } : Jvm.MethodName)) ∈ lw_tbl := List.mem_of_getElem? (i := 288) (by decide +kernel)
theorem tw_248 : (Jvm.Cond.static ({ cls := "FoundryNine$Run", name := "either", desc := "(II)I" } : Jvm.MethodName)) ∈ lw_tbl := List.mem_of_getElem? (i := 289) (by decide +kernel)
set_option maxRecDepth 20000 in
theorem tw_249 : (Jvm.Cond.code ({ cls := "FoundryNine$Run", name := "either", desc := "(II)I" } : Jvm.MethodName) prog_5_method_26_code (2 : Nat) (Option.some Jvm.ClassFile.FieldType.int)) ∈ lw_tbl := in_t2 (List.mem_of_getElem? (i := 9) rfl)
theorem tw_250 : (Jvm.Cond.methodLink "FoundryNine$Run" (187 : Nat) ({ cls := "FoundryNine$Run", name := "chosen", desc := "(III)I" } : Jvm.MethodName)) ∈ lw_tbl := List.mem_of_getElem? (i := 291) (by decide +kernel)
theorem tw_251 : (Jvm.Cond.static ({ cls := "FoundryNine$Run", name := "chosen", desc := "(III)I" } : Jvm.MethodName)) ∈ lw_tbl := List.mem_of_getElem? (i := 292) (by decide +kernel)
set_option maxRecDepth 20000 in
theorem tw_252 : (Jvm.Cond.code ({ cls := "FoundryNine$Run", name := "chosen", desc := "(III)I" } : Jvm.MethodName) prog_5_method_27_code (3 : Nat) (Option.some Jvm.ClassFile.FieldType.int)) ∈ lw_tbl := in_t2 (List.mem_of_getElem? (i := 12) rfl)
theorem tw_253 : (Jvm.Cond.methodLink "FoundryNineLaw" (85 : Nat) ({ cls := "FoundryNine", name := "pass", desc := "(I)I" } : Jvm.MethodName)) ∈ lw_tbl := List.mem_of_getElem? (i := 294) (by decide +kernel)
theorem tw_254 : (Jvm.Cond.instanceMethod ({ cls := "FoundryNine", name := "pass", desc := "(I)I" } : Jvm.MethodName)) ∈ lw_tbl := List.mem_of_getElem? (i := 295) (by decide +kernel)
theorem tw_255 : (Jvm.Cond.selects "FoundryNine" ({ cls := "FoundryNine", name := "pass", desc := "(I)I" } : Jvm.MethodName) ({ cls := "FoundryNine", name := "pass", desc := "(I)I" } : Jvm.MethodName)) ∈ lw_tbl := List.mem_of_getElem? (i := 296) (by decide +kernel)
set_option maxRecDepth 20000 in
theorem tw_256 : (Jvm.Cond.code ({ cls := "FoundryNine", name := "pass", desc := "(I)I" } : Jvm.MethodName) prog_1_method_16_code (4 : Nat) (Option.some Jvm.ClassFile.FieldType.int)) ∈ lw_tbl := in_t2 (List.mem_of_getElem? (i := 16) rfl)
theorem tw_257 : (Jvm.Cond.methodLink "FoundryNine" (79 : Nat) ({ cls := "FoundryNine", name := "isWithin", desc := "(II)Z" } : Jvm.MethodName)) ∈ lw_tbl := List.mem_of_getElem? (i := 298) (by decide +kernel)
theorem tw_258 : (Jvm.Cond.static ({ cls := "FoundryNine", name := "isWithin", desc := "(II)Z" } : Jvm.MethodName)) ∈ lw_tbl := List.mem_of_getElem? (i := 299) (by decide +kernel)
set_option maxRecDepth 20000 in
theorem tw_259 : (Jvm.Cond.code ({ cls := "FoundryNine", name := "isWithin", desc := "(II)Z" } : Jvm.MethodName) prog_1_method_36_code (2 : Nat) (Option.some Jvm.ClassFile.FieldType.boolean)) ∈ lw_tbl := in_t2 (List.mem_of_getElem? (i := 19) rfl)
theorem tw_260 : (Jvm.Cond.stringRef "FoundryNine" (170 : Nat) "no such step") ∈ lw_tbl := List.mem_of_getElem? (i := 301) (by decide +kernel)
theorem tw_261 : (Jvm.Cond.methodLink "FoundryNine" (175 : Nat) ({ cls := "FoundryNine$Run", name := "letCome", desc := "(I)I" } : Jvm.MethodName)) ∈ lw_tbl := List.mem_of_getElem? (i := 302) (by decide +kernel)
theorem tw_262 : (Jvm.Cond.instanceMethod ({ cls := "FoundryNine$Run", name := "letCome", desc := "(I)I" } : Jvm.MethodName)) ∈ lw_tbl := List.mem_of_getElem? (i := 303) (by decide +kernel)
theorem tw_263 : (Jvm.Cond.selects "FoundryNine$Run" ({ cls := "FoundryNine$Run", name := "letCome", desc := "(I)I" } : Jvm.MethodName) ({ cls := "FoundryNine$Run", name := "letCome", desc := "(I)I" } : Jvm.MethodName)) ∈ lw_tbl := List.mem_of_getElem? (i := 304) (by decide +kernel)
set_option maxRecDepth 20000 in
theorem tw_264 : (Jvm.Cond.code ({ cls := "FoundryNine$Run", name := "letCome", desc := "(I)I" } : Jvm.MethodName) prog_5_method_7_code (6 : Nat) (Option.some Jvm.ClassFile.FieldType.int)) ∈ lw_tbl := in_t2 (List.mem_of_getElem? (i := 24) rfl)
theorem tw_265 : (Jvm.Cond.methodLink "FoundryNine$Run" (112 : Nat) ({ cls := "FoundryNine$Run", name := "nextLine", desc := "(I)I" } : Jvm.MethodName)) ∈ lw_tbl := List.mem_of_getElem? (i := 306) (by decide +kernel)
theorem tw_266 : (Jvm.Cond.privateMethod ({ cls := "FoundryNine$Run", name := "nextLine", desc := "(I)I" } : Jvm.MethodName)) ∈ lw_tbl := List.mem_of_getElem? (i := 307) (by decide +kernel)
theorem tw_267 : (Jvm.Cond.instanceMethod ({ cls := "FoundryNine$Run", name := "nextLine", desc := "(I)I" } : Jvm.MethodName)) ∈ lw_tbl := List.mem_of_getElem? (i := 308) (by decide +kernel)
set_option maxRecDepth 20000 in
theorem tw_268 : (Jvm.Cond.code ({ cls := "FoundryNine$Run", name := "nextLine", desc := "(I)I" } : Jvm.MethodName) prog_5_method_8_code (4 : Nat) (Option.some Jvm.ClassFile.FieldType.int)) ∈ lw_tbl := in_t2 (List.mem_of_getElem? (i := 28) rfl)
theorem tw_269 : (Jvm.Cond.methodLink "FoundryNine$Run" (115 : Nat) ({ cls := "FoundryNine$Run", name := "comesAheadOf", desc := "(II)Z" } : Jvm.MethodName)) ∈ lw_tbl := List.mem_of_getElem? (i := 310) (by decide +kernel)
theorem tw_270 : (Jvm.Cond.privateMethod ({ cls := "FoundryNine$Run", name := "comesAheadOf", desc := "(II)Z" } : Jvm.MethodName)) ∈ lw_tbl := List.mem_of_getElem? (i := 311) (by decide +kernel)
theorem tw_271 : (Jvm.Cond.instanceMethod ({ cls := "FoundryNine$Run", name := "comesAheadOf", desc := "(II)Z" } : Jvm.MethodName)) ∈ lw_tbl := List.mem_of_getElem? (i := 312) (by decide +kernel)
set_option maxRecDepth 20000 in
theorem tw_272 : (Jvm.Cond.code ({ cls := "FoundryNine$Run", name := "comesAheadOf", desc := "(II)Z" } : Jvm.MethodName) prog_5_method_9_code (3 : Nat) (Option.some Jvm.ClassFile.FieldType.boolean)) ∈ lw_tbl := in_t2 (List.mem_of_getElem? (i := 32) rfl)
theorem tw_273 : (Jvm.Cond.methodLink "FoundryNine$Run" (58 : Nat) ({ cls := "FoundryNine$Run", name := "giveUpAll", desc := "()V" } : Jvm.MethodName)) ∈ lw_tbl := List.mem_of_getElem? (i := 314) (by decide +kernel)
theorem tw_274 : (Jvm.Cond.privateMethod ({ cls := "FoundryNine$Run", name := "giveUpAll", desc := "()V" } : Jvm.MethodName)) ∈ lw_tbl := List.mem_of_getElem? (i := 315) (by decide +kernel)
theorem tw_275 : (Jvm.Cond.instanceMethod ({ cls := "FoundryNine$Run", name := "giveUpAll", desc := "()V" } : Jvm.MethodName)) ∈ lw_tbl := List.mem_of_getElem? (i := 316) (by decide +kernel)
set_option maxRecDepth 20000 in
theorem tw_276 : (Jvm.Cond.code ({ cls := "FoundryNine$Run", name := "giveUpAll", desc := "()V" } : Jvm.MethodName) prog_5_method_12_code (1 : Nat) (Option.none : Option Jvm.ClassFile.FieldType)) ∈ lw_tbl := in_t2 (List.mem_of_getElem? (i := 36) rfl)
theorem tw_277 : (Jvm.Cond.methodLink "FoundryNineLaw" (91 : Nat) ({ cls := "FoundryNine", name := "settle", desc := "()I" } : Jvm.MethodName)) ∈ lw_tbl := List.mem_of_getElem? (i := 318) (by decide +kernel)
theorem tw_278 : (Jvm.Cond.instanceMethod ({ cls := "FoundryNine", name := "settle", desc := "()I" } : Jvm.MethodName)) ∈ lw_tbl := List.mem_of_getElem? (i := 319) (by decide +kernel)
theorem tw_279 : (Jvm.Cond.selects "FoundryNine" ({ cls := "FoundryNine", name := "settle", desc := "()I" } : Jvm.MethodName) ({ cls := "FoundryNine", name := "settle", desc := "()I" } : Jvm.MethodName)) ∈ lw_tbl := List.mem_of_getElem? (i := 320) (by decide +kernel)
set_option maxRecDepth 20000 in
theorem tw_280 : (Jvm.Cond.code ({ cls := "FoundryNine", name := "settle", desc := "()I" } : Jvm.MethodName) prog_1_method_17_code (1 : Nat) (Option.some Jvm.ClassFile.FieldType.int)) ∈ lw_tbl := in_t2 (List.mem_of_getElem? (i := 40) rfl)
theorem tw_281 : (Jvm.Cond.methodLink "FoundryNine" (178 : Nat) ({ cls := "FoundryNine$Run", name := "comeToRest", desc := "()I" } : Jvm.MethodName)) ∈ lw_tbl := List.mem_of_getElem? (i := 322) (by decide +kernel)
theorem tw_282 : (Jvm.Cond.instanceMethod ({ cls := "FoundryNine$Run", name := "comeToRest", desc := "()I" } : Jvm.MethodName)) ∈ lw_tbl := List.mem_of_getElem? (i := 323) (by decide +kernel)
theorem tw_283 : (Jvm.Cond.selects "FoundryNine$Run" ({ cls := "FoundryNine$Run", name := "comeToRest", desc := "()I" } : Jvm.MethodName) ({ cls := "FoundryNine$Run", name := "comeToRest", desc := "()I" } : Jvm.MethodName)) ∈ lw_tbl := List.mem_of_getElem? (i := 324) (by decide +kernel)
set_option maxRecDepth 20000 in
theorem tw_284 : (Jvm.Cond.code ({ cls := "FoundryNine$Run", name := "comeToRest", desc := "()I" } : Jvm.MethodName) prog_5_method_6_code (2 : Nat) (Option.some Jvm.ClassFile.FieldType.int)) ∈ lw_tbl := in_t2 (List.mem_of_getElem? (i := 44) rfl)
theorem tw_285 : (Jvm.Cond.constant "FoundryNine$Run" (104 : Nat) (2147483647 : Int32)) ∈ lw_tbl := List.mem_of_getElem? (i := 326) (by decide +kernel)
theorem tw_286 : (Jvm.Cond.methodLink "FoundryNine$Run" (105 : Nat) ({ cls := "FoundryNine$Run", name := "letCome", desc := "(I)I" } : Jvm.MethodName)) ∈ lw_tbl := List.mem_of_getElem? (i := 327) (by decide +kernel)
theorem tw_287 : (Jvm.Cond.methodLink "FoundryNine$Run" (109 : Nat) ({ cls := "FoundryNine$Run", name := "noteHazardsOfGates", desc := "()V" } : Jvm.MethodName)) ∈ lw_tbl := List.mem_of_getElem? (i := 328) (by decide +kernel)
theorem tw_288 : (Jvm.Cond.privateMethod ({ cls := "FoundryNine$Run", name := "noteHazardsOfGates", desc := "()V" } : Jvm.MethodName)) ∈ lw_tbl := List.mem_of_getElem? (i := 329) (by decide +kernel)
theorem tw_289 : (Jvm.Cond.instanceMethod ({ cls := "FoundryNine$Run", name := "noteHazardsOfGates", desc := "()V" } : Jvm.MethodName)) ∈ lw_tbl := List.mem_of_getElem? (i := 330) (by decide +kernel)
set_option maxRecDepth 20000 in
theorem tw_290 : (Jvm.Cond.code ({ cls := "FoundryNine$Run", name := "noteHazardsOfGates", desc := "()V" } : Jvm.MethodName) prog_5_method_21_code (3 : Nat) (Option.none : Option Jvm.ClassFile.FieldType)) ∈ lw_tbl := in_t2 (List.mem_of_getElem? (i := 50) rfl)
theorem tw_291 : (Jvm.Cond.methodLink "FoundryNine$Run" (171 : Nat) ({ cls := "FoundryNine$Circuit", name := "firstLineOf", desc := "(I)I" } : Jvm.MethodName)) ∈ lw_tbl := List.mem_of_getElem? (i := 332) (by decide +kernel)
theorem tw_292 : (Jvm.Cond.methodLink "FoundryNine$Run" (174 : Nat) ({ cls := "FoundryNine$Circuit", name := "isGate", desc := "(I)Z" } : Jvm.MethodName)) ∈ lw_tbl := List.mem_of_getElem? (i := 333) (by decide +kernel)
theorem tw_293 : (Jvm.Cond.methodLink "FoundryNineLaw" (62 : Nat) ({ cls := "FoundryNine", name := "told", desc := "(I)I" } : Jvm.MethodName)) ∈ lw_tbl := List.mem_of_getElem? (i := 334) (by decide +kernel)
theorem tw_294 : (Jvm.Cond.instanceMethod ({ cls := "FoundryNine", name := "told", desc := "(I)I" } : Jvm.MethodName)) ∈ lw_tbl := List.mem_of_getElem? (i := 335) (by decide +kernel)
theorem tw_295 : (Jvm.Cond.selects "FoundryNine" ({ cls := "FoundryNine", name := "told", desc := "(I)I" } : Jvm.MethodName) ({ cls := "FoundryNine", name := "told", desc := "(I)I" } : Jvm.MethodName)) ∈ lw_tbl := List.mem_of_getElem? (i := 336) (by decide +kernel)
set_option maxRecDepth 20000 in
theorem tw_296 : (Jvm.Cond.code ({ cls := "FoundryNine", name := "told", desc := "(I)I" } : Jvm.MethodName) prog_1_method_19_code (2 : Nat) (Option.some Jvm.ClassFile.FieldType.int)) ∈ lw_tbl := in_t2 (List.mem_of_getElem? (i := 56) rfl)
theorem tw_297 : (Jvm.Cond.methodLink "FoundryNine" (154 : Nat) ({ cls := "FoundryNine$Run", name := "linesPending", desc := "()I" } : Jvm.MethodName)) ∈ lw_tbl := List.mem_of_getElem? (i := 338) (by decide +kernel)
theorem tw_298 : (Jvm.Cond.instanceMethod ({ cls := "FoundryNine$Run", name := "linesPending", desc := "()I" } : Jvm.MethodName)) ∈ lw_tbl := List.mem_of_getElem? (i := 339) (by decide +kernel)
theorem tw_299 : (Jvm.Cond.selects "FoundryNine$Run" ({ cls := "FoundryNine$Run", name := "linesPending", desc := "()I" } : Jvm.MethodName) ({ cls := "FoundryNine$Run", name := "linesPending", desc := "()I" } : Jvm.MethodName)) ∈ lw_tbl := List.mem_of_getElem? (i := 340) (by decide +kernel)
set_option maxRecDepth 20000 in
theorem tw_300 : (Jvm.Cond.code ({ cls := "FoundryNine$Run", name := "linesPending", desc := "()I" } : Jvm.MethodName) prog_5_method_11_code (3 : Nat) (Option.some Jvm.ClassFile.FieldType.int)) ∈ lw_tbl := in_t2 (List.mem_of_getElem? (i := 60) rfl)
theorem tw_301 : (Jvm.Cond.methodLink "FoundryNine" (181 : Nat) ({ cls := "FoundryNine$Run", name := "nextTime", desc := "()I" } : Jvm.MethodName)) ∈ lw_tbl := List.mem_of_getElem? (i := 342) (by decide +kernel)
theorem tw_302 : (Jvm.Cond.instanceMethod ({ cls := "FoundryNine$Run", name := "nextTime", desc := "()I" } : Jvm.MethodName)) ∈ lw_tbl := List.mem_of_getElem? (i := 343) (by decide +kernel)
theorem tw_303 : (Jvm.Cond.selects "FoundryNine$Run" ({ cls := "FoundryNine$Run", name := "nextTime", desc := "()I" } : Jvm.MethodName) ({ cls := "FoundryNine$Run", name := "nextTime", desc := "()I" } : Jvm.MethodName)) ∈ lw_tbl := List.mem_of_getElem? (i := 344) (by decide +kernel)
set_option maxRecDepth 20000 in
theorem tw_304 : (Jvm.Cond.code ({ cls := "FoundryNine$Run", name := "nextTime", desc := "()I" } : Jvm.MethodName) prog_5_method_10_code (2 : Nat) (Option.some Jvm.ClassFile.FieldType.int)) ∈ lw_tbl := in_t2 (List.mem_of_getElem? (i := 64) rfl)
theorem tw_305 : (Jvm.Cond.stringRef "FoundryNine" (193 : Nat) "nothing of that number is told") ∈ lw_tbl := List.mem_of_getElem? (i := 346) (by decide +kernel)
theorem tw_306 : (Jvm.Cond.methodLink "FoundryNineLaw" (68 : Nat) ({ cls := "FoundryNine", name := "ofWire", desc := "(II)I" } : Jvm.MethodName)) ∈ lw_tbl := List.mem_of_getElem? (i := 347) (by decide +kernel)
theorem tw_307 : (Jvm.Cond.instanceMethod ({ cls := "FoundryNine", name := "ofWire", desc := "(II)I" } : Jvm.MethodName)) ∈ lw_tbl := List.mem_of_getElem? (i := 348) (by decide +kernel)
theorem tw_308 : (Jvm.Cond.selects "FoundryNine" ({ cls := "FoundryNine", name := "ofWire", desc := "(II)I" } : Jvm.MethodName) ({ cls := "FoundryNine", name := "ofWire", desc := "(II)I" } : Jvm.MethodName)) ∈ lw_tbl := List.mem_of_getElem? (i := 349) (by decide +kernel)
set_option maxRecDepth 20000 in
theorem tw_309 : (Jvm.Cond.code ({ cls := "FoundryNine", name := "ofWire", desc := "(II)I" } : Jvm.MethodName) prog_1_method_20_code (3 : Nat) (Option.some Jvm.ClassFile.FieldType.int)) ∈ lw_tbl := in_t2 (List.mem_of_getElem? (i := 69) rfl)
theorem tw_310 : (Jvm.Cond.stringRef "FoundryNine" (204 : Nat) "nothing of that number is known of a wire") ∈ lw_tbl := List.mem_of_getElem? (i := 351) (by decide +kernel)
theorem tw_311 : (Jvm.Cond.methodLink "FoundryNineLaw" (74 : Nat) ({ cls := "FoundryNine", name := "pending", desc := "(I)I" } : Jvm.MethodName)) ∈ lw_tbl := List.mem_of_getElem? (i := 352) (by decide +kernel)
theorem tw_312 : (Jvm.Cond.instanceMethod ({ cls := "FoundryNine", name := "pending", desc := "(I)I" } : Jvm.MethodName)) ∈ lw_tbl := List.mem_of_getElem? (i := 353) (by decide +kernel)
theorem tw_313 : (Jvm.Cond.selects "FoundryNine" ({ cls := "FoundryNine", name := "pending", desc := "(I)I" } : Jvm.MethodName) ({ cls := "FoundryNine", name := "pending", desc := "(I)I" } : Jvm.MethodName)) ∈ lw_tbl := List.mem_of_getElem? (i := 354) (by decide +kernel)
set_option maxRecDepth 20000 in
theorem tw_314 : (Jvm.Cond.code ({ cls := "FoundryNine", name := "pending", desc := "(I)I" } : Jvm.MethodName) prog_1_method_21_code (2 : Nat) (Option.some Jvm.ClassFile.FieldType.int)) ∈ lw_tbl := in_t2 (List.mem_of_getElem? (i := 74) rfl)
theorem tw_315 : (Jvm.Cond.methodLink "FoundryNine" (70 : Nat) ({ cls := "FoundryNine", name := "checkLine", desc := "(I)V" } : Jvm.MethodName)) ∈ lw_tbl := List.mem_of_getElem? (i := 356) (by decide +kernel)
theorem tw_316 : (Jvm.Cond.privateMethod ({ cls := "FoundryNine", name := "checkLine", desc := "(I)V" } : Jvm.MethodName)) ∈ lw_tbl := List.mem_of_getElem? (i := 357) (by decide +kernel)
theorem tw_317 : (Jvm.Cond.instanceMethod ({ cls := "FoundryNine", name := "checkLine", desc := "(I)V" } : Jvm.MethodName)) ∈ lw_tbl := List.mem_of_getElem? (i := 358) (by decide +kernel)
set_option maxRecDepth 20000 in
theorem tw_318 : (Jvm.Cond.code ({ cls := "FoundryNine", name := "checkLine", desc := "(I)V" } : Jvm.MethodName) prog_1_method_40_code (2 : Nat) (Option.none : Option Jvm.ClassFile.FieldType)) ∈ lw_tbl := in_t2 (List.mem_of_getElem? (i := 78) rfl)
theorem tw_319 : (Jvm.Cond.stringRef "FoundryNine" (308 : Nat) "no such line") ∈ lw_tbl := List.mem_of_getElem? (i := 360) (by decide +kernel)
theorem tw_320 : (Jvm.Cond.methodLink "FoundryNineLaw" (98 : Nat) ({ cls := "FoundryNine", name := "hazards", desc := "()I" } : Jvm.MethodName)) ∈ lw_tbl := List.mem_of_getElem? (i := 361) (by decide +kernel)
theorem tw_321 : (Jvm.Cond.instanceMethod ({ cls := "FoundryNine", name := "hazards", desc := "()I" } : Jvm.MethodName)) ∈ lw_tbl := List.mem_of_getElem? (i := 362) (by decide +kernel)
theorem tw_322 : (Jvm.Cond.selects "FoundryNine" ({ cls := "FoundryNine", name := "hazards", desc := "()I" } : Jvm.MethodName) ({ cls := "FoundryNine", name := "hazards", desc := "()I" } : Jvm.MethodName)) ∈ lw_tbl := List.mem_of_getElem? (i := 363) (by decide +kernel)
set_option maxRecDepth 20000 in
theorem tw_323 : (Jvm.Cond.code ({ cls := "FoundryNine", name := "hazards", desc := "()I" } : Jvm.MethodName) prog_1_method_22_code (1 : Nat) (Option.some Jvm.ClassFile.FieldType.int)) ∈ lw_tbl := in_t2 (List.mem_of_getElem? (i := 83) rfl)
theorem tw_324 : (Jvm.Cond.methodLink "FoundryNineLaw" (101 : Nat) ({ cls := "FoundryNine", name := "ofHazard", desc := "(II)I" } : Jvm.MethodName)) ∈ lw_tbl := List.mem_of_getElem? (i := 365) (by decide +kernel)
theorem tw_325 : (Jvm.Cond.instanceMethod ({ cls := "FoundryNine", name := "ofHazard", desc := "(II)I" } : Jvm.MethodName)) ∈ lw_tbl := List.mem_of_getElem? (i := 366) (by decide +kernel)
theorem tw_326 : (Jvm.Cond.selects "FoundryNine" ({ cls := "FoundryNine", name := "ofHazard", desc := "(II)I" } : Jvm.MethodName) ({ cls := "FoundryNine", name := "ofHazard", desc := "(II)I" } : Jvm.MethodName)) ∈ lw_tbl := List.mem_of_getElem? (i := 367) (by decide +kernel)
set_option maxRecDepth 20000 in
theorem tw_327 : (Jvm.Cond.code ({ cls := "FoundryNine", name := "ofHazard", desc := "(II)I" } : Jvm.MethodName) prog_1_method_23_code (3 : Nat) (Option.some Jvm.ClassFile.FieldType.int)) ∈ lw_tbl := in_t2 (List.mem_of_getElem? (i := 87) rfl)
theorem tw_328 : (Jvm.Cond.stringRef "FoundryNine" (212 : Nat) "no such hazard") ∈ lw_tbl := List.mem_of_getElem? (i := 369) (by decide +kernel)
theorem tw_329 : (Jvm.Cond.stringRef "FoundryNine" (223 : Nat) "nothing of that number is kept of a hazard") ∈ lw_tbl := List.mem_of_getElem? (i := 370) (by decide +kernel)
theorem tw_330 : (Jvm.Cond.methodLink "FoundryNineLaw" (81 : Nat) ({ cls := "FoundryNine", name := "wouldBe", desc := "(III)I" } : Jvm.MethodName)) ∈ lw_tbl := List.mem_of_getElem? (i := 371) (by decide +kernel)
theorem tw_331 : (Jvm.Cond.instanceMethod ({ cls := "FoundryNine", name := "wouldBe", desc := "(III)I" } : Jvm.MethodName)) ∈ lw_tbl := List.mem_of_getElem? (i := 372) (by decide +kernel)
theorem tw_332 : (Jvm.Cond.selects "FoundryNine" ({ cls := "FoundryNine", name := "wouldBe", desc := "(III)I" } : Jvm.MethodName) ({ cls := "FoundryNine", name := "wouldBe", desc := "(III)I" } : Jvm.MethodName)) ∈ lw_tbl := List.mem_of_getElem? (i := 373) (by decide +kernel)
set_option maxRecDepth 20000 in
theorem tw_333 : (Jvm.Cond.code ({ cls := "FoundryNine", name := "wouldBe", desc := "(III)I" } : Jvm.MethodName) prog_1_method_24_code (4 : Nat) (Option.some Jvm.ClassFile.FieldType.int)) ∈ lw_tbl := in_t2 (List.mem_of_getElem? (i := 93) rfl)
theorem tw_334 : (Jvm.Cond.methodLink "FoundryNine" (225 : Nat) ({ cls := "FoundryNine$Run", name := "copyFrom", desc := "(LFoundryNine$Run;)V" } : Jvm.MethodName)) ∈ lw_tbl := List.mem_of_getElem? (i := 375) (by decide +kernel)
theorem tw_335 : (Jvm.Cond.instanceMethod ({ cls := "FoundryNine$Run", name := "copyFrom", desc := "(LFoundryNine$Run;)V" } : Jvm.MethodName)) ∈ lw_tbl := List.mem_of_getElem? (i := 376) (by decide +kernel)
theorem tw_336 : (Jvm.Cond.selects "FoundryNine$Run" ({ cls := "FoundryNine$Run", name := "copyFrom", desc := "(LFoundryNine$Run;)V" } : Jvm.MethodName) ({ cls := "FoundryNine$Run", name := "copyFrom", desc := "(LFoundryNine$Run;)V" } : Jvm.MethodName)) ∈ lw_tbl := List.mem_of_getElem? (i := 377) (by decide +kernel)
set_option maxRecDepth 20000 in
theorem tw_337 : (Jvm.Cond.code ({ cls := "FoundryNine$Run", name := "copyFrom", desc := "(LFoundryNine$Run;)V" } : Jvm.MethodName) prog_5_method_3_code (2 : Nat) (Option.none : Option Jvm.ClassFile.FieldType)) ∈ lw_tbl := in_t2 (List.mem_of_getElem? (i := 97) rfl)
theorem tw_338 : (Jvm.Cond.methodLink "FoundryNineLaw" (88 : Nat) ({ cls := "FoundryNine", name := "settlesIn", desc := "()I" } : Jvm.MethodName)) ∈ lw_tbl := List.mem_of_getElem? (i := 379) (by decide +kernel)
theorem tw_339 : (Jvm.Cond.instanceMethod ({ cls := "FoundryNine", name := "settlesIn", desc := "()I" } : Jvm.MethodName)) ∈ lw_tbl := List.mem_of_getElem? (i := 380) (by decide +kernel)
theorem tw_340 : (Jvm.Cond.selects "FoundryNine" ({ cls := "FoundryNine", name := "settlesIn", desc := "()I" } : Jvm.MethodName) ({ cls := "FoundryNine", name := "settlesIn", desc := "()I" } : Jvm.MethodName)) ∈ lw_tbl := List.mem_of_getElem? (i := 381) (by decide +kernel)
set_option maxRecDepth 20000 in
theorem tw_341 : (Jvm.Cond.code ({ cls := "FoundryNine", name := "settlesIn", desc := "()I" } : Jvm.MethodName) prog_1_method_26_code (1 : Nat) (Option.some Jvm.ClassFile.FieldType.int)) ∈ lw_tbl := in_t2 (List.mem_of_getElem? (i := 101) rfl)
theorem tw_342 : (Jvm.Cond.constant "FoundryNine" (229 : Nat) (2147483647 : Int32)) ∈ lw_tbl := List.mem_of_getElem? (i := 383) (by decide +kernel)
theorem tw_343 : (Jvm.Cond.methodLink "FoundryNineLaw" (52 : Nat) ({ cls := "FoundryNine", name := "longestWith", desc := "(II)I" } : Jvm.MethodName)) ∈ lw_tbl := List.mem_of_getElem? (i := 384) (by decide +kernel)
theorem tw_344 : (Jvm.Cond.instanceMethod ({ cls := "FoundryNine", name := "longestWith", desc := "(II)I" } : Jvm.MethodName)) ∈ lw_tbl := List.mem_of_getElem? (i := 385) (by decide +kernel)
theorem tw_345 : (Jvm.Cond.selects "FoundryNine" ({ cls := "FoundryNine", name := "longestWith", desc := "(II)I" } : Jvm.MethodName) ({ cls := "FoundryNine", name := "longestWith", desc := "(II)I" } : Jvm.MethodName)) ∈ lw_tbl := List.mem_of_getElem? (i := 386) (by decide +kernel)
set_option maxRecDepth 20000 in
theorem tw_346 : (Jvm.Cond.code ({ cls := "FoundryNine", name := "longestWith", desc := "(II)I" } : Jvm.MethodName) prog_1_method_27_code (3 : Nat) (Option.some Jvm.ClassFile.FieldType.int)) ∈ lw_tbl := in_t2 (List.mem_of_getElem? (i := 106) rfl)
theorem tw_347 : (Jvm.Cond.methodLink "FoundryNine" (91 : Nat) ({ cls := "FoundryNine", name := "checkHasDelay", desc := "(I)V" } : Jvm.MethodName)) ∈ lw_tbl := List.mem_of_getElem? (i := 388) (by decide +kernel)
theorem tw_348 : (Jvm.Cond.privateMethod ({ cls := "FoundryNine", name := "checkHasDelay", desc := "(I)V" } : Jvm.MethodName)) ∈ lw_tbl := List.mem_of_getElem? (i := 389) (by decide +kernel)
theorem tw_349 : (Jvm.Cond.instanceMethod ({ cls := "FoundryNine", name := "checkHasDelay", desc := "(I)V" } : Jvm.MethodName)) ∈ lw_tbl := List.mem_of_getElem? (i := 390) (by decide +kernel)
set_option maxRecDepth 20000 in
theorem tw_350 : (Jvm.Cond.code ({ cls := "FoundryNine", name := "checkHasDelay", desc := "(I)V" } : Jvm.MethodName) prog_1_method_41_code (2 : Nat) (Option.none : Option Jvm.ClassFile.FieldType)) ∈ lw_tbl := in_t2 (List.mem_of_getElem? (i := 110) rfl)
theorem tw_351 : (Jvm.Cond.stringRef "FoundryNine" (310 : Nat) "an input has no delay") ∈ lw_tbl := List.mem_of_getElem? (i := 392) (by decide +kernel)
theorem tw_352 : (Jvm.Cond.methodLink "FoundryNine" (67 : Nat) ({ cls := "FoundryNine", name := "checkDelay", desc := "(I)V" } : Jvm.MethodName)) ∈ lw_tbl := List.mem_of_getElem? (i := 393) (by decide +kernel)
theorem tw_353 : (Jvm.Cond.static ({ cls := "FoundryNine", name := "checkDelay", desc := "(I)V" } : Jvm.MethodName)) ∈ lw_tbl := List.mem_of_getElem? (i := 394) (by decide +kernel)
set_option maxRecDepth 20000 in
theorem tw_354 : (Jvm.Cond.code ({ cls := "FoundryNine", name := "checkDelay", desc := "(I)V" } : Jvm.MethodName) prog_1_method_38_code (1 : Nat) (Option.none : Option Jvm.ClassFile.FieldType)) ∈ lw_tbl := in_t2 (List.mem_of_getElem? (i := 114) rfl)
theorem tw_355 : (Jvm.Cond.stringRef "FoundryNine" (304 : Nat) "no such delay") ∈ lw_tbl := List.mem_of_getElem? (i := 396) (by decide +kernel)
theorem tw_356 : (Jvm.Cond.methodLink "FoundryNine" (97 : Nat) ({ cls := "FoundryNine$Arrivals", name := "reckon", desc := "(LFoundryNine$Circuit;LFoundryNine$Flaws;II)V" } : Jvm.MethodName)) ∈ lw_tbl := List.mem_of_getElem? (i := 397) (by decide +kernel)
theorem tw_357 : (Jvm.Cond.instanceMethod ({ cls := "FoundryNine$Arrivals", name := "reckon", desc := "(LFoundryNine$Circuit;LFoundryNine$Flaws;II)V" } : Jvm.MethodName)) ∈ lw_tbl := List.mem_of_getElem? (i := 398) (by decide +kernel)
theorem tw_358 : (Jvm.Cond.selects "FoundryNine$Arrivals" ({ cls := "FoundryNine$Arrivals", name := "reckon", desc := "(LFoundryNine$Circuit;LFoundryNine$Flaws;II)V" } : Jvm.MethodName) ({ cls := "FoundryNine$Arrivals", name := "reckon", desc := "(LFoundryNine$Circuit;LFoundryNine$Flaws;II)V" } : Jvm.MethodName)) ∈ lw_tbl := List.mem_of_getElem? (i := 399) (by decide +kernel)
set_option maxRecDepth 20000 in
theorem tw_359 : (Jvm.Cond.code ({ cls := "FoundryNine$Arrivals", name := "reckon", desc := "(LFoundryNine$Circuit;LFoundryNine$Flaws;II)V" } : Jvm.MethodName) prog_2_method_2_code (10 : Nat) (Option.none : Option Jvm.ClassFile.FieldType)) ∈ lw_tbl := in_t2 (List.mem_of_getElem? (i := 119) rfl)
theorem tw_360 : (Jvm.Cond.methodLink "FoundryNine$Arrivals" (15 : Nat) ({ cls := "java/util/Arrays", name := "fill", desc := "([II)V" } : Jvm.MethodName)) ∈ lw_tbl := List.mem_of_getElem? (i := 401) (by decide +kernel)
theorem tw_361 : (Jvm.Cond.methodLink "FoundryNine$Arrivals" (30 : Nat) ({ cls := "FoundryNine$Arrivals", name := "arrivalBy", desc := "(LFoundryNine$Circuit;LFoundryNine$Flaws;II)I" } : Jvm.MethodName)) ∈ lw_tbl := List.mem_of_getElem? (i := 402) (by decide +kernel)
theorem tw_362 : (Jvm.Cond.privateMethod ({ cls := "FoundryNine$Arrivals", name := "arrivalBy", desc := "(LFoundryNine$Circuit;LFoundryNine$Flaws;II)I" } : Jvm.MethodName)) ∈ lw_tbl := List.mem_of_getElem? (i := 403) (by decide +kernel)
theorem tw_363 : (Jvm.Cond.instanceMethod ({ cls := "FoundryNine$Arrivals", name := "arrivalBy", desc := "(LFoundryNine$Circuit;LFoundryNine$Flaws;II)I" } : Jvm.MethodName)) ∈ lw_tbl := List.mem_of_getElem? (i := 404) (by decide +kernel)
set_option maxRecDepth 20000 in
theorem tw_364 : (Jvm.Cond.code ({ cls := "FoundryNine$Arrivals", name := "arrivalBy", desc := "(LFoundryNine$Circuit;LFoundryNine$Flaws;II)I" } : Jvm.MethodName) prog_2_method_3_code (8 : Nat) (Option.some Jvm.ClassFile.FieldType.int)) ∈ lw_tbl := in_t2 (List.mem_of_getElem? (i := 124) rfl)
theorem tw_365 : (Jvm.Cond.methodLink "FoundryNineLaw" (77 : Nat) ({ cls := "FoundryNine", name := "digest", desc := "()J" } : Jvm.MethodName)) ∈ lw_tbl := List.mem_of_getElem? (i := 406) (by decide +kernel)
theorem tw_366 : (Jvm.Cond.instanceMethod ({ cls := "FoundryNine", name := "digest", desc := "()J" } : Jvm.MethodName)) ∈ lw_tbl := List.mem_of_getElem? (i := 407) (by decide +kernel)
theorem tw_367 : (Jvm.Cond.selects "FoundryNine" ({ cls := "FoundryNine", name := "digest", desc := "()J" } : Jvm.MethodName) ({ cls := "FoundryNine", name := "digest", desc := "()J" } : Jvm.MethodName)) ∈ lw_tbl := List.mem_of_getElem? (i := 408) (by decide +kernel)
set_option maxRecDepth 20000 in
theorem tw_368 : (Jvm.Cond.code ({ cls := "FoundryNine", name := "digest", desc := "()J" } : Jvm.MethodName) prog_1_method_29_code (3 : Nat) (Option.some Jvm.ClassFile.FieldType.long)) ∈ lw_tbl := in_t2 (List.mem_of_getElem? (i := 128) rfl)
theorem tw_369 : (Jvm.Cond.constantLong "FoundryNine" (233 : Nat) (58070 : Int64)) ∈ lw_tbl := List.mem_of_getElem? (i := 410) (by decide +kernel)
theorem tw_370 : (Jvm.Cond.constantLong "FoundryNine" (235 : Nat) (31 : Int64)) ∈ lw_tbl := List.mem_of_getElem? (i := 411) (by decide +kernel)
theorem tw_371 : (Jvm.Cond.methodLink "FoundryNine" (237 : Nat) ({ cls := "FoundryNine", name := "lines", desc := "()I" } : Jvm.MethodName)) ∈ lw_tbl := List.mem_of_getElem? (i := 412) (by decide +kernel)
theorem tw_372 : (Jvm.Cond.instanceMethod ({ cls := "FoundryNine", name := "lines", desc := "()I" } : Jvm.MethodName)) ∈ lw_tbl := List.mem_of_getElem? (i := 413) (by decide +kernel)
theorem tw_373 : (Jvm.Cond.selects "FoundryNine" ({ cls := "FoundryNine", name := "lines", desc := "()I" } : Jvm.MethodName) ({ cls := "FoundryNine", name := "lines", desc := "()I" } : Jvm.MethodName)) ∈ lw_tbl := List.mem_of_getElem? (i := 414) (by decide +kernel)
set_option maxRecDepth 20000 in
theorem tw_374 : (Jvm.Cond.code ({ cls := "FoundryNine", name := "lines", desc := "()I" } : Jvm.MethodName) prog_1_method_7_code (1 : Nat) (Option.some Jvm.ClassFile.FieldType.int)) ∈ lw_tbl := in_t2 (List.mem_of_getElem? (i := 134) rfl)
theorem tw_375 : (Jvm.Cond.methodLink "FoundryNine" (240 : Nat) ({ cls := "FoundryNine", name := "flaws", desc := "()I" } : Jvm.MethodName)) ∈ lw_tbl := List.mem_of_getElem? (i := 416) (by decide +kernel)
theorem tw_376 : (Jvm.Cond.instanceMethod ({ cls := "FoundryNine", name := "flaws", desc := "()I" } : Jvm.MethodName)) ∈ lw_tbl := List.mem_of_getElem? (i := 417) (by decide +kernel)
theorem tw_377 : (Jvm.Cond.selects "FoundryNine" ({ cls := "FoundryNine", name := "flaws", desc := "()I" } : Jvm.MethodName) ({ cls := "FoundryNine", name := "flaws", desc := "()I" } : Jvm.MethodName)) ∈ lw_tbl := List.mem_of_getElem? (i := 418) (by decide +kernel)
set_option maxRecDepth 20000 in
theorem tw_378 : (Jvm.Cond.code ({ cls := "FoundryNine", name := "flaws", desc := "()I" } : Jvm.MethodName) prog_1_method_8_code (1 : Nat) (Option.some Jvm.ClassFile.FieldType.int)) ∈ lw_tbl := in_t2 (List.mem_of_getElem? (i := 138) rfl)
theorem tw_379 : (Jvm.Cond.methodLink "FoundryNine" (243 : Nat) ({ cls := "FoundryNine", name := "longest", desc := "()I" } : Jvm.MethodName)) ∈ lw_tbl := List.mem_of_getElem? (i := 420) (by decide +kernel)
theorem tw_380 : (Jvm.Cond.methodLink "FoundryNine" (246 : Nat) ({ cls := "FoundryNine", name := "isRunning", desc := "()Z" } : Jvm.MethodName)) ∈ lw_tbl := List.mem_of_getElem? (i := 421) (by decide +kernel)
theorem tw_381 : (Jvm.Cond.instanceMethod ({ cls := "FoundryNine", name := "isRunning", desc := "()Z" } : Jvm.MethodName)) ∈ lw_tbl := List.mem_of_getElem? (i := 422) (by decide +kernel)
theorem tw_382 : (Jvm.Cond.selects "FoundryNine" ({ cls := "FoundryNine", name := "isRunning", desc := "()Z" } : Jvm.MethodName) ({ cls := "FoundryNine", name := "isRunning", desc := "()Z" } : Jvm.MethodName)) ∈ lw_tbl := List.mem_of_getElem? (i := 423) (by decide +kernel)
set_option maxRecDepth 20000 in
theorem tw_383 : (Jvm.Cond.code ({ cls := "FoundryNine", name := "isRunning", desc := "()Z" } : Jvm.MethodName) prog_1_method_18_code (1 : Nat) (Option.some Jvm.ClassFile.FieldType.boolean)) ∈ lw_tbl := in_t2 (List.mem_of_getElem? (i := 143) rfl)
theorem tw_384 : (Jvm.Cond.methodLink "FoundryNine" (250 : Nat) ({ cls := "FoundryNine", name := "digestOfTimes", desc := "(J)J" } : Jvm.MethodName)) ∈ lw_tbl := List.mem_of_getElem? (i := 425) (by decide +kernel)
theorem tw_385 : (Jvm.Cond.privateMethod ({ cls := "FoundryNine", name := "digestOfTimes", desc := "(J)J" } : Jvm.MethodName)) ∈ lw_tbl := List.mem_of_getElem? (i := 426) (by decide +kernel)
theorem tw_386 : (Jvm.Cond.instanceMethod ({ cls := "FoundryNine", name := "digestOfTimes", desc := "(J)J" } : Jvm.MethodName)) ∈ lw_tbl := List.mem_of_getElem? (i := 427) (by decide +kernel)
set_option maxRecDepth 20000 in
theorem tw_387 : (Jvm.Cond.code ({ cls := "FoundryNine", name := "digestOfTimes", desc := "(J)J" } : Jvm.MethodName) prog_1_method_30_code (6 : Nat) (Option.some Jvm.ClassFile.FieldType.long)) ∈ lw_tbl := in_t2 (List.mem_of_getElem? (i := 147) rfl)
theorem tw_388 : (Jvm.Cond.methodLink "FoundryNine" (266 : Nat) ({ cls := "FoundryNine", name := "told", desc := "(I)I" } : Jvm.MethodName)) ∈ lw_tbl := List.mem_of_getElem? (i := 429) (by decide +kernel)
theorem tw_389 : (Jvm.Cond.methodLink "FoundryNine" (254 : Nat) ({ cls := "FoundryNine", name := "digestOfCircuit", desc := "(J)J" } : Jvm.MethodName)) ∈ lw_tbl := List.mem_of_getElem? (i := 430) (by decide +kernel)
theorem tw_390 : (Jvm.Cond.privateMethod ({ cls := "FoundryNine", name := "digestOfCircuit", desc := "(J)J" } : Jvm.MethodName)) ∈ lw_tbl := List.mem_of_getElem? (i := 431) (by decide +kernel)
theorem tw_391 : (Jvm.Cond.instanceMethod ({ cls := "FoundryNine", name := "digestOfCircuit", desc := "(J)J" } : Jvm.MethodName)) ∈ lw_tbl := List.mem_of_getElem? (i := 432) (by decide +kernel)
set_option maxRecDepth 20000 in
theorem tw_392 : (Jvm.Cond.code ({ cls := "FoundryNine", name := "digestOfCircuit", desc := "(J)J" } : Jvm.MethodName) prog_1_method_31_code (6 : Nat) (Option.some Jvm.ClassFile.FieldType.long)) ∈ lw_tbl := in_t2 (List.mem_of_getElem? (i := 152) rfl)
theorem tw_393 : (Jvm.Cond.methodLink "FoundryNine" (269 : Nat) ({ cls := "FoundryNine", name := "ofFlaw", desc := "(II)I" } : Jvm.MethodName)) ∈ lw_tbl := List.mem_of_getElem? (i := 434) (by decide +kernel)
theorem tw_394 : (Jvm.Cond.instanceMethod ({ cls := "FoundryNine", name := "ofFlaw", desc := "(II)I" } : Jvm.MethodName)) ∈ lw_tbl := List.mem_of_getElem? (i := 435) (by decide +kernel)
theorem tw_395 : (Jvm.Cond.selects "FoundryNine" ({ cls := "FoundryNine", name := "ofFlaw", desc := "(II)I" } : Jvm.MethodName) ({ cls := "FoundryNine", name := "ofFlaw", desc := "(II)I" } : Jvm.MethodName)) ∈ lw_tbl := List.mem_of_getElem? (i := 436) (by decide +kernel)
set_option maxRecDepth 20000 in
theorem tw_396 : (Jvm.Cond.code ({ cls := "FoundryNine", name := "ofFlaw", desc := "(II)I" } : Jvm.MethodName) prog_1_method_9_code (3 : Nat) (Option.some Jvm.ClassFile.FieldType.int)) ∈ lw_tbl := in_t2 (List.mem_of_getElem? (i := 156) rfl)
theorem tw_397 : (Jvm.Cond.stringRef "FoundryNine" (108 : Nat) "no such flaw") ∈ lw_tbl := List.mem_of_getElem? (i := 438) (by decide +kernel)
theorem tw_398 : (Jvm.Cond.stringRef "FoundryNine" (117 : Nat) "neither code nor place") ∈ lw_tbl := List.mem_of_getElem? (i := 439) (by decide +kernel)
theorem tw_399 : (Jvm.Cond.methodLink "FoundryNine" (273 : Nat) ({ cls := "FoundryNine", name := "way", desc := "(I)I" } : Jvm.MethodName)) ∈ lw_tbl := List.mem_of_getElem? (i := 440) (by decide +kernel)
theorem tw_400 : (Jvm.Cond.methodLink "FoundryNine" (257 : Nat) ({ cls := "FoundryNine", name := "digestOfWires", desc := "(J)J" } : Jvm.MethodName)) ∈ lw_tbl := List.mem_of_getElem? (i := 441) (by decide +kernel)
theorem tw_401 : (Jvm.Cond.privateMethod ({ cls := "FoundryNine", name := "digestOfWires", desc := "(J)J" } : Jvm.MethodName)) ∈ lw_tbl := List.mem_of_getElem? (i := 442) (by decide +kernel)
theorem tw_402 : (Jvm.Cond.instanceMethod ({ cls := "FoundryNine", name := "digestOfWires", desc := "(J)J" } : Jvm.MethodName)) ∈ lw_tbl := List.mem_of_getElem? (i := 443) (by decide +kernel)
set_option maxRecDepth 20000 in
theorem tw_403 : (Jvm.Cond.code ({ cls := "FoundryNine", name := "digestOfWires", desc := "(J)J" } : Jvm.MethodName) prog_1_method_32_code (7 : Nat) (Option.some Jvm.ClassFile.FieldType.long)) ∈ lw_tbl := in_t2 (List.mem_of_getElem? (i := 163) rfl)
theorem tw_404 : (Jvm.Cond.methodLink "FoundryNine" (276 : Nat) ({ cls := "FoundryNine", name := "arrival", desc := "(I)I" } : Jvm.MethodName)) ∈ lw_tbl := List.mem_of_getElem? (i := 445) (by decide +kernel)
theorem tw_405 : (Jvm.Cond.methodLink "FoundryNine" (278 : Nat) ({ cls := "FoundryNine", name := "users", desc := "(I)I" } : Jvm.MethodName)) ∈ lw_tbl := List.mem_of_getElem? (i := 446) (by decide +kernel)
theorem tw_406 : (Jvm.Cond.instanceMethod ({ cls := "FoundryNine", name := "users", desc := "(I)I" } : Jvm.MethodName)) ∈ lw_tbl := List.mem_of_getElem? (i := 447) (by decide +kernel)
theorem tw_407 : (Jvm.Cond.selects "FoundryNine" ({ cls := "FoundryNine", name := "users", desc := "(I)I" } : Jvm.MethodName) ({ cls := "FoundryNine", name := "users", desc := "(I)I" } : Jvm.MethodName)) ∈ lw_tbl := List.mem_of_getElem? (i := 448) (by decide +kernel)
set_option maxRecDepth 20000 in
theorem tw_408 : (Jvm.Cond.code ({ cls := "FoundryNine", name := "users", desc := "(I)I" } : Jvm.MethodName) prog_1_method_13_code (2 : Nat) (Option.some Jvm.ClassFile.FieldType.int)) ∈ lw_tbl := in_t2 (List.mem_of_getElem? (i := 168) rfl)
theorem tw_409 : (Jvm.Cond.methodLink "FoundryNine" (137 : Nat) ({ cls := "java/lang/Integer", name := "bitCount", desc := "(I)I" } : Jvm.MethodName)) ∈ lw_tbl := List.mem_of_getElem? (i := 450) (by decide +kernel)
theorem tw_410 : (Jvm.Cond.static ({ cls := "java/lang/Integer", name := "bitCount", desc := "(I)I" } : Jvm.MethodName)) ∈ lw_tbl := List.mem_of_getElem? (i := 451) (by decide +kernel)
set_option maxRecDepth 20000 in
theorem tw_411 : (Jvm.Cond.code ({ cls := "java/lang/Integer", name := "bitCount", desc := "(I)I" } : Jvm.MethodName) prog_13_method_49_code (1 : Nat) (Option.some Jvm.ClassFile.FieldType.int)) ∈ lw_tbl := in_t2 (List.mem_of_getElem? (i := 171) rfl)
theorem tw_412 : (Jvm.Cond.constant "java/lang/Integer" (265 : Nat) (1431655765 : Int32)) ∈ lw_tbl := List.mem_of_getElem? (i := 453) (by decide +kernel)
theorem tw_413 : (Jvm.Cond.constant "java/lang/Integer" (266 : Nat) (858993459 : Int32)) ∈ lw_tbl := List.mem_of_getElem? (i := 454) (by decide +kernel)
theorem tw_414 : (Jvm.Cond.constant "java/lang/Integer" (267 : Nat) (252645135 : Int32)) ∈ lw_tbl := List.mem_of_getElem? (i := 455) (by decide +kernel)
theorem tw_415 : (Jvm.Cond.methodLink "FoundryNine" (280 : Nat) ({ cls := "FoundryNine", name := "ofWire", desc := "(II)I" } : Jvm.MethodName)) ∈ lw_tbl := List.mem_of_getElem? (i := 456) (by decide +kernel)
theorem tw_416 : (Jvm.Cond.methodLink "FoundryNine" (260 : Nat) ({ cls := "FoundryNine", name := "digestOfRun", desc := "(J)J" } : Jvm.MethodName)) ∈ lw_tbl := List.mem_of_getElem? (i := 457) (by decide +kernel)
theorem tw_417 : (Jvm.Cond.privateMethod ({ cls := "FoundryNine", name := "digestOfRun", desc := "(J)J" } : Jvm.MethodName)) ∈ lw_tbl := List.mem_of_getElem? (i := 458) (by decide +kernel)
theorem tw_418 : (Jvm.Cond.instanceMethod ({ cls := "FoundryNine", name := "digestOfRun", desc := "(J)J" } : Jvm.MethodName)) ∈ lw_tbl := List.mem_of_getElem? (i := 459) (by decide +kernel)
set_option maxRecDepth 20000 in
theorem tw_419 : (Jvm.Cond.code ({ cls := "FoundryNine", name := "digestOfRun", desc := "(J)J" } : Jvm.MethodName) prog_1_method_33_code (7 : Nat) (Option.some Jvm.ClassFile.FieldType.long)) ∈ lw_tbl := in_t2 (List.mem_of_getElem? (i := 179) rfl)
theorem tw_420 : (Jvm.Cond.methodLink "FoundryNine" (283 : Nat) ({ cls := "FoundryNine", name := "pending", desc := "(I)I" } : Jvm.MethodName)) ∈ lw_tbl := List.mem_of_getElem? (i := 461) (by decide +kernel)
theorem tw_421 : (Jvm.Cond.methodLink "FoundryNine" (286 : Nat) ({ cls := "FoundryNine", name := "hazards", desc := "()I" } : Jvm.MethodName)) ∈ lw_tbl := List.mem_of_getElem? (i := 462) (by decide +kernel)
theorem tw_422 : (Jvm.Cond.methodLink "FoundryNine" (289 : Nat) ({ cls := "FoundryNine", name := "ofHazard", desc := "(II)I" } : Jvm.MethodName)) ∈ lw_tbl := List.mem_of_getElem? (i := 463) (by decide +kernel)
theorem tw_423 : (Jvm.Cond.methodLink "FoundryNine" (263 : Nat) ({ cls := "FoundryNine", name := "settlesIn", desc := "()I" } : Jvm.MethodName)) ∈ lw_tbl := List.mem_of_getElem? (i := 464) (by decide +kernel)
theorem tw_424 : (Jvm.Cond.classLink "FoundryNineLaw" (9 : Nat) "FoundryNineLaw$Bench") ∈ lw_tbl := List.mem_of_getElem? (i := 465) (by decide +kernel)
theorem tw_425 : (Jvm.Cond.instantiable "FoundryNineLaw$Bench" (14 : Nat)) ∈ lw_tbl := List.mem_of_getElem? (i := 466) (by decide +kernel)
theorem tw_426 : (Jvm.Cond.methodLink "FoundryNineLaw" (11 : Nat) ({ cls := "FoundryNineLaw$Bench", name := "<init>", desc := "([II)V" } : Jvm.MethodName)) ∈ lw_tbl := List.mem_of_getElem? (i := 467) (by decide +kernel)
theorem tw_427 : (Jvm.Cond.instanceMethod ({ cls := "FoundryNineLaw$Bench", name := "<init>", desc := "([II)V" } : Jvm.MethodName)) ∈ lw_tbl := List.mem_of_getElem? (i := 468) (by decide +kernel)
set_option maxRecDepth 20000 in
theorem tw_428 : (Jvm.Cond.code ({ cls := "FoundryNineLaw$Bench", name := "<init>", desc := "([II)V" } : Jvm.MethodName) prog_7_method_1_code (3 : Nat) (Option.none : Option Jvm.ClassFile.FieldType)) ∈ lw_tbl := in_t2 (List.mem_of_getElem? (i := 188) rfl)
theorem tw_429 : (Jvm.Cond.methodLink "FoundryNineLaw$Bench" (1 : Nat) ({ cls := "java/lang/Object", name := "<init>", desc := "()V" } : Jvm.MethodName)) ∈ lw_tbl := List.mem_of_getElem? (i := 470) (by decide +kernel)
theorem tw_430 : (Jvm.Cond.classLink "FoundryNineLaw$Bench" (7 : Nat) "FoundryNine") ∈ lw_tbl := List.mem_of_getElem? (i := 471) (by decide +kernel)
theorem tw_431 : (Jvm.Cond.methodLink "FoundryNineLaw$Bench" (9 : Nat) ({ cls := "FoundryNine", name := "<init>", desc := "()V" } : Jvm.MethodName)) ∈ lw_tbl := List.mem_of_getElem? (i := 472) (by decide +kernel)
theorem tw_432 : (Jvm.Cond.instanceMethod ({ cls := "FoundryNine", name := "<init>", desc := "()V" } : Jvm.MethodName)) ∈ lw_tbl := List.mem_of_getElem? (i := 473) (by decide +kernel)
set_option maxRecDepth 20000 in
theorem tw_433 : (Jvm.Cond.code ({ cls := "FoundryNine", name := "<init>", desc := "()V" } : Jvm.MethodName) prog_1_method_1_code (1 : Nat) (Option.none : Option Jvm.ClassFile.FieldType)) ∈ lw_tbl := in_t2 (List.mem_of_getElem? (i := 193) rfl)
theorem tw_434 : (Jvm.Cond.methodLink "FoundryNine" (1 : Nat) ({ cls := "java/lang/Object", name := "<init>", desc := "()V" } : Jvm.MethodName)) ∈ lw_tbl := List.mem_of_getElem? (i := 475) (by decide +kernel)
theorem tw_435 : (Jvm.Cond.classLink "FoundryNine" (7 : Nat) "FoundryNine$Circuit") ∈ lw_tbl := List.mem_of_getElem? (i := 476) (by decide +kernel)
theorem tw_436 : (Jvm.Cond.instantiable "FoundryNine$Circuit" (12 : Nat)) ∈ lw_tbl := List.mem_of_getElem? (i := 477) (by decide +kernel)
theorem tw_437 : (Jvm.Cond.methodLink "FoundryNine" (9 : Nat) ({ cls := "FoundryNine$Circuit", name := "<init>", desc := "()V" } : Jvm.MethodName)) ∈ lw_tbl := List.mem_of_getElem? (i := 478) (by decide +kernel)
theorem tw_438 : (Jvm.Cond.instanceMethod ({ cls := "FoundryNine$Circuit", name := "<init>", desc := "()V" } : Jvm.MethodName)) ∈ lw_tbl := List.mem_of_getElem? (i := 479) (by decide +kernel)
set_option maxRecDepth 20000 in
theorem tw_439 : (Jvm.Cond.code ({ cls := "FoundryNine$Circuit", name := "<init>", desc := "()V" } : Jvm.MethodName) prog_3_method_1_code (1 : Nat) (Option.none : Option Jvm.ClassFile.FieldType)) ∈ lw_tbl := in_t2 (List.mem_of_getElem? (i := 199) rfl)
theorem tw_440 : (Jvm.Cond.methodLink "FoundryNine$Circuit" (3 : Nat) ({ cls := "java/lang/Object", name := "<init>", desc := "()V" } : Jvm.MethodName)) ∈ lw_tbl := List.mem_of_getElem? (i := 481) (by decide +kernel)
theorem tw_441 : (Jvm.Cond.methodLink "FoundryNine$Circuit" (45 : Nat) ({ cls := "java/util/Arrays", name := "fill", desc := "([II)V" } : Jvm.MethodName)) ∈ lw_tbl := List.mem_of_getElem? (i := 482) (by decide +kernel)
theorem tw_442 : (Jvm.Cond.fieldLink "FoundryNine$Circuit" (9 : Nat) "FoundryNine$Circuit" "kind" "[I") ∈ lw_tbl := List.mem_of_getElem? (i := 483) (by decide +kernel)
theorem tw_443 : (Jvm.Cond.fieldLinkNest "FoundryNine$Arrivals" (34 : Nat) "FoundryNine$Circuit" "kind" "[I" "FoundryNine") ∈ lw_tbl := List.mem_of_getElem? (i := 484) (by decide +kernel)
theorem tw_444 : (Jvm.Cond.fieldLinkNest "FoundryNine$Run" (94 : Nat) "FoundryNine$Circuit" "kind" "[I" "FoundryNine") ∈ lw_tbl := List.mem_of_getElem? (i := 485) (by decide +kernel)
theorem tw_445 : (Jvm.Cond.fieldLinkNest "FoundryNine" (73 : Nat) "FoundryNine$Circuit" "kind" "[I" "FoundryNine") ∈ lw_tbl := List.mem_of_getElem? (i := 486) (by decide +kernel)
theorem tw_446 : (Jvm.Cond.fieldLink "FoundryNine$Circuit" (15 : Nat) "FoundryNine$Circuit" "wire" "[I") ∈ lw_tbl := List.mem_of_getElem? (i := 487) (by decide +kernel)
theorem tw_447 : (Jvm.Cond.fieldLinkNest "FoundryNine$Flaws" (54 : Nat) "FoundryNine$Circuit" "wire" "[I" "FoundryNine") ∈ lw_tbl := List.mem_of_getElem? (i := 488) (by decide +kernel)
theorem tw_448 : (Jvm.Cond.fieldLinkNest "FoundryNine$Run" (97 : Nat) "FoundryNine$Circuit" "wire" "[I" "FoundryNine") ∈ lw_tbl := List.mem_of_getElem? (i := 489) (by decide +kernel)
theorem tw_449 : (Jvm.Cond.fieldLink "FoundryNine$Circuit" (18 : Nat) "FoundryNine$Circuit" "a" "[I") ∈ lw_tbl := List.mem_of_getElem? (i := 490) (by decide +kernel)
theorem tw_450 : (Jvm.Cond.fieldLinkNest "FoundryNine$Arrivals" (43 : Nat) "FoundryNine$Circuit" "a" "[I" "FoundryNine") ∈ lw_tbl := List.mem_of_getElem? (i := 491) (by decide +kernel)
theorem tw_451 : (Jvm.Cond.fieldLinkNest "FoundryNine$Run" (134 : Nat) "FoundryNine$Circuit" "a" "[I" "FoundryNine") ∈ lw_tbl := List.mem_of_getElem? (i := 492) (by decide +kernel)
theorem tw_452 : (Jvm.Cond.fieldLink "FoundryNine$Circuit" (21 : Nat) "FoundryNine$Circuit" "b" "[I") ∈ lw_tbl := List.mem_of_getElem? (i := 493) (by decide +kernel)
theorem tw_453 : (Jvm.Cond.fieldLinkNest "FoundryNine$Arrivals" (49 : Nat) "FoundryNine$Circuit" "b" "[I" "FoundryNine") ∈ lw_tbl := List.mem_of_getElem? (i := 494) (by decide +kernel)
theorem tw_454 : (Jvm.Cond.fieldLinkNest "FoundryNine$Run" (140 : Nat) "FoundryNine$Circuit" "b" "[I" "FoundryNine") ∈ lw_tbl := List.mem_of_getElem? (i := 495) (by decide +kernel)
theorem tw_455 : (Jvm.Cond.fieldLink "FoundryNine$Circuit" (24 : Nat) "FoundryNine$Circuit" "c" "[I") ∈ lw_tbl := List.mem_of_getElem? (i := 496) (by decide +kernel)
theorem tw_456 : (Jvm.Cond.fieldLinkNest "FoundryNine$Arrivals" (52 : Nat) "FoundryNine$Circuit" "c" "[I" "FoundryNine") ∈ lw_tbl := List.mem_of_getElem? (i := 497) (by decide +kernel)
theorem tw_457 : (Jvm.Cond.fieldLinkNest "FoundryNine$Run" (143 : Nat) "FoundryNine$Circuit" "c" "[I" "FoundryNine") ∈ lw_tbl := List.mem_of_getElem? (i := 498) (by decide +kernel)
theorem tw_458 : (Jvm.Cond.fieldLink "FoundryNine$Circuit" (27 : Nat) "FoundryNine$Circuit" "delay" "[I") ∈ lw_tbl := List.mem_of_getElem? (i := 499) (by decide +kernel)
theorem tw_459 : (Jvm.Cond.fieldLinkNest "FoundryNine$Arrivals" (27 : Nat) "FoundryNine$Circuit" "delay" "[I" "FoundryNine") ∈ lw_tbl := List.mem_of_getElem? (i := 500) (by decide +kernel)
theorem tw_460 : (Jvm.Cond.fieldLinkNest "FoundryNine$Run" (168 : Nat) "FoundryNine$Circuit" "delay" "[I" "FoundryNine") ∈ lw_tbl := List.mem_of_getElem? (i := 501) (by decide +kernel)
theorem tw_461 : (Jvm.Cond.fieldLink "FoundryNine$Circuit" (30 : Nat) "FoundryNine$Circuit" "setup" "[I") ∈ lw_tbl := List.mem_of_getElem? (i := 502) (by decide +kernel)
theorem tw_462 : (Jvm.Cond.fieldLinkNest "FoundryNine$Run" (165 : Nat) "FoundryNine$Circuit" "setup" "[I" "FoundryNine") ∈ lw_tbl := List.mem_of_getElem? (i := 503) (by decide +kernel)
theorem tw_463 : (Jvm.Cond.fieldLink "FoundryNine$Circuit" (33 : Nat) "FoundryNine$Circuit" "hold" "[I") ∈ lw_tbl := List.mem_of_getElem? (i := 504) (by decide +kernel)
theorem tw_464 : (Jvm.Cond.fieldLinkNest "FoundryNine$Run" (156 : Nat) "FoundryNine$Circuit" "hold" "[I" "FoundryNine") ∈ lw_tbl := List.mem_of_getElem? (i := 505) (by decide +kernel)
theorem tw_465 : (Jvm.Cond.fieldLink "FoundryNine$Circuit" (36 : Nat) "FoundryNine$Circuit" "users" "[I") ∈ lw_tbl := List.mem_of_getElem? (i := 506) (by decide +kernel)
theorem tw_466 : (Jvm.Cond.fieldLinkNest "FoundryNine$Flaws" (42 : Nat) "FoundryNine$Circuit" "users" "[I" "FoundryNine") ∈ lw_tbl := List.mem_of_getElem? (i := 507) (by decide +kernel)
theorem tw_467 : (Jvm.Cond.fieldLinkNest "FoundryNine" (134 : Nat) "FoundryNine$Circuit" "users" "[I" "FoundryNine") ∈ lw_tbl := List.mem_of_getElem? (i := 508) (by decide +kernel)
theorem tw_468 : (Jvm.Cond.fieldLink "FoundryNine$Circuit" (39 : Nat) "FoundryNine$Circuit" "drivers" "[I") ∈ lw_tbl := List.mem_of_getElem? (i := 509) (by decide +kernel)
theorem tw_469 : (Jvm.Cond.fieldLinkNest "FoundryNine$Flaws" (33 : Nat) "FoundryNine$Circuit" "drivers" "[I" "FoundryNine") ∈ lw_tbl := List.mem_of_getElem? (i := 510) (by decide +kernel)
theorem tw_470 : (Jvm.Cond.fieldLinkNest "FoundryNine$Arrivals" (65 : Nat) "FoundryNine$Circuit" "drivers" "[I" "FoundryNine") ∈ lw_tbl := List.mem_of_getElem? (i := 511) (by decide +kernel)
theorem tw_471 : (Jvm.Cond.fieldLink "FoundryNine$Circuit" (42 : Nat) "FoundryNine$Circuit" "firstDriver" "[I") ∈ lw_tbl := List.mem_of_getElem? (i := 512) (by decide +kernel)
theorem tw_472 : (Jvm.Cond.fieldLink "FoundryNine$Circuit" (51 : Nat) "FoundryNine$Circuit" "count" "I") ∈ lw_tbl := List.mem_of_getElem? (i := 513) (by decide +kernel)
theorem tw_473 : (Jvm.Cond.fieldLinkNest "FoundryNine$Flaws" (49 : Nat) "FoundryNine$Circuit" "count" "I" "FoundryNine") ∈ lw_tbl := List.mem_of_getElem? (i := 514) (by decide +kernel)
theorem tw_474 : (Jvm.Cond.fieldLinkNest "FoundryNine$Run" (89 : Nat) "FoundryNine$Circuit" "count" "I" "FoundryNine") ∈ lw_tbl := List.mem_of_getElem? (i := 515) (by decide +kernel)
theorem tw_475 : (Jvm.Cond.fieldLinkNest "FoundryNine" (101 : Nat) "FoundryNine$Circuit" "count" "I" "FoundryNine") ∈ lw_tbl := List.mem_of_getElem? (i := 516) (by decide +kernel)
theorem tw_476 : (Jvm.Cond.laysFinal "FoundryNine$Circuit" "FoundryNine$Circuit" "kind" "[I") ∈ lw_tbl := List.mem_of_getElem? (i := 517) (by decide +kernel)
theorem tw_477 : (Jvm.Cond.soleField "FoundryNine$Circuit" "kind") ∈ lw_tbl := List.mem_of_getElem? (i := 518) (by decide +kernel)
theorem tw_478 : (Jvm.Cond.laysFinal "FoundryNine$Circuit" "FoundryNine$Circuit" "wire" "[I") ∈ lw_tbl := List.mem_of_getElem? (i := 519) (by decide +kernel)
theorem tw_479 : (Jvm.Cond.soleField "FoundryNine$Circuit" "wire") ∈ lw_tbl := List.mem_of_getElem? (i := 520) (by decide +kernel)
theorem tw_480 : (Jvm.Cond.laysFinal "FoundryNine$Circuit" "FoundryNine$Circuit" "a" "[I") ∈ lw_tbl := List.mem_of_getElem? (i := 521) (by decide +kernel)
theorem tw_481 : (Jvm.Cond.soleField "FoundryNine$Circuit" "a") ∈ lw_tbl := List.mem_of_getElem? (i := 522) (by decide +kernel)
theorem tw_482 : (Jvm.Cond.laysFinal "FoundryNine$Circuit" "FoundryNine$Circuit" "b" "[I") ∈ lw_tbl := List.mem_of_getElem? (i := 523) (by decide +kernel)
theorem tw_483 : (Jvm.Cond.soleField "FoundryNine$Circuit" "b") ∈ lw_tbl := List.mem_of_getElem? (i := 524) (by decide +kernel)
theorem tw_484 : (Jvm.Cond.laysFinal "FoundryNine$Circuit" "FoundryNine$Circuit" "c" "[I") ∈ lw_tbl := List.mem_of_getElem? (i := 525) (by decide +kernel)
theorem tw_485 : (Jvm.Cond.soleField "FoundryNine$Circuit" "c") ∈ lw_tbl := List.mem_of_getElem? (i := 526) (by decide +kernel)
theorem tw_486 : (Jvm.Cond.laysFinal "FoundryNine$Circuit" "FoundryNine$Circuit" "delay" "[I") ∈ lw_tbl := List.mem_of_getElem? (i := 527) (by decide +kernel)
theorem tw_487 : (Jvm.Cond.soleField "FoundryNine$Circuit" "delay") ∈ lw_tbl := List.mem_of_getElem? (i := 528) (by decide +kernel)
theorem tw_488 : (Jvm.Cond.laysFinal "FoundryNine$Circuit" "FoundryNine$Circuit" "setup" "[I") ∈ lw_tbl := List.mem_of_getElem? (i := 529) (by decide +kernel)
theorem tw_489 : (Jvm.Cond.soleField "FoundryNine$Circuit" "setup") ∈ lw_tbl := List.mem_of_getElem? (i := 530) (by decide +kernel)
theorem tw_490 : (Jvm.Cond.laysFinal "FoundryNine$Circuit" "FoundryNine$Circuit" "hold" "[I") ∈ lw_tbl := List.mem_of_getElem? (i := 531) (by decide +kernel)
theorem tw_491 : (Jvm.Cond.soleField "FoundryNine$Circuit" "hold") ∈ lw_tbl := List.mem_of_getElem? (i := 532) (by decide +kernel)
theorem tw_492 : (Jvm.Cond.laysFinal "FoundryNine$Circuit" "FoundryNine$Circuit" "users" "[I") ∈ lw_tbl := List.mem_of_getElem? (i := 533) (by decide +kernel)
theorem tw_493 : (Jvm.Cond.soleField "FoundryNine$Circuit" "users") ∈ lw_tbl := List.mem_of_getElem? (i := 534) (by decide +kernel)
theorem tw_494 : (Jvm.Cond.laysFinal "FoundryNine$Circuit" "FoundryNine$Circuit" "drivers" "[I") ∈ lw_tbl := List.mem_of_getElem? (i := 535) (by decide +kernel)
theorem tw_495 : (Jvm.Cond.soleField "FoundryNine$Circuit" "drivers") ∈ lw_tbl := List.mem_of_getElem? (i := 536) (by decide +kernel)
theorem tw_496 : (Jvm.Cond.laysFinal "FoundryNine$Circuit" "FoundryNine$Circuit" "firstDriver" "[I") ∈ lw_tbl := List.mem_of_getElem? (i := 537) (by decide +kernel)
theorem tw_497 : (Jvm.Cond.soleField "FoundryNine$Circuit" "firstDriver") ∈ lw_tbl := List.mem_of_getElem? (i := 538) (by decide +kernel)
theorem tw_498 : (Jvm.Cond.lays "FoundryNine$Circuit" "FoundryNine$Circuit" "count" "I") ∈ lw_tbl := List.mem_of_getElem? (i := 539) (by decide +kernel)
theorem tw_499 : (Jvm.Cond.soleField "FoundryNine$Circuit" "count") ∈ lw_tbl := List.mem_of_getElem? (i := 540) (by decide +kernel)
theorem tw_500 : (Jvm.Cond.superclass "FoundryNine$Circuit" "java/lang/Object") ∈ lw_tbl := List.mem_of_getElem? (i := 541) (by decide +kernel)
theorem tw_501 : (Jvm.Cond.arrayClass Jvm.ClassFile.FieldType.int) ∈ lw_tbl := List.mem_of_getElem? (i := 542) (by decide +kernel)
theorem tw_502 : (Jvm.Cond.classLink "FoundryNine" (16 : Nat) "FoundryNine$Flaws") ∈ lw_tbl := List.mem_of_getElem? (i := 543) (by decide +kernel)
theorem tw_503 : (Jvm.Cond.instantiable "FoundryNine$Flaws" (6 : Nat)) ∈ lw_tbl := List.mem_of_getElem? (i := 544) (by decide +kernel)
theorem tw_504 : (Jvm.Cond.methodLink "FoundryNine" (18 : Nat) ({ cls := "FoundryNine$Flaws", name := "<init>", desc := "()V" } : Jvm.MethodName)) ∈ lw_tbl := List.mem_of_getElem? (i := 545) (by decide +kernel)
theorem tw_505 : (Jvm.Cond.instanceMethod ({ cls := "FoundryNine$Flaws", name := "<init>", desc := "()V" } : Jvm.MethodName)) ∈ lw_tbl := List.mem_of_getElem? (i := 546) (by decide +kernel)
set_option maxRecDepth 20000 in
theorem tw_506 : (Jvm.Cond.code ({ cls := "FoundryNine$Flaws", name := "<init>", desc := "()V" } : Jvm.MethodName) prog_4_method_1_code (1 : Nat) (Option.none : Option Jvm.ClassFile.FieldType)) ∈ lw_tbl := in_t3 (List.mem_of_getElem? (i := 26) rfl)
theorem tw_507 : (Jvm.Cond.methodLink "FoundryNine$Flaws" (3 : Nat) ({ cls := "java/lang/Object", name := "<init>", desc := "()V" } : Jvm.MethodName)) ∈ lw_tbl := List.mem_of_getElem? (i := 548) (by decide +kernel)
theorem tw_508 : (Jvm.Cond.fieldLink "FoundryNine$Flaws" (9 : Nat) "FoundryNine$Flaws" "code" "[I") ∈ lw_tbl := List.mem_of_getElem? (i := 549) (by decide +kernel)
theorem tw_509 : (Jvm.Cond.fieldLinkNest "FoundryNine" (111 : Nat) "FoundryNine$Flaws" "code" "[I" "FoundryNine") ∈ lw_tbl := List.mem_of_getElem? (i := 550) (by decide +kernel)
theorem tw_510 : (Jvm.Cond.fieldLink "FoundryNine$Flaws" (15 : Nat) "FoundryNine$Flaws" "place" "[I") ∈ lw_tbl := List.mem_of_getElem? (i := 551) (by decide +kernel)
theorem tw_511 : (Jvm.Cond.fieldLinkNest "FoundryNine" (114 : Nat) "FoundryNine$Flaws" "place" "[I" "FoundryNine") ∈ lw_tbl := List.mem_of_getElem? (i := 552) (by decide +kernel)
theorem tw_512 : (Jvm.Cond.fieldLink "FoundryNine$Flaws" (18 : Nat) "FoundryNine$Flaws" "inRing" "[Z") ∈ lw_tbl := List.mem_of_getElem? (i := 553) (by decide +kernel)
theorem tw_513 : (Jvm.Cond.fieldLinkNest "FoundryNine$Arrivals" (37 : Nat) "FoundryNine$Flaws" "inRing" "[Z" "FoundryNine") ∈ lw_tbl := List.mem_of_getElem? (i := 554) (by decide +kernel)
theorem tw_514 : (Jvm.Cond.fieldLink "FoundryNine$Flaws" (22 : Nat) "FoundryNine$Flaws" "reach" "[I") ∈ lw_tbl := List.mem_of_getElem? (i := 555) (by decide +kernel)
theorem tw_515 : (Jvm.Cond.fieldLink "FoundryNine$Flaws" (25 : Nat) "FoundryNine$Flaws" "count" "I") ∈ lw_tbl := List.mem_of_getElem? (i := 556) (by decide +kernel)
theorem tw_516 : (Jvm.Cond.fieldLinkNest "FoundryNine" (105 : Nat) "FoundryNine$Flaws" "count" "I" "FoundryNine") ∈ lw_tbl := List.mem_of_getElem? (i := 557) (by decide +kernel)
theorem tw_517 : (Jvm.Cond.fieldLink "FoundryNine$Flaws" (29 : Nat) "FoundryNine$Flaws" "forbidRunning" "Z") ∈ lw_tbl := List.mem_of_getElem? (i := 558) (by decide +kernel)
theorem tw_518 : (Jvm.Cond.fieldLinkNest "FoundryNine" (143 : Nat) "FoundryNine$Flaws" "forbidRunning" "Z" "FoundryNine") ∈ lw_tbl := List.mem_of_getElem? (i := 559) (by decide +kernel)
theorem tw_519 : (Jvm.Cond.laysFinal "FoundryNine$Flaws" "FoundryNine$Flaws" "code" "[I") ∈ lw_tbl := List.mem_of_getElem? (i := 560) (by decide +kernel)
theorem tw_520 : (Jvm.Cond.soleField "FoundryNine$Flaws" "code") ∈ lw_tbl := List.mem_of_getElem? (i := 561) (by decide +kernel)
theorem tw_521 : (Jvm.Cond.laysFinal "FoundryNine$Flaws" "FoundryNine$Flaws" "place" "[I") ∈ lw_tbl := List.mem_of_getElem? (i := 562) (by decide +kernel)
theorem tw_522 : (Jvm.Cond.soleField "FoundryNine$Flaws" "place") ∈ lw_tbl := List.mem_of_getElem? (i := 563) (by decide +kernel)
theorem tw_523 : (Jvm.Cond.laysFinal "FoundryNine$Flaws" "FoundryNine$Flaws" "inRing" "[Z") ∈ lw_tbl := List.mem_of_getElem? (i := 564) (by decide +kernel)
theorem tw_524 : (Jvm.Cond.soleField "FoundryNine$Flaws" "inRing") ∈ lw_tbl := List.mem_of_getElem? (i := 565) (by decide +kernel)
theorem tw_525 : (Jvm.Cond.laysFinal "FoundryNine$Flaws" "FoundryNine$Flaws" "reach" "[I") ∈ lw_tbl := List.mem_of_getElem? (i := 566) (by decide +kernel)
theorem tw_526 : (Jvm.Cond.soleField "FoundryNine$Flaws" "reach") ∈ lw_tbl := List.mem_of_getElem? (i := 567) (by decide +kernel)
theorem tw_527 : (Jvm.Cond.lays "FoundryNine$Flaws" "FoundryNine$Flaws" "count" "I") ∈ lw_tbl := List.mem_of_getElem? (i := 568) (by decide +kernel)
theorem tw_528 : (Jvm.Cond.soleField "FoundryNine$Flaws" "count") ∈ lw_tbl := List.mem_of_getElem? (i := 569) (by decide +kernel)
theorem tw_529 : (Jvm.Cond.lays "FoundryNine$Flaws" "FoundryNine$Flaws" "forbidRunning" "Z") ∈ lw_tbl := List.mem_of_getElem? (i := 570) (by decide +kernel)
theorem tw_530 : (Jvm.Cond.soleField "FoundryNine$Flaws" "forbidRunning") ∈ lw_tbl := List.mem_of_getElem? (i := 571) (by decide +kernel)
theorem tw_531 : (Jvm.Cond.superclass "FoundryNine$Flaws" "java/lang/Object") ∈ lw_tbl := List.mem_of_getElem? (i := 572) (by decide +kernel)
theorem tw_532 : (Jvm.Cond.arrayClass Jvm.ClassFile.FieldType.boolean) ∈ lw_tbl := List.mem_of_getElem? (i := 573) (by decide +kernel)
theorem tw_533 : (Jvm.Cond.classLink "FoundryNine" (23 : Nat) "FoundryNine$Arrivals") ∈ lw_tbl := List.mem_of_getElem? (i := 574) (by decide +kernel)
theorem tw_534 : (Jvm.Cond.methodLinkNest "FoundryNine" (25 : Nat) ({ cls := "FoundryNine$Arrivals", name := "<init>", desc := "()V" } : Jvm.MethodName) "FoundryNine") ∈ lw_tbl := List.mem_of_getElem? (i := 575) (by decide +kernel)
theorem tw_535 : (Jvm.Cond.instanceMethod ({ cls := "FoundryNine$Arrivals", name := "<init>", desc := "()V" } : Jvm.MethodName)) ∈ lw_tbl := List.mem_of_getElem? (i := 576) (by decide +kernel)
set_option maxRecDepth 20000 in
theorem tw_536 : (Jvm.Cond.code ({ cls := "FoundryNine$Arrivals", name := "<init>", desc := "()V" } : Jvm.MethodName) prog_2_method_1_code (1 : Nat) (Option.none : Option Jvm.ClassFile.FieldType)) ∈ lw_tbl := in_t3 (List.mem_of_getElem? (i := 56) rfl)
theorem tw_537 : (Jvm.Cond.methodLink "FoundryNine$Arrivals" (3 : Nat) ({ cls := "java/lang/Object", name := "<init>", desc := "()V" } : Jvm.MethodName)) ∈ lw_tbl := List.mem_of_getElem? (i := 578) (by decide +kernel)
theorem tw_538 : (Jvm.Cond.fieldLink "FoundryNine$Arrivals" (9 : Nat) "FoundryNine$Arrivals" "arrival" "[I") ∈ lw_tbl := List.mem_of_getElem? (i := 579) (by decide +kernel)
theorem tw_539 : (Jvm.Cond.fieldLinkNest "FoundryNine" (119 : Nat) "FoundryNine$Arrivals" "arrival" "[I" "FoundryNine") ∈ lw_tbl := List.mem_of_getElem? (i := 580) (by decide +kernel)
theorem tw_540 : (Jvm.Cond.laysFinal "FoundryNine$Arrivals" "FoundryNine$Arrivals" "arrival" "[I") ∈ lw_tbl := List.mem_of_getElem? (i := 581) (by decide +kernel)
theorem tw_541 : (Jvm.Cond.soleField "FoundryNine$Arrivals" "arrival") ∈ lw_tbl := List.mem_of_getElem? (i := 582) (by decide +kernel)
theorem tw_542 : (Jvm.Cond.superclass "FoundryNine$Arrivals" "java/lang/Object") ∈ lw_tbl := List.mem_of_getElem? (i := 583) (by decide +kernel)
theorem tw_543 : (Jvm.Cond.classLink "FoundryNine" (33 : Nat) "FoundryNine$Run") ∈ lw_tbl := List.mem_of_getElem? (i := 584) (by decide +kernel)
theorem tw_544 : (Jvm.Cond.methodLink "FoundryNine" (35 : Nat) ({ cls := "FoundryNine$Run", name := "<init>", desc := "(LFoundryNine$Circuit;)V" } : Jvm.MethodName)) ∈ lw_tbl := List.mem_of_getElem? (i := 585) (by decide +kernel)
theorem tw_545 : (Jvm.Cond.instanceMethod ({ cls := "FoundryNine$Run", name := "<init>", desc := "(LFoundryNine$Circuit;)V" } : Jvm.MethodName)) ∈ lw_tbl := List.mem_of_getElem? (i := 586) (by decide +kernel)
set_option maxRecDepth 20000 in
theorem tw_546 : (Jvm.Cond.code ({ cls := "FoundryNine$Run", name := "<init>", desc := "(LFoundryNine$Circuit;)V" } : Jvm.MethodName) prog_5_method_1_code (2 : Nat) (Option.none : Option Jvm.ClassFile.FieldType)) ∈ lw_tbl := in_t3 (List.mem_of_getElem? (i := 66) rfl)
theorem tw_547 : (Jvm.Cond.methodLink "FoundryNine$Run" (3 : Nat) ({ cls := "java/lang/Object", name := "<init>", desc := "()V" } : Jvm.MethodName)) ∈ lw_tbl := List.mem_of_getElem? (i := 588) (by decide +kernel)
theorem tw_548 : (Jvm.Cond.methodLink "FoundryNine$Run" (49 : Nat) ({ cls := "FoundryNine$Run", name := "clear", desc := "()V" } : Jvm.MethodName)) ∈ lw_tbl := List.mem_of_getElem? (i := 589) (by decide +kernel)
theorem tw_549 : (Jvm.Cond.privateMethod ({ cls := "FoundryNine$Run", name := "clear", desc := "()V" } : Jvm.MethodName)) ∈ lw_tbl := List.mem_of_getElem? (i := 590) (by decide +kernel)
theorem tw_550 : (Jvm.Cond.instanceMethod ({ cls := "FoundryNine$Run", name := "clear", desc := "()V" } : Jvm.MethodName)) ∈ lw_tbl := List.mem_of_getElem? (i := 591) (by decide +kernel)
set_option maxRecDepth 20000 in
theorem tw_551 : (Jvm.Cond.code ({ cls := "FoundryNine$Run", name := "clear", desc := "()V" } : Jvm.MethodName) prog_5_method_2_code (1 : Nat) (Option.none : Option Jvm.ClassFile.FieldType)) ∈ lw_tbl := in_t3 (List.mem_of_getElem? (i := 71) rfl)
theorem tw_552 : (Jvm.Cond.fieldLink "FoundryNine$Run" (45 : Nat) "FoundryNine$Run" "circuit" "LFoundryNine$Circuit;") ∈ lw_tbl := List.mem_of_getElem? (i := 593) (by decide +kernel)
theorem tw_553 : (Jvm.Cond.fieldLink "FoundryNine$Run" (9 : Nat) "FoundryNine$Run" "value" "[I") ∈ lw_tbl := List.mem_of_getElem? (i := 594) (by decide +kernel)
theorem tw_554 : (Jvm.Cond.fieldLinkNest "FoundryNine" (164 : Nat) "FoundryNine$Run" "value" "[I" "FoundryNine") ∈ lw_tbl := List.mem_of_getElem? (i := 595) (by decide +kernel)
theorem tw_555 : (Jvm.Cond.fieldLink "FoundryNine$Run" (15 : Nat) "FoundryNine$Run" "changedAt" "[I") ∈ lw_tbl := List.mem_of_getElem? (i := 596) (by decide +kernel)
theorem tw_556 : (Jvm.Cond.fieldLinkNest "FoundryNine" (195 : Nat) "FoundryNine$Run" "changedAt" "[I" "FoundryNine") ∈ lw_tbl := List.mem_of_getElem? (i := 597) (by decide +kernel)
theorem tw_557 : (Jvm.Cond.fieldLink "FoundryNine$Run" (18 : Nat) "FoundryNine$Run" "timesChanged" "[I") ∈ lw_tbl := List.mem_of_getElem? (i := 598) (by decide +kernel)
theorem tw_558 : (Jvm.Cond.fieldLinkNest "FoundryNine" (198 : Nat) "FoundryNine$Run" "timesChanged" "[I" "FoundryNine") ∈ lw_tbl := List.mem_of_getElem? (i := 599) (by decide +kernel)
theorem tw_559 : (Jvm.Cond.fieldLink "FoundryNine$Run" (21 : Nat) "FoundryNine$Run" "countedFrom" "[I") ∈ lw_tbl := List.mem_of_getElem? (i := 600) (by decide +kernel)
theorem tw_560 : (Jvm.Cond.fieldLinkNest "FoundryNine" (201 : Nat) "FoundryNine$Run" "countedFrom" "[I" "FoundryNine") ∈ lw_tbl := List.mem_of_getElem? (i := 601) (by decide +kernel)
theorem tw_561 : (Jvm.Cond.fieldLink "FoundryNine$Run" (24 : Nat) "FoundryNine$Run" "pendingValue" "[I") ∈ lw_tbl := List.mem_of_getElem? (i := 602) (by decide +kernel)
theorem tw_562 : (Jvm.Cond.fieldLinkNest "FoundryNine" (206 : Nat) "FoundryNine$Run" "pendingValue" "[I" "FoundryNine") ∈ lw_tbl := List.mem_of_getElem? (i := 603) (by decide +kernel)
theorem tw_563 : (Jvm.Cond.fieldLink "FoundryNine$Run" (27 : Nat) "FoundryNine$Run" "pendingTime" "[I") ∈ lw_tbl := List.mem_of_getElem? (i := 604) (by decide +kernel)
theorem tw_564 : (Jvm.Cond.fieldLink "FoundryNine$Run" (30 : Nat) "FoundryNine$Run" "pendingTurn" "[I") ∈ lw_tbl := List.mem_of_getElem? (i := 605) (by decide +kernel)
theorem tw_565 : (Jvm.Cond.fieldLink "FoundryNine$Run" (33 : Nat) "FoundryNine$Run" "riseAt" "[I") ∈ lw_tbl := List.mem_of_getElem? (i := 606) (by decide +kernel)
theorem tw_566 : (Jvm.Cond.fieldLink "FoundryNine$Run" (36 : Nat) "FoundryNine$Run" "hazardCode" "[I") ∈ lw_tbl := List.mem_of_getElem? (i := 607) (by decide +kernel)
theorem tw_567 : (Jvm.Cond.fieldLinkNest "FoundryNine" (214 : Nat) "FoundryNine$Run" "hazardCode" "[I" "FoundryNine") ∈ lw_tbl := List.mem_of_getElem? (i := 608) (by decide +kernel)
theorem tw_568 : (Jvm.Cond.fieldLink "FoundryNine$Run" (39 : Nat) "FoundryNine$Run" "hazardWire" "[I") ∈ lw_tbl := List.mem_of_getElem? (i := 609) (by decide +kernel)
theorem tw_569 : (Jvm.Cond.fieldLinkNest "FoundryNine" (217 : Nat) "FoundryNine$Run" "hazardWire" "[I" "FoundryNine") ∈ lw_tbl := List.mem_of_getElem? (i := 610) (by decide +kernel)
theorem tw_570 : (Jvm.Cond.fieldLink "FoundryNine$Run" (42 : Nat) "FoundryNine$Run" "hazardTime" "[I") ∈ lw_tbl := List.mem_of_getElem? (i := 611) (by decide +kernel)
theorem tw_571 : (Jvm.Cond.fieldLinkNest "FoundryNine" (220 : Nat) "FoundryNine$Run" "hazardTime" "[I" "FoundryNine") ∈ lw_tbl := List.mem_of_getElem? (i := 612) (by decide +kernel)
theorem tw_572 : (Jvm.Cond.fieldLink "FoundryNine$Run" (64 : Nat) "FoundryNine$Run" "hazardCount" "I") ∈ lw_tbl := List.mem_of_getElem? (i := 613) (by decide +kernel)
theorem tw_573 : (Jvm.Cond.fieldLinkNest "FoundryNine" (209 : Nat) "FoundryNine$Run" "hazardCount" "I" "FoundryNine") ∈ lw_tbl := List.mem_of_getElem? (i := 614) (by decide +kernel)
theorem tw_574 : (Jvm.Cond.fieldLink "FoundryNine$Run" (68 : Nat) "FoundryNine$Run" "now" "I") ∈ lw_tbl := List.mem_of_getElem? (i := 615) (by decide +kernel)
theorem tw_575 : (Jvm.Cond.fieldLinkNest "FoundryNine" (172 : Nat) "FoundryNine$Run" "now" "I" "FoundryNine") ∈ lw_tbl := List.mem_of_getElem? (i := 616) (by decide +kernel)
theorem tw_576 : (Jvm.Cond.fieldLink "FoundryNine$Run" (71 : Nat) "FoundryNine$Run" "turns" "I") ∈ lw_tbl := List.mem_of_getElem? (i := 617) (by decide +kernel)
theorem tw_577 : (Jvm.Cond.fieldLink "FoundryNine$Run" (74 : Nat) "FoundryNine$Run" "swallowed" "I") ∈ lw_tbl := List.mem_of_getElem? (i := 618) (by decide +kernel)
theorem tw_578 : (Jvm.Cond.fieldLinkNest "FoundryNine" (184 : Nat) "FoundryNine$Run" "swallowed" "I" "FoundryNine") ∈ lw_tbl := List.mem_of_getElem? (i := 619) (by decide +kernel)
theorem tw_579 : (Jvm.Cond.fieldLink "FoundryNine$Run" (77 : Nat) "FoundryNine$Run" "restless" "I") ∈ lw_tbl := List.mem_of_getElem? (i := 620) (by decide +kernel)
theorem tw_580 : (Jvm.Cond.fieldLinkNest "FoundryNine" (187 : Nat) "FoundryNine$Run" "restless" "I" "FoundryNine") ∈ lw_tbl := List.mem_of_getElem? (i := 621) (by decide +kernel)
theorem tw_581 : (Jvm.Cond.fieldLink "FoundryNine$Run" (80 : Nat) "FoundryNine$Run" "changes" "I") ∈ lw_tbl := List.mem_of_getElem? (i := 622) (by decide +kernel)
theorem tw_582 : (Jvm.Cond.fieldLinkNest "FoundryNine" (190 : Nat) "FoundryNine$Run" "changes" "I" "FoundryNine") ∈ lw_tbl := List.mem_of_getElem? (i := 623) (by decide +kernel)
theorem tw_583 : (Jvm.Cond.laysFinal "FoundryNine$Run" "FoundryNine$Run" "circuit" "LFoundryNine$Circuit;") ∈ lw_tbl := List.mem_of_getElem? (i := 624) (by decide +kernel)
theorem tw_584 : (Jvm.Cond.soleField "FoundryNine$Run" "circuit") ∈ lw_tbl := List.mem_of_getElem? (i := 625) (by decide +kernel)
theorem tw_585 : (Jvm.Cond.laysFinal "FoundryNine$Run" "FoundryNine$Run" "value" "[I") ∈ lw_tbl := List.mem_of_getElem? (i := 626) (by decide +kernel)
theorem tw_586 : (Jvm.Cond.soleField "FoundryNine$Run" "value") ∈ lw_tbl := List.mem_of_getElem? (i := 627) (by decide +kernel)
theorem tw_587 : (Jvm.Cond.laysFinal "FoundryNine$Run" "FoundryNine$Run" "changedAt" "[I") ∈ lw_tbl := List.mem_of_getElem? (i := 628) (by decide +kernel)
theorem tw_588 : (Jvm.Cond.soleField "FoundryNine$Run" "changedAt") ∈ lw_tbl := List.mem_of_getElem? (i := 629) (by decide +kernel)
theorem tw_589 : (Jvm.Cond.laysFinal "FoundryNine$Run" "FoundryNine$Run" "timesChanged" "[I") ∈ lw_tbl := List.mem_of_getElem? (i := 630) (by decide +kernel)
theorem tw_590 : (Jvm.Cond.soleField "FoundryNine$Run" "timesChanged") ∈ lw_tbl := List.mem_of_getElem? (i := 631) (by decide +kernel)
theorem tw_591 : (Jvm.Cond.laysFinal "FoundryNine$Run" "FoundryNine$Run" "countedFrom" "[I") ∈ lw_tbl := List.mem_of_getElem? (i := 632) (by decide +kernel)
theorem tw_592 : (Jvm.Cond.soleField "FoundryNine$Run" "countedFrom") ∈ lw_tbl := List.mem_of_getElem? (i := 633) (by decide +kernel)
theorem tw_593 : (Jvm.Cond.laysFinal "FoundryNine$Run" "FoundryNine$Run" "pendingValue" "[I") ∈ lw_tbl := List.mem_of_getElem? (i := 634) (by decide +kernel)
theorem tw_594 : (Jvm.Cond.soleField "FoundryNine$Run" "pendingValue") ∈ lw_tbl := List.mem_of_getElem? (i := 635) (by decide +kernel)
theorem tw_595 : (Jvm.Cond.laysFinal "FoundryNine$Run" "FoundryNine$Run" "pendingTime" "[I") ∈ lw_tbl := List.mem_of_getElem? (i := 636) (by decide +kernel)
theorem tw_596 : (Jvm.Cond.soleField "FoundryNine$Run" "pendingTime") ∈ lw_tbl := List.mem_of_getElem? (i := 637) (by decide +kernel)
theorem tw_597 : (Jvm.Cond.laysFinal "FoundryNine$Run" "FoundryNine$Run" "pendingTurn" "[I") ∈ lw_tbl := List.mem_of_getElem? (i := 638) (by decide +kernel)
theorem tw_598 : (Jvm.Cond.soleField "FoundryNine$Run" "pendingTurn") ∈ lw_tbl := List.mem_of_getElem? (i := 639) (by decide +kernel)
theorem tw_599 : (Jvm.Cond.laysFinal "FoundryNine$Run" "FoundryNine$Run" "riseAt" "[I") ∈ lw_tbl := List.mem_of_getElem? (i := 640) (by decide +kernel)
theorem tw_600 : (Jvm.Cond.soleField "FoundryNine$Run" "riseAt") ∈ lw_tbl := List.mem_of_getElem? (i := 641) (by decide +kernel)
theorem tw_601 : (Jvm.Cond.laysFinal "FoundryNine$Run" "FoundryNine$Run" "hazardCode" "[I") ∈ lw_tbl := List.mem_of_getElem? (i := 642) (by decide +kernel)
theorem tw_602 : (Jvm.Cond.soleField "FoundryNine$Run" "hazardCode") ∈ lw_tbl := List.mem_of_getElem? (i := 643) (by decide +kernel)
theorem tw_603 : (Jvm.Cond.laysFinal "FoundryNine$Run" "FoundryNine$Run" "hazardWire" "[I") ∈ lw_tbl := List.mem_of_getElem? (i := 644) (by decide +kernel)
theorem tw_604 : (Jvm.Cond.soleField "FoundryNine$Run" "hazardWire") ∈ lw_tbl := List.mem_of_getElem? (i := 645) (by decide +kernel)
theorem tw_605 : (Jvm.Cond.laysFinal "FoundryNine$Run" "FoundryNine$Run" "hazardTime" "[I") ∈ lw_tbl := List.mem_of_getElem? (i := 646) (by decide +kernel)
theorem tw_606 : (Jvm.Cond.soleField "FoundryNine$Run" "hazardTime") ∈ lw_tbl := List.mem_of_getElem? (i := 647) (by decide +kernel)
theorem tw_607 : (Jvm.Cond.lays "FoundryNine$Run" "FoundryNine$Run" "hazardCount" "I") ∈ lw_tbl := List.mem_of_getElem? (i := 648) (by decide +kernel)
theorem tw_608 : (Jvm.Cond.soleField "FoundryNine$Run" "hazardCount") ∈ lw_tbl := List.mem_of_getElem? (i := 649) (by decide +kernel)
theorem tw_609 : (Jvm.Cond.lays "FoundryNine$Run" "FoundryNine$Run" "now" "I") ∈ lw_tbl := List.mem_of_getElem? (i := 650) (by decide +kernel)
theorem tw_610 : (Jvm.Cond.soleField "FoundryNine$Run" "now") ∈ lw_tbl := List.mem_of_getElem? (i := 651) (by decide +kernel)
theorem tw_611 : (Jvm.Cond.lays "FoundryNine$Run" "FoundryNine$Run" "turns" "I") ∈ lw_tbl := List.mem_of_getElem? (i := 652) (by decide +kernel)
theorem tw_612 : (Jvm.Cond.soleField "FoundryNine$Run" "turns") ∈ lw_tbl := List.mem_of_getElem? (i := 653) (by decide +kernel)
theorem tw_613 : (Jvm.Cond.lays "FoundryNine$Run" "FoundryNine$Run" "swallowed" "I") ∈ lw_tbl := List.mem_of_getElem? (i := 654) (by decide +kernel)
theorem tw_614 : (Jvm.Cond.soleField "FoundryNine$Run" "swallowed") ∈ lw_tbl := List.mem_of_getElem? (i := 655) (by decide +kernel)
theorem tw_615 : (Jvm.Cond.lays "FoundryNine$Run" "FoundryNine$Run" "restless" "I") ∈ lw_tbl := List.mem_of_getElem? (i := 656) (by decide +kernel)
theorem tw_616 : (Jvm.Cond.soleField "FoundryNine$Run" "restless") ∈ lw_tbl := List.mem_of_getElem? (i := 657) (by decide +kernel)
theorem tw_617 : (Jvm.Cond.lays "FoundryNine$Run" "FoundryNine$Run" "changes" "I") ∈ lw_tbl := List.mem_of_getElem? (i := 658) (by decide +kernel)
theorem tw_618 : (Jvm.Cond.soleField "FoundryNine$Run" "changes") ∈ lw_tbl := List.mem_of_getElem? (i := 659) (by decide +kernel)
theorem tw_619 : (Jvm.Cond.superclass "FoundryNine$Run" "java/lang/Object") ∈ lw_tbl := List.mem_of_getElem? (i := 660) (by decide +kernel)
theorem tw_620 : (Jvm.Cond.fieldLink "FoundryNine" (10 : Nat) "FoundryNine" "circuit" "LFoundryNine$Circuit;") ∈ lw_tbl := List.mem_of_getElem? (i := 661) (by decide +kernel)
theorem tw_621 : (Jvm.Cond.fieldLink "FoundryNine" (19 : Nat) "FoundryNine" "noted" "LFoundryNine$Flaws;") ∈ lw_tbl := List.mem_of_getElem? (i := 662) (by decide +kernel)
theorem tw_622 : (Jvm.Cond.fieldLink "FoundryNine" (26 : Nat) "FoundryNine" "arrivals" "LFoundryNine$Arrivals;") ∈ lw_tbl := List.mem_of_getElem? (i := 663) (by decide +kernel)
theorem tw_623 : (Jvm.Cond.fieldLink "FoundryNine" (30 : Nat) "FoundryNine" "arrivalsWith" "LFoundryNine$Arrivals;") ∈ lw_tbl := List.mem_of_getElem? (i := 664) (by decide +kernel)
theorem tw_624 : (Jvm.Cond.fieldLink "FoundryNine" (38 : Nat) "FoundryNine" "run" "LFoundryNine$Run;") ∈ lw_tbl := List.mem_of_getElem? (i := 665) (by decide +kernel)
theorem tw_625 : (Jvm.Cond.fieldLink "FoundryNine" (42 : Nat) "FoundryNine" "trial" "LFoundryNine$Run;") ∈ lw_tbl := List.mem_of_getElem? (i := 666) (by decide +kernel)
theorem tw_626 : (Jvm.Cond.fieldLink "FoundryNine" (45 : Nat) "FoundryNine" "running" "Z") ∈ lw_tbl := List.mem_of_getElem? (i := 667) (by decide +kernel)
theorem tw_627 : (Jvm.Cond.laysFinal "FoundryNine" "FoundryNine" "circuit" "LFoundryNine$Circuit;") ∈ lw_tbl := List.mem_of_getElem? (i := 668) (by decide +kernel)
theorem tw_628 : (Jvm.Cond.soleField "FoundryNine" "circuit") ∈ lw_tbl := List.mem_of_getElem? (i := 669) (by decide +kernel)
theorem tw_629 : (Jvm.Cond.laysFinal "FoundryNine" "FoundryNine" "noted" "LFoundryNine$Flaws;") ∈ lw_tbl := List.mem_of_getElem? (i := 670) (by decide +kernel)
theorem tw_630 : (Jvm.Cond.soleField "FoundryNine" "noted") ∈ lw_tbl := List.mem_of_getElem? (i := 671) (by decide +kernel)
theorem tw_631 : (Jvm.Cond.laysFinal "FoundryNine" "FoundryNine" "arrivals" "LFoundryNine$Arrivals;") ∈ lw_tbl := List.mem_of_getElem? (i := 672) (by decide +kernel)
theorem tw_632 : (Jvm.Cond.soleField "FoundryNine" "arrivals") ∈ lw_tbl := List.mem_of_getElem? (i := 673) (by decide +kernel)
theorem tw_633 : (Jvm.Cond.laysFinal "FoundryNine" "FoundryNine" "arrivalsWith" "LFoundryNine$Arrivals;") ∈ lw_tbl := List.mem_of_getElem? (i := 674) (by decide +kernel)
theorem tw_634 : (Jvm.Cond.soleField "FoundryNine" "arrivalsWith") ∈ lw_tbl := List.mem_of_getElem? (i := 675) (by decide +kernel)
theorem tw_635 : (Jvm.Cond.laysFinal "FoundryNine" "FoundryNine" "run" "LFoundryNine$Run;") ∈ lw_tbl := List.mem_of_getElem? (i := 676) (by decide +kernel)
theorem tw_636 : (Jvm.Cond.soleField "FoundryNine" "run") ∈ lw_tbl := List.mem_of_getElem? (i := 677) (by decide +kernel)
theorem tw_637 : (Jvm.Cond.laysFinal "FoundryNine" "FoundryNine" "trial" "LFoundryNine$Run;") ∈ lw_tbl := List.mem_of_getElem? (i := 678) (by decide +kernel)
theorem tw_638 : (Jvm.Cond.soleField "FoundryNine" "trial") ∈ lw_tbl := List.mem_of_getElem? (i := 679) (by decide +kernel)
theorem tw_639 : (Jvm.Cond.lays "FoundryNine" "FoundryNine" "running" "Z") ∈ lw_tbl := List.mem_of_getElem? (i := 680) (by decide +kernel)
theorem tw_640 : (Jvm.Cond.soleField "FoundryNine" "running") ∈ lw_tbl := List.mem_of_getElem? (i := 681) (by decide +kernel)
theorem tw_641 : (Jvm.Cond.superclass "FoundryNine" "java/lang/Object") ∈ lw_tbl := List.mem_of_getElem? (i := 682) (by decide +kernel)
theorem tw_642 : (Jvm.Cond.classLink "FoundryNineLaw$Bench" (16 : Nat) "[I") ∈ lw_tbl := List.mem_of_getElem? (i := 683) (by decide +kernel)
theorem tw_643 : (Jvm.Cond.arrayOver (Jvm.ClassFile.FieldType.array Jvm.ClassFile.FieldType.int)) ∈ lw_tbl := List.mem_of_getElem? (i := 684) (by decide +kernel)
theorem tw_644 : (Jvm.Cond.methodLink "FoundryNineLaw$Bench" (41 : Nat) ({ cls := "FoundryNineLaw$Bench", name := "clear", desc := "()V" } : Jvm.MethodName)) ∈ lw_tbl := List.mem_of_getElem? (i := 685) (by decide +kernel)
theorem tw_645 : (Jvm.Cond.privateMethod ({ cls := "FoundryNineLaw$Bench", name := "clear", desc := "()V" } : Jvm.MethodName)) ∈ lw_tbl := List.mem_of_getElem? (i := 686) (by decide +kernel)
theorem tw_646 : (Jvm.Cond.instanceMethod ({ cls := "FoundryNineLaw$Bench", name := "clear", desc := "()V" } : Jvm.MethodName)) ∈ lw_tbl := List.mem_of_getElem? (i := 687) (by decide +kernel)
set_option maxRecDepth 20000 in
theorem tw_647 : (Jvm.Cond.code ({ cls := "FoundryNineLaw$Bench", name := "clear", desc := "()V" } : Jvm.MethodName) prog_7_method_5_code (3 : Nat) (Option.none : Option Jvm.ClassFile.FieldType)) ∈ lw_tbl := in_t3 (List.mem_of_getElem? (i := 167) rfl)
theorem tw_648 : (Jvm.Cond.fieldLink "FoundryNineLaw$Bench" (10 : Nat) "FoundryNineLaw$Bench" "m" "LFoundryNine;") ∈ lw_tbl := List.mem_of_getElem? (i := 689) (by decide +kernel)
theorem tw_649 : (Jvm.Cond.fieldLink "FoundryNineLaw" (14 : Nat) "FoundryNineLaw$Bench" "m" "LFoundryNine;") ∈ lw_tbl := List.mem_of_getElem? (i := 690) (by decide +kernel)
theorem tw_650 : (Jvm.Cond.fieldLink "FoundryNineLaw$Bench" (34 : Nat) "FoundryNineLaw$Bench" "s" "[I") ∈ lw_tbl := List.mem_of_getElem? (i := 691) (by decide +kernel)
theorem tw_651 : (Jvm.Cond.fieldLink "FoundryNineLaw$Bench" (37 : Nat) "FoundryNineLaw$Bench" "draws" "I") ∈ lw_tbl := List.mem_of_getElem? (i := 692) (by decide +kernel)
theorem tw_652 : (Jvm.Cond.fieldLink "FoundryNineLaw" (94 : Nat) "FoundryNineLaw$Bench" "lines" "I") ∈ lw_tbl := List.mem_of_getElem? (i := 693) (by decide +kernel)
theorem tw_653 : (Jvm.Cond.fieldLink "FoundryNineLaw$Bench" (72 : Nat) "FoundryNineLaw$Bench" "lines" "I") ∈ lw_tbl := List.mem_of_getElem? (i := 694) (by decide +kernel)
theorem tw_654 : (Jvm.Cond.fieldLink "FoundryNineLaw$Bench" (18 : Nat) "FoundryNineLaw$Bench" "line" "[[I") ∈ lw_tbl := List.mem_of_getElem? (i := 695) (by decide +kernel)
theorem tw_655 : (Jvm.Cond.fieldLink "FoundryNineLaw" (38 : Nat) "FoundryNineLaw$Bench" "line" "[[I") ∈ lw_tbl := List.mem_of_getElem? (i := 696) (by decide +kernel)
theorem tw_656 : (Jvm.Cond.fieldLink "FoundryNineLaw$Bench" (75 : Nat) "FoundryNineLaw$Bench" "isRunning" "Z") ∈ lw_tbl := List.mem_of_getElem? (i := 697) (by decide +kernel)
theorem tw_657 : (Jvm.Cond.fieldLink "FoundryNineLaw$Bench" (60 : Nat) "FoundryNineLaw$Bench" "time" "I") ∈ lw_tbl := List.mem_of_getElem? (i := 698) (by decide +kernel)
theorem tw_658 : (Jvm.Cond.fieldLink "FoundryNineLaw$Bench" (63 : Nat) "FoundryNineLaw$Bench" "swallowed" "I") ∈ lw_tbl := List.mem_of_getElem? (i := 699) (by decide +kernel)
theorem tw_659 : (Jvm.Cond.fieldLink "FoundryNineLaw$Bench" (66 : Nat) "FoundryNineLaw$Bench" "restless" "I") ∈ lw_tbl := List.mem_of_getElem? (i := 700) (by decide +kernel)
theorem tw_660 : (Jvm.Cond.fieldLink "FoundryNineLaw$Bench" (69 : Nat) "FoundryNineLaw$Bench" "changes" "I") ∈ lw_tbl := List.mem_of_getElem? (i := 701) (by decide +kernel)
theorem tw_661 : (Jvm.Cond.fieldLink "FoundryNineLaw$Bench" (22 : Nat) "FoundryNineLaw$Bench" "wire" "[[I") ∈ lw_tbl := List.mem_of_getElem? (i := 702) (by decide +kernel)
theorem tw_662 : (Jvm.Cond.fieldLink "FoundryNineLaw$Bench" (25 : Nat) "FoundryNineLaw$Bench" "pending" "[[I") ∈ lw_tbl := List.mem_of_getElem? (i := 703) (by decide +kernel)
theorem tw_663 : (Jvm.Cond.fieldLink "FoundryNineLaw$Bench" (28 : Nat) "FoundryNineLaw$Bench" "rise" "[I") ∈ lw_tbl := List.mem_of_getElem? (i := 704) (by decide +kernel)
theorem tw_664 : (Jvm.Cond.fieldLink "FoundryNineLaw$Bench" (31 : Nat) "FoundryNineLaw$Bench" "hazards" "[[I") ∈ lw_tbl := List.mem_of_getElem? (i := 705) (by decide +kernel)
theorem tw_665 : (Jvm.Cond.laysFinal "FoundryNineLaw$Bench" "FoundryNineLaw$Bench" "m" "LFoundryNine;") ∈ lw_tbl := List.mem_of_getElem? (i := 706) (by decide +kernel)
theorem tw_666 : (Jvm.Cond.soleField "FoundryNineLaw$Bench" "m") ∈ lw_tbl := List.mem_of_getElem? (i := 707) (by decide +kernel)
theorem tw_667 : (Jvm.Cond.laysFinal "FoundryNineLaw$Bench" "FoundryNineLaw$Bench" "s" "[I") ∈ lw_tbl := List.mem_of_getElem? (i := 708) (by decide +kernel)
theorem tw_668 : (Jvm.Cond.soleField "FoundryNineLaw$Bench" "s") ∈ lw_tbl := List.mem_of_getElem? (i := 709) (by decide +kernel)
theorem tw_669 : (Jvm.Cond.lays "FoundryNineLaw$Bench" "FoundryNineLaw$Bench" "draws" "I") ∈ lw_tbl := List.mem_of_getElem? (i := 710) (by decide +kernel)
theorem tw_670 : (Jvm.Cond.soleField "FoundryNineLaw$Bench" "draws") ∈ lw_tbl := List.mem_of_getElem? (i := 711) (by decide +kernel)
theorem tw_671 : (Jvm.Cond.lays "FoundryNineLaw$Bench" "FoundryNineLaw$Bench" "lines" "I") ∈ lw_tbl := List.mem_of_getElem? (i := 712) (by decide +kernel)
theorem tw_672 : (Jvm.Cond.soleField "FoundryNineLaw$Bench" "lines") ∈ lw_tbl := List.mem_of_getElem? (i := 713) (by decide +kernel)
theorem tw_673 : (Jvm.Cond.laysFinal "FoundryNineLaw$Bench" "FoundryNineLaw$Bench" "line" "[[I") ∈ lw_tbl := List.mem_of_getElem? (i := 714) (by decide +kernel)
theorem tw_674 : (Jvm.Cond.soleField "FoundryNineLaw$Bench" "line") ∈ lw_tbl := List.mem_of_getElem? (i := 715) (by decide +kernel)
theorem tw_675 : (Jvm.Cond.lays "FoundryNineLaw$Bench" "FoundryNineLaw$Bench" "isRunning" "Z") ∈ lw_tbl := List.mem_of_getElem? (i := 716) (by decide +kernel)
theorem tw_676 : (Jvm.Cond.soleField "FoundryNineLaw$Bench" "isRunning") ∈ lw_tbl := List.mem_of_getElem? (i := 717) (by decide +kernel)
theorem tw_677 : (Jvm.Cond.lays "FoundryNineLaw$Bench" "FoundryNineLaw$Bench" "time" "I") ∈ lw_tbl := List.mem_of_getElem? (i := 718) (by decide +kernel)
theorem tw_678 : (Jvm.Cond.soleField "FoundryNineLaw$Bench" "time") ∈ lw_tbl := List.mem_of_getElem? (i := 719) (by decide +kernel)
theorem tw_679 : (Jvm.Cond.lays "FoundryNineLaw$Bench" "FoundryNineLaw$Bench" "swallowed" "I") ∈ lw_tbl := List.mem_of_getElem? (i := 720) (by decide +kernel)
theorem tw_680 : (Jvm.Cond.soleField "FoundryNineLaw$Bench" "swallowed") ∈ lw_tbl := List.mem_of_getElem? (i := 721) (by decide +kernel)
theorem tw_681 : (Jvm.Cond.lays "FoundryNineLaw$Bench" "FoundryNineLaw$Bench" "restless" "I") ∈ lw_tbl := List.mem_of_getElem? (i := 722) (by decide +kernel)
theorem tw_682 : (Jvm.Cond.soleField "FoundryNineLaw$Bench" "restless") ∈ lw_tbl := List.mem_of_getElem? (i := 723) (by decide +kernel)
theorem tw_683 : (Jvm.Cond.lays "FoundryNineLaw$Bench" "FoundryNineLaw$Bench" "changes" "I") ∈ lw_tbl := List.mem_of_getElem? (i := 724) (by decide +kernel)
theorem tw_684 : (Jvm.Cond.soleField "FoundryNineLaw$Bench" "changes") ∈ lw_tbl := List.mem_of_getElem? (i := 725) (by decide +kernel)
theorem tw_685 : (Jvm.Cond.lays "FoundryNineLaw$Bench" "FoundryNineLaw$Bench" "wire" "[[I") ∈ lw_tbl := List.mem_of_getElem? (i := 726) (by decide +kernel)
theorem tw_686 : (Jvm.Cond.soleField "FoundryNineLaw$Bench" "wire") ∈ lw_tbl := List.mem_of_getElem? (i := 727) (by decide +kernel)
theorem tw_687 : (Jvm.Cond.lays "FoundryNineLaw$Bench" "FoundryNineLaw$Bench" "pending" "[[I") ∈ lw_tbl := List.mem_of_getElem? (i := 728) (by decide +kernel)
theorem tw_688 : (Jvm.Cond.soleField "FoundryNineLaw$Bench" "pending") ∈ lw_tbl := List.mem_of_getElem? (i := 729) (by decide +kernel)
theorem tw_689 : (Jvm.Cond.laysFinal "FoundryNineLaw$Bench" "FoundryNineLaw$Bench" "rise" "[I") ∈ lw_tbl := List.mem_of_getElem? (i := 730) (by decide +kernel)
theorem tw_690 : (Jvm.Cond.soleField "FoundryNineLaw$Bench" "rise") ∈ lw_tbl := List.mem_of_getElem? (i := 731) (by decide +kernel)
theorem tw_691 : (Jvm.Cond.lays "FoundryNineLaw$Bench" "FoundryNineLaw$Bench" "hazards" "[[I") ∈ lw_tbl := List.mem_of_getElem? (i := 732) (by decide +kernel)
theorem tw_692 : (Jvm.Cond.soleField "FoundryNineLaw$Bench" "hazards") ∈ lw_tbl := List.mem_of_getElem? (i := 733) (by decide +kernel)
theorem tw_693 : (Jvm.Cond.superclass "FoundryNineLaw$Bench" "java/lang/Object") ∈ lw_tbl := List.mem_of_getElem? (i := 734) (by decide +kernel)
theorem tw_694 : (Jvm.Cond.methodLink "FoundryNineLaw" (65 : Nat) ({ cls := "FoundryNineLaw$Bench", name := "draw", desc := "(I)I" } : Jvm.MethodName)) ∈ lw_tbl := List.mem_of_getElem? (i := 735) (by decide +kernel)
theorem tw_695 : (Jvm.Cond.instanceMethod ({ cls := "FoundryNineLaw$Bench", name := "draw", desc := "(I)I" } : Jvm.MethodName)) ∈ lw_tbl := List.mem_of_getElem? (i := 736) (by decide +kernel)
theorem tw_696 : (Jvm.Cond.selects "FoundryNineLaw$Bench" ({ cls := "FoundryNineLaw$Bench", name := "draw", desc := "(I)I" } : Jvm.MethodName) ({ cls := "FoundryNineLaw$Bench", name := "draw", desc := "(I)I" } : Jvm.MethodName)) ∈ lw_tbl := List.mem_of_getElem? (i := 737) (by decide +kernel)
set_option maxRecDepth 20000 in
theorem tw_697 : (Jvm.Cond.code ({ cls := "FoundryNineLaw$Bench", name := "draw", desc := "(I)I" } : Jvm.MethodName) prog_7_method_2_code (3 : Nat) (Option.some Jvm.ClassFile.FieldType.int)) ∈ lw_tbl := in_t3 (List.mem_of_getElem? (i := 217) rfl)
theorem tw_698 : (Jvm.Cond.methodLinkNest "FoundryNineLaw$Bench" (44 : Nat) ({ cls := "FoundryNineLaw", name := "cell", desc := "([II)I" } : Jvm.MethodName) "FoundryNineLaw") ∈ lw_tbl := List.mem_of_getElem? (i := 739) (by decide +kernel)
theorem tw_699 : (Jvm.Cond.static ({ cls := "FoundryNineLaw", name := "cell", desc := "([II)I" } : Jvm.MethodName)) ∈ lw_tbl := List.mem_of_getElem? (i := 740) (by decide +kernel)
set_option maxRecDepth 20000 in
theorem tw_700 : (Jvm.Cond.code ({ cls := "FoundryNineLaw", name := "cell", desc := "([II)I" } : Jvm.MethodName) method_3_code (2 : Nat) (Option.some Jvm.ClassFile.FieldType.int)) ∈ lw_tbl := in_t3 (List.mem_of_getElem? (i := 220) rfl)
theorem tw_701 : (Jvm.Cond.constant "FoundryNineLaw" (8 : Nat) (790386105 : Int32)) ∈ lw_tbl := List.mem_of_getElem? (i := 742) (by decide +kernel)
theorem tw_702 : (Jvm.Cond.methodLinkNest "FoundryNineLaw$Bench" (50 : Nat) ({ cls := "FoundryNineLaw", name := "below", desc := "(II)I" } : Jvm.MethodName) "FoundryNineLaw") ∈ lw_tbl := List.mem_of_getElem? (i := 743) (by decide +kernel)
theorem tw_703 : (Jvm.Cond.static ({ cls := "FoundryNineLaw", name := "below", desc := "(II)I" } : Jvm.MethodName)) ∈ lw_tbl := List.mem_of_getElem? (i := 744) (by decide +kernel)
set_option maxRecDepth 20000 in
theorem tw_704 : (Jvm.Cond.code ({ cls := "FoundryNineLaw", name := "below", desc := "(II)I" } : Jvm.MethodName) method_2_code (2 : Nat) (Option.some Jvm.ClassFile.FieldType.int)) ∈ lw_tbl := in_t3 (List.mem_of_getElem? (i := 224) rfl)
theorem tw_705 : (Jvm.Cond.constant "FoundryNineLaw" (7 : Nat) (2147483647 : Int32)) ∈ lw_tbl := List.mem_of_getElem? (i := 746) (by decide +kernel)
theorem tw_706 : (Jvm.Cond.methodLink "FoundryNineLaw" (18 : Nat) ({ cls := "FoundryNineLaw$Bench", name := "found", desc := "(I)Z" } : Jvm.MethodName)) ∈ lw_tbl := List.mem_of_getElem? (i := 747) (by decide +kernel)
theorem tw_707 : (Jvm.Cond.instanceMethod ({ cls := "FoundryNineLaw$Bench", name := "found", desc := "(I)Z" } : Jvm.MethodName)) ∈ lw_tbl := List.mem_of_getElem? (i := 748) (by decide +kernel)
theorem tw_708 : (Jvm.Cond.selects "FoundryNineLaw$Bench" ({ cls := "FoundryNineLaw$Bench", name := "found", desc := "(I)Z" } : Jvm.MethodName) ({ cls := "FoundryNineLaw$Bench", name := "found", desc := "(I)Z" } : Jvm.MethodName)) ∈ lw_tbl := List.mem_of_getElem? (i := 749) (by decide +kernel)
set_option maxRecDepth 20000 in
theorem tw_709 : (Jvm.Cond.code ({ cls := "FoundryNineLaw$Bench", name := "found", desc := "(I)Z" } : Jvm.MethodName) prog_7_method_7_code (7 : Nat) (Option.some Jvm.ClassFile.FieldType.boolean)) ∈ lw_tbl := in_t3 (List.mem_of_getElem? (i := 229) rfl)
theorem tw_710 : (Jvm.Cond.methodLink "FoundryNineLaw$Bench" (91 : Nat) ({ cls := "FoundryNineLaw$Bench", name := "put", desc := "(IIIIII)Z" } : Jvm.MethodName)) ∈ lw_tbl := List.mem_of_getElem? (i := 751) (by decide +kernel)
theorem tw_711 : (Jvm.Cond.privateMethod ({ cls := "FoundryNineLaw$Bench", name := "put", desc := "(IIIIII)Z" } : Jvm.MethodName)) ∈ lw_tbl := List.mem_of_getElem? (i := 752) (by decide +kernel)
theorem tw_712 : (Jvm.Cond.instanceMethod ({ cls := "FoundryNineLaw$Bench", name := "put", desc := "(IIIIII)Z" } : Jvm.MethodName)) ∈ lw_tbl := List.mem_of_getElem? (i := 753) (by decide +kernel)
set_option maxRecDepth 20000 in
theorem tw_713 : (Jvm.Cond.code ({ cls := "FoundryNineLaw$Bench", name := "put", desc := "(IIIIII)Z" } : Jvm.MethodName) prog_7_method_6_code (9 : Nat) (Option.some Jvm.ClassFile.FieldType.boolean)) ∈ lw_tbl := in_t3 (List.mem_of_getElem? (i := 233) rfl)
theorem tw_714 : (Jvm.Cond.methodLink "FoundryNineLaw$Bench" (79 : Nat) ({ cls := "FoundryNine", name := "input", desc := "(I)I" } : Jvm.MethodName)) ∈ lw_tbl := List.mem_of_getElem? (i := 755) (by decide +kernel)
theorem tw_715 : (Jvm.Cond.instanceMethod ({ cls := "FoundryNine", name := "input", desc := "(I)I" } : Jvm.MethodName)) ∈ lw_tbl := List.mem_of_getElem? (i := 756) (by decide +kernel)
theorem tw_716 : (Jvm.Cond.selects "FoundryNine" ({ cls := "FoundryNine", name := "input", desc := "(I)I" } : Jvm.MethodName) ({ cls := "FoundryNine", name := "input", desc := "(I)I" } : Jvm.MethodName)) ∈ lw_tbl := List.mem_of_getElem? (i := 757) (by decide +kernel)
set_option maxRecDepth 20000 in
theorem tw_717 : (Jvm.Cond.code ({ cls := "FoundryNine", name := "input", desc := "(I)I" } : Jvm.MethodName) prog_1_method_2_code (2 : Nat) (Option.some Jvm.ClassFile.FieldType.int)) ∈ lw_tbl := in_t3 (List.mem_of_getElem? (i := 237) rfl)
theorem tw_718 : (Jvm.Cond.methodLink "FoundryNine" (53 : Nat) ({ cls := "FoundryNine", name := "checkRoom", desc := "()V" } : Jvm.MethodName)) ∈ lw_tbl := List.mem_of_getElem? (i := 759) (by decide +kernel)
theorem tw_719 : (Jvm.Cond.privateMethod ({ cls := "FoundryNine", name := "checkRoom", desc := "()V" } : Jvm.MethodName)) ∈ lw_tbl := List.mem_of_getElem? (i := 760) (by decide +kernel)
theorem tw_720 : (Jvm.Cond.instanceMethod ({ cls := "FoundryNine", name := "checkRoom", desc := "()V" } : Jvm.MethodName)) ∈ lw_tbl := List.mem_of_getElem? (i := 761) (by decide +kernel)
set_option maxRecDepth 20000 in
theorem tw_721 : (Jvm.Cond.code ({ cls := "FoundryNine", name := "checkRoom", desc := "()V" } : Jvm.MethodName) prog_1_method_39_code (1 : Nat) (Option.none : Option Jvm.ClassFile.FieldType)) ∈ lw_tbl := in_t4 (List.mem_of_getElem? (i := 1) rfl)
theorem tw_722 : (Jvm.Cond.stringRef "FoundryNine" (306 : Nat) "there is no room for a line") ∈ lw_tbl := List.mem_of_getElem? (i := 763) (by decide +kernel)
theorem tw_723 : (Jvm.Cond.methodLink "FoundryNine" (56 : Nat) ({ cls := "FoundryNine", name := "addLine", desc := "(IIIIII)I" } : Jvm.MethodName)) ∈ lw_tbl := List.mem_of_getElem? (i := 764) (by decide +kernel)
theorem tw_724 : (Jvm.Cond.privateMethod ({ cls := "FoundryNine", name := "addLine", desc := "(IIIIII)I" } : Jvm.MethodName)) ∈ lw_tbl := List.mem_of_getElem? (i := 765) (by decide +kernel)
theorem tw_725 : (Jvm.Cond.instanceMethod ({ cls := "FoundryNine", name := "addLine", desc := "(IIIIII)I" } : Jvm.MethodName)) ∈ lw_tbl := List.mem_of_getElem? (i := 766) (by decide +kernel)
set_option maxRecDepth 20000 in
theorem tw_726 : (Jvm.Cond.code ({ cls := "FoundryNine", name := "addLine", desc := "(IIIIII)I" } : Jvm.MethodName) prog_1_method_34_code (8 : Nat) (Option.some Jvm.ClassFile.FieldType.int)) ∈ lw_tbl := in_t4 (List.mem_of_getElem? (i := 6) rfl)
theorem tw_727 : (Jvm.Cond.methodLink "FoundryNine" (292 : Nat) ({ cls := "FoundryNine$Circuit", name := "add", desc := "(IIIIII)I" } : Jvm.MethodName)) ∈ lw_tbl := List.mem_of_getElem? (i := 768) (by decide +kernel)
theorem tw_728 : (Jvm.Cond.instanceMethod ({ cls := "FoundryNine$Circuit", name := "add", desc := "(IIIIII)I" } : Jvm.MethodName)) ∈ lw_tbl := List.mem_of_getElem? (i := 769) (by decide +kernel)
theorem tw_729 : (Jvm.Cond.selects "FoundryNine$Circuit" ({ cls := "FoundryNine$Circuit", name := "add", desc := "(IIIIII)I" } : Jvm.MethodName) ({ cls := "FoundryNine$Circuit", name := "add", desc := "(IIIIII)I" } : Jvm.MethodName)) ∈ lw_tbl := List.mem_of_getElem? (i := 770) (by decide +kernel)
set_option maxRecDepth 20000 in
theorem tw_730 : (Jvm.Cond.code ({ cls := "FoundryNine$Circuit", name := "add", desc := "(IIIIII)I" } : Jvm.MethodName) prog_3_method_2_code (8 : Nat) (Option.some Jvm.ClassFile.FieldType.int)) ∈ lw_tbl := in_t4 (List.mem_of_getElem? (i := 10) rfl)
theorem tw_731 : (Jvm.Cond.methodLink "FoundryNine$Circuit" (59 : Nat) ({ cls := "FoundryNine$Circuit", name := "noteUse", desc := "(II)V" } : Jvm.MethodName)) ∈ lw_tbl := List.mem_of_getElem? (i := 772) (by decide +kernel)
theorem tw_732 : (Jvm.Cond.privateMethod ({ cls := "FoundryNine$Circuit", name := "noteUse", desc := "(II)V" } : Jvm.MethodName)) ∈ lw_tbl := List.mem_of_getElem? (i := 773) (by decide +kernel)
theorem tw_733 : (Jvm.Cond.instanceMethod ({ cls := "FoundryNine$Circuit", name := "noteUse", desc := "(II)V" } : Jvm.MethodName)) ∈ lw_tbl := List.mem_of_getElem? (i := 774) (by decide +kernel)
set_option maxRecDepth 20000 in
theorem tw_734 : (Jvm.Cond.code ({ cls := "FoundryNine$Circuit", name := "noteUse", desc := "(II)V" } : Jvm.MethodName) prog_3_method_3_code (3 : Nat) (Option.none : Option Jvm.ClassFile.FieldType)) ∈ lw_tbl := in_t4 (List.mem_of_getElem? (i := 14) rfl)
theorem tw_735 : (Jvm.Cond.methodLink "FoundryNine" (295 : Nat) ({ cls := "FoundryNine$Flaws", name := "find", desc := "(LFoundryNine$Circuit;)V" } : Jvm.MethodName)) ∈ lw_tbl := List.mem_of_getElem? (i := 776) (by decide +kernel)
theorem tw_736 : (Jvm.Cond.instanceMethod ({ cls := "FoundryNine$Flaws", name := "find", desc := "(LFoundryNine$Circuit;)V" } : Jvm.MethodName)) ∈ lw_tbl := List.mem_of_getElem? (i := 777) (by decide +kernel)
theorem tw_737 : (Jvm.Cond.selects "FoundryNine$Flaws" ({ cls := "FoundryNine$Flaws", name := "find", desc := "(LFoundryNine$Circuit;)V" } : Jvm.MethodName) ({ cls := "FoundryNine$Flaws", name := "find", desc := "(LFoundryNine$Circuit;)V" } : Jvm.MethodName)) ∈ lw_tbl := List.mem_of_getElem? (i := 778) (by decide +kernel)
set_option maxRecDepth 20000 in
theorem tw_738 : (Jvm.Cond.code ({ cls := "FoundryNine$Flaws", name := "find", desc := "(LFoundryNine$Circuit;)V" } : Jvm.MethodName) prog_4_method_2_code (3 : Nat) (Option.none : Option Jvm.ClassFile.FieldType)) ∈ lw_tbl := in_t4 (List.mem_of_getElem? (i := 18) rfl)
theorem tw_739 : (Jvm.Cond.methodLink "FoundryNine$Flaws" (38 : Nat) ({ cls := "FoundryNine$Flaws", name := "note", desc := "(II)V" } : Jvm.MethodName)) ∈ lw_tbl := List.mem_of_getElem? (i := 780) (by decide +kernel)
theorem tw_740 : (Jvm.Cond.privateMethod ({ cls := "FoundryNine$Flaws", name := "note", desc := "(II)V" } : Jvm.MethodName)) ∈ lw_tbl := List.mem_of_getElem? (i := 781) (by decide +kernel)
theorem tw_741 : (Jvm.Cond.instanceMethod ({ cls := "FoundryNine$Flaws", name := "note", desc := "(II)V" } : Jvm.MethodName)) ∈ lw_tbl := List.mem_of_getElem? (i := 782) (by decide +kernel)
set_option maxRecDepth 20000 in
theorem tw_742 : (Jvm.Cond.code ({ cls := "FoundryNine$Flaws", name := "note", desc := "(II)V" } : Jvm.MethodName) prog_4_method_3_code (3 : Nat) (Option.none : Option Jvm.ClassFile.FieldType)) ∈ lw_tbl := in_t4 (List.mem_of_getElem? (i := 22) rfl)
theorem tw_743 : (Jvm.Cond.methodLink "FoundryNine$Flaws" (45 : Nat) ({ cls := "FoundryNine$Flaws", name := "findReach", desc := "(LFoundryNine$Circuit;)V" } : Jvm.MethodName)) ∈ lw_tbl := List.mem_of_getElem? (i := 784) (by decide +kernel)
theorem tw_744 : (Jvm.Cond.privateMethod ({ cls := "FoundryNine$Flaws", name := "findReach", desc := "(LFoundryNine$Circuit;)V" } : Jvm.MethodName)) ∈ lw_tbl := List.mem_of_getElem? (i := 785) (by decide +kernel)
theorem tw_745 : (Jvm.Cond.instanceMethod ({ cls := "FoundryNine$Flaws", name := "findReach", desc := "(LFoundryNine$Circuit;)V" } : Jvm.MethodName)) ∈ lw_tbl := List.mem_of_getElem? (i := 786) (by decide +kernel)
set_option maxRecDepth 20000 in
theorem tw_746 : (Jvm.Cond.code ({ cls := "FoundryNine$Flaws", name := "findReach", desc := "(LFoundryNine$Circuit;)V" } : Jvm.MethodName) prog_4_method_4_code (4 : Nat) (Option.none : Option Jvm.ClassFile.FieldType)) ∈ lw_tbl := in_t4 (List.mem_of_getElem? (i := 26) rfl)
theorem tw_747 : (Jvm.Cond.methodLink "FoundryNine$Flaws" (50 : Nat) ({ cls := "FoundryNine$Circuit", name := "isGate", desc := "(I)Z" } : Jvm.MethodName)) ∈ lw_tbl := List.mem_of_getElem? (i := 788) (by decide +kernel)
theorem tw_748 : (Jvm.Cond.methodLink "FoundryNine$Flaws" (64 : Nat) ({ cls := "FoundryNine$Circuit", name := "isUsedBy", desc := "(II)Z" } : Jvm.MethodName)) ∈ lw_tbl := List.mem_of_getElem? (i := 789) (by decide +kernel)
theorem tw_749 : (Jvm.Cond.methodLink "FoundryNine$Flaws" (57 : Nat) ({ cls := "FoundryNine$Flaws", name := "reachOf", desc := "(I)I" } : Jvm.MethodName)) ∈ lw_tbl := List.mem_of_getElem? (i := 790) (by decide +kernel)
theorem tw_750 : (Jvm.Cond.privateMethod ({ cls := "FoundryNine$Flaws", name := "reachOf", desc := "(I)I" } : Jvm.MethodName)) ∈ lw_tbl := List.mem_of_getElem? (i := 791) (by decide +kernel)
theorem tw_751 : (Jvm.Cond.instanceMethod ({ cls := "FoundryNine$Flaws", name := "reachOf", desc := "(I)I" } : Jvm.MethodName)) ∈ lw_tbl := List.mem_of_getElem? (i := 792) (by decide +kernel)
set_option maxRecDepth 20000 in
theorem tw_752 : (Jvm.Cond.code ({ cls := "FoundryNine$Flaws", name := "reachOf", desc := "(I)I" } : Jvm.MethodName) prog_4_method_5_code (2 : Nat) (Option.some Jvm.ClassFile.FieldType.int)) ∈ lw_tbl := in_t4 (List.mem_of_getElem? (i := 32) rfl)
theorem tw_753 : (Jvm.Cond.methodLinkNest "FoundryNine$Flaws" (68 : Nat) ({ cls := "FoundryNine", name := "isWire", desc := "(I)Z" } : Jvm.MethodName) "FoundryNine") ∈ lw_tbl := List.mem_of_getElem? (i := 794) (by decide +kernel)
theorem tw_754 : (Jvm.Cond.methodLink "FoundryNine$Flaws" (61 : Nat) ({ cls := "FoundryNine$Circuit", name := "pinsOf", desc := "(I)I" } : Jvm.MethodName)) ∈ lw_tbl := List.mem_of_getElem? (i := 795) (by decide +kernel)
theorem tw_755 : (Jvm.Cond.instanceMethod ({ cls := "FoundryNine$Circuit", name := "pinsOf", desc := "(I)I" } : Jvm.MethodName)) ∈ lw_tbl := List.mem_of_getElem? (i := 796) (by decide +kernel)
theorem tw_756 : (Jvm.Cond.selects "FoundryNine$Circuit" ({ cls := "FoundryNine$Circuit", name := "pinsOf", desc := "(I)I" } : Jvm.MethodName) ({ cls := "FoundryNine$Circuit", name := "pinsOf", desc := "(I)I" } : Jvm.MethodName)) ∈ lw_tbl := List.mem_of_getElem? (i := 797) (by decide +kernel)
set_option maxRecDepth 20000 in
theorem tw_757 : (Jvm.Cond.code ({ cls := "FoundryNine$Circuit", name := "pinsOf", desc := "(I)I" } : Jvm.MethodName) prog_3_method_8_code (2 : Nat) (Option.some Jvm.ClassFile.FieldType.int)) ∈ lw_tbl := in_t4 (List.mem_of_getElem? (i := 37) rfl)
theorem tw_758 : (Jvm.Cond.methodLink "FoundryNineLaw$Bench" (83 : Nat) ({ cls := "FoundryNine", name := "register", desc := "(IIIII)I" } : Jvm.MethodName)) ∈ lw_tbl := List.mem_of_getElem? (i := 799) (by decide +kernel)
theorem tw_759 : (Jvm.Cond.instanceMethod ({ cls := "FoundryNine", name := "register", desc := "(IIIII)I" } : Jvm.MethodName)) ∈ lw_tbl := List.mem_of_getElem? (i := 800) (by decide +kernel)
theorem tw_760 : (Jvm.Cond.selects "FoundryNine" ({ cls := "FoundryNine", name := "register", desc := "(IIIII)I" } : Jvm.MethodName) ({ cls := "FoundryNine", name := "register", desc := "(IIIII)I" } : Jvm.MethodName)) ∈ lw_tbl := List.mem_of_getElem? (i := 801) (by decide +kernel)
set_option maxRecDepth 20000 in
theorem tw_761 : (Jvm.Cond.code ({ cls := "FoundryNine", name := "register", desc := "(IIIII)I" } : Jvm.MethodName) prog_1_method_4_code (6 : Nat) (Option.some Jvm.ClassFile.FieldType.int)) ∈ lw_tbl := in_t4 (List.mem_of_getElem? (i := 41) rfl)
theorem tw_762 : (Jvm.Cond.methodLink "FoundryNineLaw$Bench" (87 : Nat) ({ cls := "FoundryNine", name := "gate", desc := "(IIIIII)I" } : Jvm.MethodName)) ∈ lw_tbl := List.mem_of_getElem? (i := 803) (by decide +kernel)
theorem tw_763 : (Jvm.Cond.instanceMethod ({ cls := "FoundryNine", name := "gate", desc := "(IIIIII)I" } : Jvm.MethodName)) ∈ lw_tbl := List.mem_of_getElem? (i := 804) (by decide +kernel)
theorem tw_764 : (Jvm.Cond.selects "FoundryNine" ({ cls := "FoundryNine", name := "gate", desc := "(IIIIII)I" } : Jvm.MethodName) ({ cls := "FoundryNine", name := "gate", desc := "(IIIIII)I" } : Jvm.MethodName)) ∈ lw_tbl := List.mem_of_getElem? (i := 805) (by decide +kernel)
set_option maxRecDepth 20000 in
theorem tw_765 : (Jvm.Cond.code ({ cls := "FoundryNine", name := "gate", desc := "(IIIIII)I" } : Jvm.MethodName) prog_1_method_3_code (9 : Nat) (Option.some Jvm.ClassFile.FieldType.int)) ∈ lw_tbl := in_t4 (List.mem_of_getElem? (i := 45) rfl)
theorem tw_766 : (Jvm.Cond.stringRef "FoundryNine" (62 : Nat) "no such kind") ∈ lw_tbl := List.mem_of_getElem? (i := 807) (by decide +kernel)
theorem tw_767 : (Jvm.Cond.methodLink "FoundryNineLaw$Bench" (95 : Nat) ({ cls := "FoundryNineLaw$Bench", name := "draw", desc := "(I)I" } : Jvm.MethodName)) ∈ lw_tbl := List.mem_of_getElem? (i := 808) (by decide +kernel)
theorem tw_768 : (Jvm.Cond.methodLink "FoundryNineLaw$Bench" (98 : Nat) ({ cls := "FoundryNineLaw$Bench", name := "from", desc := "(II)I" } : Jvm.MethodName)) ∈ lw_tbl := List.mem_of_getElem? (i := 809) (by decide +kernel)
theorem tw_769 : (Jvm.Cond.privateMethod ({ cls := "FoundryNineLaw$Bench", name := "from", desc := "(II)I" } : Jvm.MethodName)) ∈ lw_tbl := List.mem_of_getElem? (i := 810) (by decide +kernel)
theorem tw_770 : (Jvm.Cond.instanceMethod ({ cls := "FoundryNineLaw$Bench", name := "from", desc := "(II)I" } : Jvm.MethodName)) ∈ lw_tbl := List.mem_of_getElem? (i := 811) (by decide +kernel)
set_option maxRecDepth 20000 in
theorem tw_771 : (Jvm.Cond.code ({ cls := "FoundryNineLaw$Bench", name := "from", desc := "(II)I" } : Jvm.MethodName) prog_7_method_8_code (3 : Nat) (Option.some Jvm.ClassFile.FieldType.int)) ∈ lw_tbl := in_t4 (List.mem_of_getElem? (i := 51) rfl)
theorem tw_772 : (Jvm.Cond.methodLink "FoundryNineLaw" (30 : Nat) ({ cls := "FoundryNineLaw$Bench", name := "isGate", desc := "(I)Z" } : Jvm.MethodName)) ∈ lw_tbl := List.mem_of_getElem? (i := 813) (by decide +kernel)
theorem tw_773 : (Jvm.Cond.instanceMethod ({ cls := "FoundryNineLaw$Bench", name := "isGate", desc := "(I)Z" } : Jvm.MethodName)) ∈ lw_tbl := List.mem_of_getElem? (i := 814) (by decide +kernel)
theorem tw_774 : (Jvm.Cond.selects "FoundryNineLaw$Bench" ({ cls := "FoundryNineLaw$Bench", name := "isGate", desc := "(I)Z" } : Jvm.MethodName) ({ cls := "FoundryNineLaw$Bench", name := "isGate", desc := "(I)Z" } : Jvm.MethodName)) ∈ lw_tbl := List.mem_of_getElem? (i := 815) (by decide +kernel)
set_option maxRecDepth 20000 in
theorem tw_775 : (Jvm.Cond.code ({ cls := "FoundryNineLaw$Bench", name := "isGate", desc := "(I)Z" } : Jvm.MethodName) prog_7_method_9_code (2 : Nat) (Option.some Jvm.ClassFile.FieldType.boolean)) ∈ lw_tbl := in_t4 (List.mem_of_getElem? (i := 55) rfl)
theorem tw_776 : (Jvm.Cond.methodLink "FoundryNineLaw" (58 : Nat) ({ cls := "FoundryNineLaw$Bench", name := "uses", desc := "(II)Z" } : Jvm.MethodName)) ∈ lw_tbl := List.mem_of_getElem? (i := 817) (by decide +kernel)
theorem tw_777 : (Jvm.Cond.instanceMethod ({ cls := "FoundryNineLaw$Bench", name := "uses", desc := "(II)Z" } : Jvm.MethodName)) ∈ lw_tbl := List.mem_of_getElem? (i := 818) (by decide +kernel)
theorem tw_778 : (Jvm.Cond.selects "FoundryNineLaw$Bench" ({ cls := "FoundryNineLaw$Bench", name := "uses", desc := "(II)Z" } : Jvm.MethodName) ({ cls := "FoundryNineLaw$Bench", name := "uses", desc := "(II)Z" } : Jvm.MethodName)) ∈ lw_tbl := List.mem_of_getElem? (i := 819) (by decide +kernel)
set_option maxRecDepth 20000 in
theorem tw_779 : (Jvm.Cond.code ({ cls := "FoundryNineLaw$Bench", name := "uses", desc := "(II)Z" } : Jvm.MethodName) prog_7_method_10_code (3 : Nat) (Option.some Jvm.ClassFile.FieldType.boolean)) ∈ lw_tbl := in_t4 (List.mem_of_getElem? (i := 59) rfl)
theorem tw_780 : (Jvm.Cond.methodLink "FoundryNineLaw" (26 : Nat) ({ cls := "FoundryNineLaw$Bench", name := "driver", desc := "(I)I" } : Jvm.MethodName)) ∈ lw_tbl := List.mem_of_getElem? (i := 821) (by decide +kernel)
theorem tw_781 : (Jvm.Cond.instanceMethod ({ cls := "FoundryNineLaw$Bench", name := "driver", desc := "(I)I" } : Jvm.MethodName)) ∈ lw_tbl := List.mem_of_getElem? (i := 822) (by decide +kernel)
theorem tw_782 : (Jvm.Cond.selects "FoundryNineLaw$Bench" ({ cls := "FoundryNineLaw$Bench", name := "driver", desc := "(I)I" } : Jvm.MethodName) ({ cls := "FoundryNineLaw$Bench", name := "driver", desc := "(I)I" } : Jvm.MethodName)) ∈ lw_tbl := List.mem_of_getElem? (i := 823) (by decide +kernel)
set_option maxRecDepth 20000 in
theorem tw_783 : (Jvm.Cond.code ({ cls := "FoundryNineLaw$Bench", name := "driver", desc := "(I)I" } : Jvm.MethodName) prog_7_method_11_code (4 : Nat) (Option.some Jvm.ClassFile.FieldType.int)) ∈ lw_tbl := in_t4 (List.mem_of_getElem? (i := 63) rfl)
theorem tw_784 : (Jvm.Cond.methodLink "FoundryNineLaw" (22 : Nat) ({ cls := "FoundryNineLaw$Bench", name := "start", desc := "()Z" } : Jvm.MethodName)) ∈ lw_tbl := List.mem_of_getElem? (i := 825) (by decide +kernel)
theorem tw_785 : (Jvm.Cond.instanceMethod ({ cls := "FoundryNineLaw$Bench", name := "start", desc := "()Z" } : Jvm.MethodName)) ∈ lw_tbl := List.mem_of_getElem? (i := 826) (by decide +kernel)
theorem tw_786 : (Jvm.Cond.selects "FoundryNineLaw$Bench" ({ cls := "FoundryNineLaw$Bench", name := "start", desc := "()Z" } : Jvm.MethodName) ({ cls := "FoundryNineLaw$Bench", name := "start", desc := "()Z" } : Jvm.MethodName)) ∈ lw_tbl := List.mem_of_getElem? (i := 827) (by decide +kernel)
set_option maxRecDepth 20000 in
theorem tw_787 : (Jvm.Cond.codeWith ({ cls := "FoundryNineLaw$Bench", name := "start", desc := "()Z" } : Jvm.MethodName) prog_7_method_31_code (2 : Nat) (Option.some Jvm.ClassFile.FieldType.boolean) [((0 : Nat), (28 : Nat), (29 : Nat), (179 : Nat))]) ∈ lw_tbl := in_t4 (List.mem_of_getElem? (i := 67) rfl)
theorem tw_788 : (Jvm.Cond.classLink "FoundryNineLaw$Bench" (179 : Nat) "java/lang/IllegalStateException") ∈ lw_tbl := List.mem_of_getElem? (i := 829) (by decide +kernel)
theorem tw_789 : (Jvm.Cond.methodLink "FoundryNineLaw$Bench" (168 : Nat) ({ cls := "FoundryNine", name := "start", desc := "()I" } : Jvm.MethodName)) ∈ lw_tbl := List.mem_of_getElem? (i := 830) (by decide +kernel)
theorem tw_790 : (Jvm.Cond.instanceMethod ({ cls := "FoundryNine", name := "start", desc := "()I" } : Jvm.MethodName)) ∈ lw_tbl := List.mem_of_getElem? (i := 831) (by decide +kernel)
theorem tw_791 : (Jvm.Cond.selects "FoundryNine" ({ cls := "FoundryNine", name := "start", desc := "()I" } : Jvm.MethodName) ({ cls := "FoundryNine", name := "start", desc := "()I" } : Jvm.MethodName)) ∈ lw_tbl := List.mem_of_getElem? (i := 832) (by decide +kernel)
set_option maxRecDepth 20000 in
theorem tw_792 : (Jvm.Cond.code ({ cls := "FoundryNine", name := "start", desc := "()I" } : Jvm.MethodName) prog_1_method_14_code (1 : Nat) (Option.some Jvm.ClassFile.FieldType.int)) ∈ lw_tbl := in_t4 (List.mem_of_getElem? (i := 72) rfl)
theorem tw_793 : (Jvm.Cond.stringRef "FoundryNine" (148 : Nat) "there are flaws") ∈ lw_tbl := List.mem_of_getElem? (i := 834) (by decide +kernel)
theorem tw_794 : (Jvm.Cond.methodLink "FoundryNine" (151 : Nat) ({ cls := "FoundryNine$Run", name := "begin", desc := "()V" } : Jvm.MethodName)) ∈ lw_tbl := List.mem_of_getElem? (i := 835) (by decide +kernel)
theorem tw_795 : (Jvm.Cond.instanceMethod ({ cls := "FoundryNine$Run", name := "begin", desc := "()V" } : Jvm.MethodName)) ∈ lw_tbl := List.mem_of_getElem? (i := 836) (by decide +kernel)
theorem tw_796 : (Jvm.Cond.selects "FoundryNine$Run" ({ cls := "FoundryNine$Run", name := "begin", desc := "()V" } : Jvm.MethodName) ({ cls := "FoundryNine$Run", name := "begin", desc := "()V" } : Jvm.MethodName)) ∈ lw_tbl := List.mem_of_getElem? (i := 837) (by decide +kernel)
set_option maxRecDepth 20000 in
theorem tw_797 : (Jvm.Cond.code ({ cls := "FoundryNine$Run", name := "begin", desc := "()V" } : Jvm.MethodName) prog_5_method_4_code (2 : Nat) (Option.none : Option Jvm.ClassFile.FieldType)) ∈ lw_tbl := in_t4 (List.mem_of_getElem? (i := 77) rfl)
theorem tw_798 : (Jvm.Cond.methodLink "FoundryNineLaw$Bench" (172 : Nat) ({ cls := "FoundryNineLaw$Bench", name := "mayRun", desc := "()Z" } : Jvm.MethodName)) ∈ lw_tbl := List.mem_of_getElem? (i := 839) (by decide +kernel)
theorem tw_799 : (Jvm.Cond.instanceMethod ({ cls := "FoundryNineLaw$Bench", name := "mayRun", desc := "()Z" } : Jvm.MethodName)) ∈ lw_tbl := List.mem_of_getElem? (i := 840) (by decide +kernel)
theorem tw_800 : (Jvm.Cond.selects "FoundryNineLaw$Bench" ({ cls := "FoundryNineLaw$Bench", name := "mayRun", desc := "()Z" } : Jvm.MethodName) ({ cls := "FoundryNineLaw$Bench", name := "mayRun", desc := "()Z" } : Jvm.MethodName)) ∈ lw_tbl := List.mem_of_getElem? (i := 841) (by decide +kernel)
set_option maxRecDepth 20000 in
theorem tw_801 : (Jvm.Cond.code ({ cls := "FoundryNineLaw$Bench", name := "mayRun", desc := "()Z" } : Jvm.MethodName) prog_7_method_16_code (2 : Nat) (Option.some Jvm.ClassFile.FieldType.boolean)) ∈ lw_tbl := in_t4 (List.mem_of_getElem? (i := 81) rfl)
theorem tw_802 : (Jvm.Cond.methodLink "FoundryNineLaw$Bench" (119 : Nat) ({ cls := "FoundryNineLaw$Bench", name := "flaws", desc := "()[I" } : Jvm.MethodName)) ∈ lw_tbl := List.mem_of_getElem? (i := 843) (by decide +kernel)
theorem tw_803 : (Jvm.Cond.instanceMethod ({ cls := "FoundryNineLaw$Bench", name := "flaws", desc := "()[I" } : Jvm.MethodName)) ∈ lw_tbl := List.mem_of_getElem? (i := 844) (by decide +kernel)
theorem tw_804 : (Jvm.Cond.selects "FoundryNineLaw$Bench" ({ cls := "FoundryNineLaw$Bench", name := "flaws", desc := "()[I" } : Jvm.MethodName) ({ cls := "FoundryNineLaw$Bench", name := "flaws", desc := "()[I" } : Jvm.MethodName)) ∈ lw_tbl := List.mem_of_getElem? (i := 845) (by decide +kernel)
set_option maxRecDepth 20000 in
theorem tw_805 : (Jvm.Cond.code ({ cls := "FoundryNineLaw$Bench", name := "flaws", desc := "()[I" } : Jvm.MethodName) prog_7_method_15_code (6 : Nat) (Option.some (Jvm.ClassFile.FieldType.array Jvm.ClassFile.FieldType.int))) ∈ lw_tbl := in_t4 (List.mem_of_getElem? (i := 85) rfl)
theorem tw_806 : (Jvm.Cond.methodLink "FoundryNineLaw$Bench" (113 : Nat) ({ cls := "FoundryNineLaw$Bench", name := "users", desc := "(I)I" } : Jvm.MethodName)) ∈ lw_tbl := List.mem_of_getElem? (i := 847) (by decide +kernel)
theorem tw_807 : (Jvm.Cond.instanceMethod ({ cls := "FoundryNineLaw$Bench", name := "users", desc := "(I)I" } : Jvm.MethodName)) ∈ lw_tbl := List.mem_of_getElem? (i := 848) (by decide +kernel)
theorem tw_808 : (Jvm.Cond.selects "FoundryNineLaw$Bench" ({ cls := "FoundryNineLaw$Bench", name := "users", desc := "(I)I" } : Jvm.MethodName) ({ cls := "FoundryNineLaw$Bench", name := "users", desc := "(I)I" } : Jvm.MethodName)) ∈ lw_tbl := List.mem_of_getElem? (i := 849) (by decide +kernel)
set_option maxRecDepth 20000 in
theorem tw_809 : (Jvm.Cond.code ({ cls := "FoundryNineLaw$Bench", name := "users", desc := "(I)I" } : Jvm.MethodName) prog_7_method_12_code (4 : Nat) (Option.some Jvm.ClassFile.FieldType.int)) ∈ lw_tbl := in_t4 (List.mem_of_getElem? (i := 89) rfl)
theorem tw_810 : (Jvm.Cond.methodLink "FoundryNineLaw$Bench" (101 : Nat) ({ cls := "FoundryNineLaw$Bench", name := "uses", desc := "(II)Z" } : Jvm.MethodName)) ∈ lw_tbl := List.mem_of_getElem? (i := 851) (by decide +kernel)
theorem tw_811 : (Jvm.Cond.methodLink "FoundryNineLaw$Bench" (105 : Nat) ({ cls := "FoundryNineLaw$Bench", name := "isGate", desc := "(I)Z" } : Jvm.MethodName)) ∈ lw_tbl := List.mem_of_getElem? (i := 852) (by decide +kernel)
theorem tw_812 : (Jvm.Cond.methodLink "FoundryNineLaw$Bench" (116 : Nat) ({ cls := "FoundryNineLaw$Bench", name := "isRing", desc := "(I)Z" } : Jvm.MethodName)) ∈ lw_tbl := List.mem_of_getElem? (i := 853) (by decide +kernel)
theorem tw_813 : (Jvm.Cond.instanceMethod ({ cls := "FoundryNineLaw$Bench", name := "isRing", desc := "(I)Z" } : Jvm.MethodName)) ∈ lw_tbl := List.mem_of_getElem? (i := 854) (by decide +kernel)
theorem tw_814 : (Jvm.Cond.selects "FoundryNineLaw$Bench" ({ cls := "FoundryNineLaw$Bench", name := "isRing", desc := "(I)Z" } : Jvm.MethodName) ({ cls := "FoundryNineLaw$Bench", name := "isRing", desc := "(I)Z" } : Jvm.MethodName)) ∈ lw_tbl := List.mem_of_getElem? (i := 855) (by decide +kernel)
set_option maxRecDepth 20000 in
theorem tw_815 : (Jvm.Cond.code ({ cls := "FoundryNineLaw$Bench", name := "isRing", desc := "(I)Z" } : Jvm.MethodName) prog_7_method_14_code (3 : Nat) (Option.some Jvm.ClassFile.FieldType.boolean)) ∈ lw_tbl := in_t4 (List.mem_of_getElem? (i := 95) rfl)
theorem tw_816 : (Jvm.Cond.methodLink "FoundryNineLaw$Bench" (109 : Nat) ({ cls := "FoundryNineLaw$Bench", name := "leads", desc := "(II[Z)Z" } : Jvm.MethodName)) ∈ lw_tbl := List.mem_of_getElem? (i := 857) (by decide +kernel)
theorem tw_817 : (Jvm.Cond.privateMethod ({ cls := "FoundryNineLaw$Bench", name := "leads", desc := "(II[Z)Z" } : Jvm.MethodName)) ∈ lw_tbl := List.mem_of_getElem? (i := 858) (by decide +kernel)
theorem tw_818 : (Jvm.Cond.instanceMethod ({ cls := "FoundryNineLaw$Bench", name := "leads", desc := "(II[Z)Z" } : Jvm.MethodName)) ∈ lw_tbl := List.mem_of_getElem? (i := 859) (by decide +kernel)
set_option maxRecDepth 20000 in
theorem tw_819 : (Jvm.Cond.code ({ cls := "FoundryNineLaw$Bench", name := "leads", desc := "(II[Z)Z" } : Jvm.MethodName) prog_7_method_13_code (5 : Nat) (Option.some Jvm.ClassFile.FieldType.boolean)) ∈ lw_tbl := in_t4 (List.mem_of_getElem? (i := 99) rfl)
theorem tw_820 : (Jvm.Cond.methodLink "FoundryNineLaw$Bench" (54 : Nat) ({ cls := "java/lang/System", name := "arraycopy", desc := "(Ljava/lang/Object;ILjava/lang/Object;II)V" } : Jvm.MethodName)) ∈ lw_tbl := List.mem_of_getElem? (i := 861) (by decide +kernel)
theorem tw_821 : (Jvm.Cond.methodLink "FoundryNineLaw$Bench" (176 : Nat) ({ cls := "FoundryNineLaw$Bench", name := "started", desc := "()I" } : Jvm.MethodName)) ∈ lw_tbl := List.mem_of_getElem? (i := 862) (by decide +kernel)
theorem tw_822 : (Jvm.Cond.instanceMethod ({ cls := "FoundryNineLaw$Bench", name := "started", desc := "()I" } : Jvm.MethodName)) ∈ lw_tbl := List.mem_of_getElem? (i := 863) (by decide +kernel)
theorem tw_823 : (Jvm.Cond.selects "FoundryNineLaw$Bench" ({ cls := "FoundryNineLaw$Bench", name := "started", desc := "()I" } : Jvm.MethodName) ({ cls := "FoundryNineLaw$Bench", name := "started", desc := "()I" } : Jvm.MethodName)) ∈ lw_tbl := List.mem_of_getElem? (i := 864) (by decide +kernel)
set_option maxRecDepth 20000 in
theorem tw_824 : (Jvm.Cond.code ({ cls := "FoundryNineLaw$Bench", name := "started", desc := "()I" } : Jvm.MethodName) prog_7_method_29_code (2 : Nat) (Option.some Jvm.ClassFile.FieldType.int)) ∈ lw_tbl := in_t4 (List.mem_of_getElem? (i := 104) rfl)
theorem tw_825 : (Jvm.Cond.methodLink "FoundryNineLaw$Bench" (158 : Nat) ({ cls := "FoundryNineLaw$Bench", name := "change", desc := "(II)V" } : Jvm.MethodName)) ∈ lw_tbl := List.mem_of_getElem? (i := 866) (by decide +kernel)
theorem tw_826 : (Jvm.Cond.privateMethod ({ cls := "FoundryNineLaw$Bench", name := "change", desc := "(II)V" } : Jvm.MethodName)) ∈ lw_tbl := List.mem_of_getElem? (i := 867) (by decide +kernel)
theorem tw_827 : (Jvm.Cond.instanceMethod ({ cls := "FoundryNineLaw$Bench", name := "change", desc := "(II)V" } : Jvm.MethodName)) ∈ lw_tbl := List.mem_of_getElem? (i := 868) (by decide +kernel)
set_option maxRecDepth 20000 in
theorem tw_828 : (Jvm.Cond.code ({ cls := "FoundryNineLaw$Bench", name := "change", desc := "(II)V" } : Jvm.MethodName) prog_7_method_24_code (5 : Nat) (Option.none : Option Jvm.ClassFile.FieldType)) ∈ lw_tbl := in_t4 (List.mem_of_getElem? (i := 108) rfl)
theorem tw_829 : (Jvm.Cond.methodLink "FoundryNineLaw$Bench" (137 : Nat) ({ cls := "FoundryNineLaw$Bench", name := "ask", desc := "(III)V" } : Jvm.MethodName)) ∈ lw_tbl := List.mem_of_getElem? (i := 870) (by decide +kernel)
theorem tw_830 : (Jvm.Cond.privateMethod ({ cls := "FoundryNineLaw$Bench", name := "ask", desc := "(III)V" } : Jvm.MethodName)) ∈ lw_tbl := List.mem_of_getElem? (i := 871) (by decide +kernel)
theorem tw_831 : (Jvm.Cond.instanceMethod ({ cls := "FoundryNineLaw$Bench", name := "ask", desc := "(III)V" } : Jvm.MethodName)) ∈ lw_tbl := List.mem_of_getElem? (i := 872) (by decide +kernel)
set_option maxRecDepth 20000 in
theorem tw_832 : (Jvm.Cond.code ({ cls := "FoundryNineLaw$Bench", name := "ask", desc := "(III)V" } : Jvm.MethodName) prog_7_method_25_code (7 : Nat) (Option.none : Option Jvm.ClassFile.FieldType)) ∈ lw_tbl := in_t4 (List.mem_of_getElem? (i := 112) rfl)
theorem tw_833 : (Jvm.Cond.methodLink "FoundryNineLaw$Bench" (141 : Nat) ({ cls := "FoundryNineLaw$Bench", name := "reckon", desc := "(I)I" } : Jvm.MethodName)) ∈ lw_tbl := List.mem_of_getElem? (i := 874) (by decide +kernel)
theorem tw_834 : (Jvm.Cond.privateMethod ({ cls := "FoundryNineLaw$Bench", name := "reckon", desc := "(I)I" } : Jvm.MethodName)) ∈ lw_tbl := List.mem_of_getElem? (i := 875) (by decide +kernel)
theorem tw_835 : (Jvm.Cond.instanceMethod ({ cls := "FoundryNineLaw$Bench", name := "reckon", desc := "(I)I" } : Jvm.MethodName)) ∈ lw_tbl := List.mem_of_getElem? (i := 876) (by decide +kernel)
set_option maxRecDepth 20000 in
theorem tw_836 : (Jvm.Cond.code ({ cls := "FoundryNineLaw$Bench", name := "reckon", desc := "(I)I" } : Jvm.MethodName) prog_7_method_19_code (7 : Nat) (Option.some Jvm.ClassFile.FieldType.int)) ∈ lw_tbl := in_t4 (List.mem_of_getElem? (i := 116) rfl)
theorem tw_837 : (Jvm.Cond.methodLink "FoundryNineLaw$Bench" (126 : Nat) ({ cls := "FoundryNineLaw$Bench", name := "value", desc := "(I)I" } : Jvm.MethodName)) ∈ lw_tbl := List.mem_of_getElem? (i := 878) (by decide +kernel)
theorem tw_838 : (Jvm.Cond.instanceMethod ({ cls := "FoundryNineLaw$Bench", name := "value", desc := "(I)I" } : Jvm.MethodName)) ∈ lw_tbl := List.mem_of_getElem? (i := 879) (by decide +kernel)
theorem tw_839 : (Jvm.Cond.selects "FoundryNineLaw$Bench" ({ cls := "FoundryNineLaw$Bench", name := "value", desc := "(I)I" } : Jvm.MethodName) ({ cls := "FoundryNineLaw$Bench", name := "value", desc := "(I)I" } : Jvm.MethodName)) ∈ lw_tbl := List.mem_of_getElem? (i := 880) (by decide +kernel)
set_option maxRecDepth 20000 in
theorem tw_840 : (Jvm.Cond.code ({ cls := "FoundryNineLaw$Bench", name := "value", desc := "(I)I" } : Jvm.MethodName) prog_7_method_18_code (2 : Nat) (Option.some Jvm.ClassFile.FieldType.int)) ∈ lw_tbl := in_t4 (List.mem_of_getElem? (i := 120) rfl)
theorem tw_841 : (Jvm.Cond.methodLink "FoundryNineLaw$Bench" (144 : Nat) ({ cls := "FoundryNineLaw$Bench", name := "pendingOf", desc := "(I)I" } : Jvm.MethodName)) ∈ lw_tbl := List.mem_of_getElem? (i := 882) (by decide +kernel)
theorem tw_842 : (Jvm.Cond.instanceMethod ({ cls := "FoundryNineLaw$Bench", name := "pendingOf", desc := "(I)I" } : Jvm.MethodName)) ∈ lw_tbl := List.mem_of_getElem? (i := 883) (by decide +kernel)
theorem tw_843 : (Jvm.Cond.selects "FoundryNineLaw$Bench" ({ cls := "FoundryNineLaw$Bench", name := "pendingOf", desc := "(I)I" } : Jvm.MethodName) ({ cls := "FoundryNineLaw$Bench", name := "pendingOf", desc := "(I)I" } : Jvm.MethodName)) ∈ lw_tbl := List.mem_of_getElem? (i := 884) (by decide +kernel)
set_option maxRecDepth 20000 in
theorem tw_844 : (Jvm.Cond.code ({ cls := "FoundryNineLaw$Bench", name := "pendingOf", desc := "(I)I" } : Jvm.MethodName) prog_7_method_20_code (6 : Nat) (Option.some Jvm.ClassFile.FieldType.int)) ∈ lw_tbl := in_t4 (List.mem_of_getElem? (i := 124) rfl)
theorem tw_845 : (Jvm.Cond.methodLink "FoundryNineLaw$Bench" (147 : Nat) ({ cls := "FoundryNineLaw$Bench", name := "drop", desc := "(I)V" } : Jvm.MethodName)) ∈ lw_tbl := List.mem_of_getElem? (i := 886) (by decide +kernel)
theorem tw_846 : (Jvm.Cond.privateMethod ({ cls := "FoundryNineLaw$Bench", name := "drop", desc := "(I)V" } : Jvm.MethodName)) ∈ lw_tbl := List.mem_of_getElem? (i := 887) (by decide +kernel)
theorem tw_847 : (Jvm.Cond.instanceMethod ({ cls := "FoundryNineLaw$Bench", name := "drop", desc := "(I)V" } : Jvm.MethodName)) ∈ lw_tbl := List.mem_of_getElem? (i := 888) (by decide +kernel)
set_option maxRecDepth 20000 in
theorem tw_848 : (Jvm.Cond.code ({ cls := "FoundryNineLaw$Bench", name := "drop", desc := "(I)V" } : Jvm.MethodName) prog_7_method_21_code (3 : Nat) (Option.none : Option Jvm.ClassFile.FieldType)) ∈ lw_tbl := in_t4 (List.mem_of_getElem? (i := 128) rfl)
theorem tw_849 : (Jvm.Cond.methodLink "FoundryNineLaw$Bench" (129 : Nat) ({ cls := "FoundryNineLaw$Bench", name := "without", desc := "([[II)[[I" } : Jvm.MethodName)) ∈ lw_tbl := List.mem_of_getElem? (i := 890) (by decide +kernel)
theorem tw_850 : (Jvm.Cond.static ({ cls := "FoundryNineLaw$Bench", name := "without", desc := "([[II)[[I" } : Jvm.MethodName)) ∈ lw_tbl := List.mem_of_getElem? (i := 891) (by decide +kernel)
set_option maxRecDepth 20000 in
theorem tw_851 : (Jvm.Cond.code ({ cls := "FoundryNineLaw$Bench", name := "without", desc := "([[II)[[I" } : Jvm.MethodName) prog_7_method_4_code (3 : Nat) (Option.some (Jvm.ClassFile.FieldType.array (Jvm.ClassFile.FieldType.array Jvm.ClassFile.FieldType.int)))) ∈ lw_tbl := in_t4 (List.mem_of_getElem? (i := 131) rfl)
theorem tw_852 : (Jvm.Cond.methodLink "FoundryNineLaw$Bench" (151 : Nat) ({ cls := "FoundryNineLaw$Bench", name := "pend", desc := "(II)V" } : Jvm.MethodName)) ∈ lw_tbl := List.mem_of_getElem? (i := 893) (by decide +kernel)
theorem tw_853 : (Jvm.Cond.privateMethod ({ cls := "FoundryNineLaw$Bench", name := "pend", desc := "(II)V" } : Jvm.MethodName)) ∈ lw_tbl := List.mem_of_getElem? (i := 894) (by decide +kernel)
theorem tw_854 : (Jvm.Cond.instanceMethod ({ cls := "FoundryNineLaw$Bench", name := "pend", desc := "(II)V" } : Jvm.MethodName)) ∈ lw_tbl := List.mem_of_getElem? (i := 895) (by decide +kernel)
set_option maxRecDepth 20000 in
theorem tw_855 : (Jvm.Cond.code ({ cls := "FoundryNineLaw$Bench", name := "pend", desc := "(II)V" } : Jvm.MethodName) prog_7_method_22_code (5 : Nat) (Option.none : Option Jvm.ClassFile.FieldType)) ∈ lw_tbl := in_t4 (List.mem_of_getElem? (i := 135) rfl)
theorem tw_856 : (Jvm.Cond.methodLink "FoundryNineLaw$Bench" (133 : Nat) ({ cls := "FoundryNineLaw$Bench", name := "with", desc := "([[II[I)[[I" } : Jvm.MethodName)) ∈ lw_tbl := List.mem_of_getElem? (i := 897) (by decide +kernel)
theorem tw_857 : (Jvm.Cond.static ({ cls := "FoundryNineLaw$Bench", name := "with", desc := "([[II[I)[[I" } : Jvm.MethodName)) ∈ lw_tbl := List.mem_of_getElem? (i := 898) (by decide +kernel)
set_option maxRecDepth 20000 in
theorem tw_858 : (Jvm.Cond.code ({ cls := "FoundryNineLaw$Bench", name := "with", desc := "([[II[I)[[I" } : Jvm.MethodName) prog_7_method_3_code (4 : Nat) (Option.some (Jvm.ClassFile.FieldType.array (Jvm.ClassFile.FieldType.array Jvm.ClassFile.FieldType.int)))) ∈ lw_tbl := in_t4 (List.mem_of_getElem? (i := 138) rfl)
theorem tw_859 : (Jvm.Cond.methodLink "FoundryNineLaw$Bench" (155 : Nat) ({ cls := "FoundryNineLaw$Bench", name := "note", desc := "(II)V" } : Jvm.MethodName)) ∈ lw_tbl := List.mem_of_getElem? (i := 900) (by decide +kernel)
theorem tw_860 : (Jvm.Cond.privateMethod ({ cls := "FoundryNineLaw$Bench", name := "note", desc := "(II)V" } : Jvm.MethodName)) ∈ lw_tbl := List.mem_of_getElem? (i := 901) (by decide +kernel)
theorem tw_861 : (Jvm.Cond.instanceMethod ({ cls := "FoundryNineLaw$Bench", name := "note", desc := "(II)V" } : Jvm.MethodName)) ∈ lw_tbl := List.mem_of_getElem? (i := 902) (by decide +kernel)
set_option maxRecDepth 20000 in
theorem tw_862 : (Jvm.Cond.code ({ cls := "FoundryNineLaw$Bench", name := "note", desc := "(II)V" } : Jvm.MethodName) prog_7_method_23_code (4 : Nat) (Option.none : Option Jvm.ClassFile.FieldType)) ∈ lw_tbl := in_t4 (List.mem_of_getElem? (i := 142) rfl)
theorem tw_863 : (Jvm.Cond.methodLink "FoundryNineLaw" (42 : Nat) ({ cls := "java/lang/Math", name := "max", desc := "(II)I" } : Jvm.MethodName)) ∈ lw_tbl := List.mem_of_getElem? (i := 904) (by decide +kernel)
theorem tw_864 : (Jvm.Cond.sameMethod "java/lang/Throwable" "java/lang/Throwable" "fillInStackTrace" "(I)Ljava/lang/Throwable;") ∈ lw_tbl := List.mem_of_getElem? (i := 905) (by decide +kernel)
theorem ts_0 : Cond.selects "java/lang/Throwable" ⟨"java/lang/Throwable", "fillInStackTrace", "(I)Ljava/lang/Throwable;"⟩ ⟨"java/lang/Throwable", "fillInStackTrace", "(I)Ljava/lang/Throwable;"⟩ ∈ lw_tbl := List.mem_of_getElem? (i := 0) (by decide +kernel)
theorem ts_1 : Cond.selects "FoundryNine$Arrivals" ⟨"FoundryNine$Arrivals", "arrivalOf", "(I)I"⟩ ⟨"FoundryNine$Arrivals", "arrivalOf", "(I)I"⟩ ∈ lw_tbl := List.mem_of_getElem? (i := 1) (by decide +kernel)
theorem ts_2 : Cond.selects "FoundryNine" ⟨"FoundryNine", "checkRunning", "()V"⟩ ⟨"FoundryNine", "checkRunning", "()V"⟩ ∈ lw_tbl := List.mem_of_getElem? (i := 2) (by decide +kernel)
theorem ts_3 : Cond.selects "FoundryNine" ⟨"FoundryNine", "checkSetting", "(II)V"⟩ ⟨"FoundryNine", "checkSetting", "(II)V"⟩ ∈ lw_tbl := List.mem_of_getElem? (i := 3) (by decide +kernel)
theorem ts_4 : Cond.selects "FoundryNine$Run" ⟨"FoundryNine$Run", "beginCounting", "()V"⟩ ⟨"FoundryNine$Run", "beginCounting", "()V"⟩ ∈ lw_tbl := List.mem_of_getElem? (i := 4) (by decide +kernel)
theorem ts_5 : Cond.selects "FoundryNine$Run" ⟨"FoundryNine$Run", "change", "(II)V"⟩ ⟨"FoundryNine$Run", "change", "(II)V"⟩ ∈ lw_tbl := List.mem_of_getElem? (i := 5) (by decide +kernel)
theorem ts_6 : Cond.selects "FoundryNine$Run" ⟨"FoundryNine$Run", "askRegister", "(III)V"⟩ ⟨"FoundryNine$Run", "askRegister", "(III)V"⟩ ∈ lw_tbl := List.mem_of_getElem? (i := 6) (by decide +kernel)
theorem ts_7 : Cond.selects "FoundryNine$Run" ⟨"FoundryNine$Run", "valueOf", "(I)I"⟩ ⟨"FoundryNine$Run", "valueOf", "(I)I"⟩ ∈ lw_tbl := List.mem_of_getElem? (i := 7) (by decide +kernel)
theorem ts_8 : Cond.selects "FoundryNine$Run" ⟨"FoundryNine$Run", "makePending", "(II)V"⟩ ⟨"FoundryNine$Run", "makePending", "(II)V"⟩ ∈ lw_tbl := List.mem_of_getElem? (i := 8) (by decide +kernel)
theorem ts_9 : Cond.selects "FoundryNine$Run" ⟨"FoundryNine$Run", "rise", "(I)V"⟩ ⟨"FoundryNine$Run", "rise", "(I)V"⟩ ∈ lw_tbl := List.mem_of_getElem? (i := 9) (by decide +kernel)
theorem ts_10 : Cond.selects "FoundryNine$Run" ⟨"FoundryNine$Run", "isRecent", "(II)Z"⟩ ⟨"FoundryNine$Run", "isRecent", "(II)Z"⟩ ∈ lw_tbl := List.mem_of_getElem? (i := 10) (by decide +kernel)
theorem ts_11 : Cond.selects "FoundryNine$Run" ⟨"FoundryNine$Run", "noteHazard", "(II)V"⟩ ⟨"FoundryNine$Run", "noteHazard", "(II)V"⟩ ∈ lw_tbl := List.mem_of_getElem? (i := 11) (by decide +kernel)
theorem ts_12 : Cond.selects "FoundryNine$Run" ⟨"FoundryNine$Run", "askGate", "(I)V"⟩ ⟨"FoundryNine$Run", "askGate", "(I)V"⟩ ∈ lw_tbl := List.mem_of_getElem? (i := 12) (by decide +kernel)
theorem ts_13 : Cond.selects "FoundryNine$Run" ⟨"FoundryNine$Run", "nextLine", "(I)I"⟩ ⟨"FoundryNine$Run", "nextLine", "(I)I"⟩ ∈ lw_tbl := List.mem_of_getElem? (i := 13) (by decide +kernel)
theorem ts_14 : Cond.selects "FoundryNine$Run" ⟨"FoundryNine$Run", "comesAheadOf", "(II)Z"⟩ ⟨"FoundryNine$Run", "comesAheadOf", "(II)Z"⟩ ∈ lw_tbl := List.mem_of_getElem? (i := 14) (by decide +kernel)
theorem ts_15 : Cond.selects "FoundryNine$Run" ⟨"FoundryNine$Run", "giveUpAll", "()V"⟩ ⟨"FoundryNine$Run", "giveUpAll", "()V"⟩ ∈ lw_tbl := List.mem_of_getElem? (i := 15) (by decide +kernel)
theorem ts_16 : Cond.selects "FoundryNine$Run" ⟨"FoundryNine$Run", "noteHazardsOfGates", "()V"⟩ ⟨"FoundryNine$Run", "noteHazardsOfGates", "()V"⟩ ∈ lw_tbl := List.mem_of_getElem? (i := 16) (by decide +kernel)
theorem ts_17 : Cond.selects "FoundryNine" ⟨"FoundryNine", "checkLine", "(I)V"⟩ ⟨"FoundryNine", "checkLine", "(I)V"⟩ ∈ lw_tbl := List.mem_of_getElem? (i := 17) (by decide +kernel)
theorem ts_18 : Cond.selects "FoundryNine" ⟨"FoundryNine", "checkHasDelay", "(I)V"⟩ ⟨"FoundryNine", "checkHasDelay", "(I)V"⟩ ∈ lw_tbl := List.mem_of_getElem? (i := 18) (by decide +kernel)
theorem ts_19 : Cond.selects "FoundryNine$Arrivals" ⟨"FoundryNine$Arrivals", "arrivalBy", "(LFoundryNine$Circuit;LFoundryNine$Flaws;II)I"⟩ ⟨"FoundryNine$Arrivals", "arrivalBy", "(LFoundryNine$Circuit;LFoundryNine$Flaws;II)I"⟩ ∈ lw_tbl := List.mem_of_getElem? (i := 19) (by decide +kernel)
theorem ts_20 : Cond.selects "FoundryNine" ⟨"FoundryNine", "digestOfTimes", "(J)J"⟩ ⟨"FoundryNine", "digestOfTimes", "(J)J"⟩ ∈ lw_tbl := List.mem_of_getElem? (i := 20) (by decide +kernel)
theorem ts_21 : Cond.selects "FoundryNine" ⟨"FoundryNine", "digestOfCircuit", "(J)J"⟩ ⟨"FoundryNine", "digestOfCircuit", "(J)J"⟩ ∈ lw_tbl := List.mem_of_getElem? (i := 21) (by decide +kernel)
theorem ts_22 : Cond.selects "FoundryNine" ⟨"FoundryNine", "digestOfWires", "(J)J"⟩ ⟨"FoundryNine", "digestOfWires", "(J)J"⟩ ∈ lw_tbl := List.mem_of_getElem? (i := 22) (by decide +kernel)
theorem ts_23 : Cond.selects "FoundryNine" ⟨"FoundryNine", "digestOfRun", "(J)J"⟩ ⟨"FoundryNine", "digestOfRun", "(J)J"⟩ ∈ lw_tbl := List.mem_of_getElem? (i := 23) (by decide +kernel)
theorem ts_24 : Cond.selects "FoundryNine$Run" ⟨"FoundryNine$Run", "clear", "()V"⟩ ⟨"FoundryNine$Run", "clear", "()V"⟩ ∈ lw_tbl := List.mem_of_getElem? (i := 24) (by decide +kernel)
theorem ts_25 : Cond.selects "FoundryNineLaw$Bench" ⟨"FoundryNineLaw$Bench", "clear", "()V"⟩ ⟨"FoundryNineLaw$Bench", "clear", "()V"⟩ ∈ lw_tbl := List.mem_of_getElem? (i := 25) (by decide +kernel)
theorem ts_26 : Cond.selects "FoundryNineLaw$Bench" ⟨"FoundryNineLaw$Bench", "put", "(IIIIII)Z"⟩ ⟨"FoundryNineLaw$Bench", "put", "(IIIIII)Z"⟩ ∈ lw_tbl := List.mem_of_getElem? (i := 26) (by decide +kernel)
theorem ts_27 : Cond.selects "FoundryNine" ⟨"FoundryNine", "checkRoom", "()V"⟩ ⟨"FoundryNine", "checkRoom", "()V"⟩ ∈ lw_tbl := List.mem_of_getElem? (i := 27) (by decide +kernel)
theorem ts_28 : Cond.selects "FoundryNine" ⟨"FoundryNine", "addLine", "(IIIIII)I"⟩ ⟨"FoundryNine", "addLine", "(IIIIII)I"⟩ ∈ lw_tbl := List.mem_of_getElem? (i := 28) (by decide +kernel)
theorem ts_29 : Cond.selects "FoundryNine$Circuit" ⟨"FoundryNine$Circuit", "noteUse", "(II)V"⟩ ⟨"FoundryNine$Circuit", "noteUse", "(II)V"⟩ ∈ lw_tbl := List.mem_of_getElem? (i := 29) (by decide +kernel)
theorem ts_30 : Cond.selects "FoundryNine$Flaws" ⟨"FoundryNine$Flaws", "note", "(II)V"⟩ ⟨"FoundryNine$Flaws", "note", "(II)V"⟩ ∈ lw_tbl := List.mem_of_getElem? (i := 30) (by decide +kernel)
theorem ts_31 : Cond.selects "FoundryNine$Flaws" ⟨"FoundryNine$Flaws", "findReach", "(LFoundryNine$Circuit;)V"⟩ ⟨"FoundryNine$Flaws", "findReach", "(LFoundryNine$Circuit;)V"⟩ ∈ lw_tbl := List.mem_of_getElem? (i := 31) (by decide +kernel)
theorem ts_32 : Cond.selects "FoundryNine$Flaws" ⟨"FoundryNine$Flaws", "reachOf", "(I)I"⟩ ⟨"FoundryNine$Flaws", "reachOf", "(I)I"⟩ ∈ lw_tbl := List.mem_of_getElem? (i := 32) (by decide +kernel)
theorem ts_33 : Cond.selects "FoundryNineLaw$Bench" ⟨"FoundryNineLaw$Bench", "from", "(II)I"⟩ ⟨"FoundryNineLaw$Bench", "from", "(II)I"⟩ ∈ lw_tbl := List.mem_of_getElem? (i := 33) (by decide +kernel)
theorem ts_34 : Cond.selects "FoundryNineLaw$Bench" ⟨"FoundryNineLaw$Bench", "leads", "(II[Z)Z"⟩ ⟨"FoundryNineLaw$Bench", "leads", "(II[Z)Z"⟩ ∈ lw_tbl := List.mem_of_getElem? (i := 34) (by decide +kernel)
theorem ts_35 : Cond.selects "FoundryNineLaw$Bench" ⟨"FoundryNineLaw$Bench", "change", "(II)V"⟩ ⟨"FoundryNineLaw$Bench", "change", "(II)V"⟩ ∈ lw_tbl := List.mem_of_getElem? (i := 35) (by decide +kernel)
theorem ts_36 : Cond.selects "FoundryNineLaw$Bench" ⟨"FoundryNineLaw$Bench", "ask", "(III)V"⟩ ⟨"FoundryNineLaw$Bench", "ask", "(III)V"⟩ ∈ lw_tbl := List.mem_of_getElem? (i := 36) (by decide +kernel)
theorem ts_37 : Cond.selects "FoundryNineLaw$Bench" ⟨"FoundryNineLaw$Bench", "reckon", "(I)I"⟩ ⟨"FoundryNineLaw$Bench", "reckon", "(I)I"⟩ ∈ lw_tbl := List.mem_of_getElem? (i := 37) (by decide +kernel)
theorem ts_38 : Cond.selects "FoundryNineLaw$Bench" ⟨"FoundryNineLaw$Bench", "drop", "(I)V"⟩ ⟨"FoundryNineLaw$Bench", "drop", "(I)V"⟩ ∈ lw_tbl := List.mem_of_getElem? (i := 38) (by decide +kernel)
theorem ts_39 : Cond.selects "FoundryNineLaw$Bench" ⟨"FoundryNineLaw$Bench", "pend", "(II)V"⟩ ⟨"FoundryNineLaw$Bench", "pend", "(II)V"⟩ ∈ lw_tbl := List.mem_of_getElem? (i := 39) (by decide +kernel)
theorem ts_40 : Cond.selects "FoundryNineLaw$Bench" ⟨"FoundryNineLaw$Bench", "note", "(II)V"⟩ ⟨"FoundryNineLaw$Bench", "note", "(II)V"⟩ ∈ lw_tbl := List.mem_of_getElem? (i := 40) (by decide +kernel)
end
section
/-! small things of the walks -/
theorem vp_lit {x : Int32} {n : Nat} (h : (!decide (x < 0) && decide (x.toNatClampNeg < n)) = true) : vp_in x n := by
  simp only [Bool.and_eq_true, Bool.not_eq_true', decide_eq_false_iff_not, decide_eq_true_eq] at h
  exact fun q => q.elim h.1 (fun q => absurd h.2 (Nat.not_lt.mpr q))
theorem aw_fewer_nil {L : List Value} : ∀ (i : Nat) (v : Value), ([] : List Value)[i]? = some v → v ≠ .null → L[i]? = some v := fun i v h => by simp at h
theorem aw_fewer_null {a b : List Value} {w : Value} (h : ∀ (i : Nat) (v : Value), a[i]? = some v → v ≠ .null → b[i]? = some v) : ∀ (i : Nat) (v : Value), (Value.null :: a)[i]? = some v → v ≠ .null → (w :: b)[i]? = some v
  | 0, v, e, hv => by simp at e; exact absurd e.symm hv
  | i + 1, v, e, hv => by simp at e ⊢; exact h i v e hv
theorem aw_fewer_same {a b : List Value} {w : Value} (h : ∀ (i : Nat) (v : Value), a[i]? = some v → v ≠ .null → b[i]? = some v) : ∀ (i : Nat) (v : Value), (w :: a)[i]? = some v → v ≠ .null → (w :: b)[i]? = some v
  | 0, v, e, hv => by simp at e ⊢; exact e
  | i + 1, v, e, hv => by simp at e ⊢; exact h i v e hv
/-- the heap has grown: more ids, the old cells aside the layout as they were -/
def exle (k : Nat) (ex : Hp) (k2 : Nat) (ex2 : Hp) : Prop := k ≤ k2 ∧ ∀ i, i < k → ex2 i = ex i
theorem exle.refl (k : Nat) (ex : Hp) : exle k ex k ex := ⟨Nat.le_refl _, fun _ _ => rfl⟩
theorem exle.trans {k k2 k3 : Nat} {ex ex2 ex3 : Hp} (h : exle k ex k2 ex2) (h2 : exle k2 ex2 k3 ex3) : exle k ex k3 ex3 := ⟨Nat.le_trans h.1 h2.1, fun i hi => (h2.2 i (Nat.lt_of_lt_of_le hi h.1)).trans (h.2 i hi)⟩
section Pre
variable {Z : Gz} {μ : Mt} {d k0 mc ms : Nat} {Q : Po} {pc : Nat} {L S : List Value} {h : Hp} {k cs ss : Nat}
theorem AW.throwSW {E text : String} {names : List String} {ik is ic : Nat} (d0 : decode μ.2.1 pc = .ok (.new ik, 3)) (d3 : decode μ.2.1 (pc + 3) = .ok (.dup, 1)) (d4 : decode μ.2.1 (pc + 4) = .ok (.ldc_w is, 3)) (d6 : decode μ.2.1 (pc + 7) = .ok (.invokespecial ic, 3)) (d9 : decode μ.2.1 (pc + 10) = .ok (.athrow, 1))
    (hh : μ.2.2.2.2 = []) (hfit : Bundle.fit E = true) (hnames : ∀ n ∈ names, Bundle.fit n = true) (hlen : names.length = 2) (hk : Cond.classLink μ.1.cls ik E ∈ lw_tbl) (hini : Cond.initialized E ∈ lw_tbl) (hstr : (μ.1.cls, is, text) ∈ aw_str) (hat : ∀ w ∈ vx_atS μ.1.cls ic E names, w ∈ lw_tbl ∧ aw_okw w = true)
    (hgood : ∀ w ∈ Cond.classLink μ.1.cls ik E :: Cond.initialized E :: vx_atS μ.1.cls ic E names, vx_ot w = true) (hcat : (S.map fun v => v.category).sum ≤ 8) (hcs : cs + 1 ≤ mc) (hss : ss + 6 ≤ ms) (q : Q (.inr E) h k) : AW Z μ d k0 mc ms Q pc L S h k cs ss := by
  intro l D cT p e s m args below meth c ad0 ad A H locs ls hC ha hk2 hS hw hl hs
  have hg := hC.2.2.2.2.2.2.2.2.2.1
  obtain ⟨sa, hsa⟩ := hg.2.1 _ hstr
  have hcat2 : ((S.map (aw_cv ad)).map fun v => v.category).sum ≤ 8 := by
    have e : ((S.map (aw_cv ad)).map fun v => v.category) = S.map fun v => v.category := by
      rw [List.map_map]
      exact List.map_congr_left fun v _ => aw_cat ad v
    rw [e]; exact hcat
  refine vx_throwSW (own := μ.1.cls) (cls := E) (names := names) (text := text) (sa := sa) (ik := ik) (is := is) (ic := ic) (A := A) hC.2.1 hC.2.2.1 hC.1 hC.2.2.2.2.2.2.2.1 hfit hnames (aw_hts hg hk rfl) (aw_hts hg hini rfl) hsa (fun w hw => aw_hts hg (hat w hw).1 (hat w hw).2) hgood hg.2.2.2.1 hg.2.2.2.2.1 hS (by rw [hC.2.2.2.1]; exact hl.1) d0 d3 d4 d6 d9 (fun x hx => ?_)
    (by show names.length + 3 < d + 20; omega) (by show _ + (13 * (names.length + 1) + 43) ≤ 41 * d + 852; omega) hcs hss hC.2.2.2.2.2.1 (fun t hvm hz ho => ⟨⟨h, k, ad, q, ha, hk2, ?_⟩, ?_⟩) hS.2.2 hcs hss
  · rw [hC.2.2.2.2.2.2.2.2.1, hh] at hx; cases hx
  · exact ⟨hw.1.kept (fun j x hx => ho x.1 ((hw.1 j x hx).lt)), hw.2.1, hw.2.2.1.moved hvm, hw.2.2.2⟩
  · exact ⟨Nat.le_trans hS.1 hz, fun x h1 h2 => (ho x (Nat.lt_of_lt_of_le h1 hS.1)).trans (hS.2.1 x h1 h2)⟩
theorem AW.ldc_w {index : Nat} {v : Int32} (hd : decode μ.2.1 pc = .ok (.ldc_w index, 3)) (hc : Cond.constant μ.1.cls index v ∈ lw_tbl) (K : AW Z μ d k0 mc ms Q (pc + 3) L (.int v :: S) h k cs ss) : AW Z μ d k0 mc ms Q pc L S h k cs ss :=
  AW.pure (fun h _ => aw_ok_cons aw_okI h) (fun _ _ _ _ _ _ _ _ _ _ _ _ _ _ ad hx hb ho ht _ q => lv_ldcw hx hb ho (ht _ hc rfl) hd q) K
theorem AX.catch_w {E name : String} {x : Nat × Nat × Nat × Nat} {pre suf : List (Nat × Nat × Nat × Nat)} {i : Nat} {L' : List Value} (hh : μ.2.2.2.2 = pre ++ x :: suf) (hE : E ∈ aw_exc)
    (hpre : ∀ z ∈ pre, z.2.2.2 ≠ 0 ∧ ∃ nm ∈ aw_exc, nm ≠ E ∧ Cond.classLink μ.1.cls z.2.2.2 nm ∈ lw_tbl) (h1 : x.1 ≤ pc) (h2 : pc < x.2.1) (h3 : x.2.2.2 ≠ 0) (hlink : Cond.classLink μ.1.cls x.2.2.2 name ∈ lw_tbl) (hcast : Cond.castable E name ∈ lw_tbl)
    (hd : decode μ.2.1 x.2.2.1 = .ok (.astore i, 2)) (hn : i < μ.2.2.1) (hlow : aw_low L i = true) (hL : L.set i .null = L')
    (K : AW Z μ d k0 mc ms Q (x.2.2.1 + 2) L' [] h k cs ss) : AX Z μ d k0 mc ms Q E pc L h k cs ss := by
  intro l D cT p e s m args below meth c ad0 ad A H locs ls q9 ce st hC ha hk hS hw hl hq hv hcl
  have hg := hC.2.2.2.2.2.2.2.2.2.1
  have hown := hC.2.2.2.2.2.2.2.1
  refine vx_catch (own := μ.1.cls) (name := name) (E := E) (ce := ce) hown (tableOf pre) ⟨x.1, x.2.1, x.2.2.1, x.2.2.2⟩ (tableOf suf) ?_ (fun z hz => ?_) ?_ h3 (aw_hts hg hlink rfl) (aw_hts hg hcast rfl) hq hv hcl ?_
  · rw [hC.2.2.2.2.2.2.2.2.1, hh]
    simp [tableOf]
  · obtain ⟨y, hy, rfl⟩ := List.mem_map.mp hz
    obtain ⟨g1, nm, g2, g3, g4⟩ := hpre y hy
    exact Or.inr ⟨g1, nm, aw_hts hg g4 rfl, hg.2.2.1 E hE nm g2 (Ne.symm g3)⟩
  · simp [covers, h1, h2]
  · refine lv_astore (nL := μ.2.2.1) (lv := aw_pairs ad L) hC.2.1 hC.2.2.1 hd hl.has hn rfl (fun ls' h' => ?_)
    refine K l D cT p e s m args below meth c ad0 ad A H locs ls' hC ha hk hS hw ?_ (fun v hv => nomatch hv)
    subst hL
    have h'' : lv_has ls' μ.2.2.1 ((i, aw_cv (fun _ => q9) (.ref 0)) :: (aw_pairs ad L).filter (fun q => !(q.1 == i) && !(q.1 + 1 == i && q.2.category == 2))) := h'
    refine ⟨h'.1, h'.2.1, fun j w hj hw' => ?_⟩
    by_cases hji : j = i
    · subst hji
      rw [List.getElem?_set_self (by
        have := (List.getElem?_eq_some_iff.mp hj).1
        rwa [List.length_set] at this)] at hj
      cases hj
      exact absurd rfl hw'
    · rw [List.getElem?_set_ne (Ne.symm hji)] at hj
      refine ⟨h'.2.2 (j, aw_cv ad w) (List.mem_cons_of_mem _ (List.mem_filter.mpr ⟨aw_pairs_in hj hw', ?_⟩)), (hl.2.2 j w hj hw').2⟩
      have e1 : (j == i) = false := by simp [hji]
      have e2 : (j + 1 == i && (aw_cv ad w).category == 2) = false := by
        by_cases e : j + 1 = i
        · subst e
          simp only [aw_low, hj] at hlow
          rw [aw_cat]
          have : w.category = 1 := by simpa using hlow
          simp [this]
        · simp [e]
      simp [e1, e2]
end Pre
def th_list : List String := ["java/lang/RuntimeException", "java/lang/Exception"]
theorem th_names : ∀ n ∈ th_list, Bundle.fit n = true := by decide +kernel
theorem th_IAE_64 : ∀ w ∈ vx_atS RX4 64 "java/lang/IllegalArgumentException" th_list, w ∈ lw_tbl ∧ aw_okw w = true := by decide +kernel
theorem th_ISE_150 : ∀ w ∈ vx_atS RX4 150 "java/lang/IllegalStateException" th_list, w ∈ lw_tbl ∧ aw_okw w = true := by decide +kernel
theorem th_IOOBE_110 : ∀ w ∈ vx_atS RX4 110 "java/lang/IndexOutOfBoundsException" th_list, w ∈ lw_tbl ∧ aw_okw w = true := by decide +kernel
theorem th_IAE_64g : ∀ w ∈ Cond.classLink RX4 60 "java/lang/IllegalArgumentException" :: Cond.initialized "java/lang/IllegalArgumentException" :: vx_atS RX4 64 "java/lang/IllegalArgumentException" th_list, vx_ot w = true := by decide +kernel
theorem th_ISE_150g : ∀ w ∈ Cond.classLink RX4 146 "java/lang/IllegalStateException" :: Cond.initialized "java/lang/IllegalStateException" :: vx_atS RX4 150 "java/lang/IllegalStateException" th_list, vx_ot w = true := by decide +kernel
theorem th_IOOBE_110g : ∀ w ∈ Cond.classLink RX4 106 "java/lang/IndexOutOfBoundsException" :: Cond.initialized "java/lang/IndexOutOfBoundsException" :: vx_atS RX4 110 "java/lang/IndexOutOfBoundsException" th_list, vx_ot w = true := by decide +kernel
end

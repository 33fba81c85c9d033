section
-- ===== PART A: goes FIRST, ahead of the names: the tables' words, and 'selects' of the private methods out of them =====
/-- a private method of a class that the tables say can be made, by its rows of tables_1 -/
def lw_okq (q : MethodName × Nat) : Prop := (q.1.cls ≠ "java/lang/invoke/MethodHandle" ∧ q.1.cls ≠ "java/lang/invoke/VarHandle") ∧ Cond.instantiable q.1.cls q.2 ∈ tables_1 ∧ Cond.privateMethod q.1 ∈ tables_1 ∧ Cond.instanceMethod q.1 ∈ tables_1
theorem lw_p0 : lw_okq (⟨"java/lang/Throwable", "fillInStackTrace", "(I)Ljava/lang/Throwable;"⟩, 6) := ⟨⟨by decide +kernel, by decide +kernel⟩, List.mem_of_getElem? (i := 68) (by decide +kernel), List.mem_of_getElem? (i := 66) (by decide +kernel), List.mem_of_getElem? (i := 67) (by decide +kernel)⟩
theorem lw_p1 : lw_okq (⟨"FoundryNine$Arrivals", "arrivalOf", "(I)I"⟩, 1) := ⟨⟨by decide +kernel, by decide +kernel⟩, List.mem_of_getElem? (i := 132) (by decide +kernel), List.mem_of_getElem? (i := 130) (by decide +kernel), List.mem_of_getElem? (i := 131) (by decide +kernel)⟩
theorem lw_p2 : lw_okq (⟨"FoundryNine", "checkRunning", "()V"⟩, 7) := ⟨⟨by decide +kernel, by decide +kernel⟩, List.mem_of_getElem? (i := 142) (by decide +kernel), List.mem_of_getElem? (i := 140) (by decide +kernel), List.mem_of_getElem? (i := 141) (by decide +kernel)⟩
theorem lw_p3 : lw_okq (⟨"FoundryNine", "checkSetting", "(II)V"⟩, 7) := ⟨⟨by decide +kernel, by decide +kernel⟩, List.mem_of_getElem? (i := 142) (by decide +kernel), List.mem_of_getElem? (i := 161) (by decide +kernel), List.mem_of_getElem? (i := 162) (by decide +kernel)⟩
theorem lw_p4 : lw_okq (⟨"FoundryNine$Run", "beginCounting", "()V"⟩, 18) := ⟨⟨by decide +kernel, by decide +kernel⟩, List.mem_of_getElem? (i := 193) (by decide +kernel), List.mem_of_getElem? (i := 191) (by decide +kernel), List.mem_of_getElem? (i := 192) (by decide +kernel)⟩
theorem lw_p5 : lw_okq (⟨"FoundryNine$Run", "change", "(II)V"⟩, 18) := ⟨⟨by decide +kernel, by decide +kernel⟩, List.mem_of_getElem? (i := 193) (by decide +kernel), List.mem_of_getElem? (i := 202) (by decide +kernel), List.mem_of_getElem? (i := 203) (by decide +kernel)⟩
theorem lw_p6 : lw_okq (⟨"FoundryNine$Run", "askRegister", "(III)V"⟩, 18) := ⟨⟨by decide +kernel, by decide +kernel⟩, List.mem_of_getElem? (i := 193) (by decide +kernel), List.mem_of_getElem? (i := 211) (by decide +kernel), List.mem_of_getElem? (i := 212) (by decide +kernel)⟩
theorem lw_p7 : lw_okq (⟨"FoundryNine$Run", "valueOf", "(I)I"⟩, 18) := ⟨⟨by decide +kernel, by decide +kernel⟩, List.mem_of_getElem? (i := 193) (by decide +kernel), List.mem_of_getElem? (i := 215) (by decide +kernel), List.mem_of_getElem? (i := 216) (by decide +kernel)⟩
theorem lw_p8 : lw_okq (⟨"FoundryNine$Run", "makePending", "(II)V"⟩, 18) := ⟨⟨by decide +kernel, by decide +kernel⟩, List.mem_of_getElem? (i := 193) (by decide +kernel), List.mem_of_getElem? (i := 219) (by decide +kernel), List.mem_of_getElem? (i := 220) (by decide +kernel)⟩
theorem lw_p9 : lw_okq (⟨"FoundryNine$Run", "rise", "(I)V"⟩, 18) := ⟨⟨by decide +kernel, by decide +kernel⟩, List.mem_of_getElem? (i := 193) (by decide +kernel), List.mem_of_getElem? (i := 223) (by decide +kernel), List.mem_of_getElem? (i := 224) (by decide +kernel)⟩
theorem lw_p10 : lw_okq (⟨"FoundryNine$Run", "isRecent", "(II)Z"⟩, 18) := ⟨⟨by decide +kernel, by decide +kernel⟩, List.mem_of_getElem? (i := 193) (by decide +kernel), List.mem_of_getElem? (i := 227) (by decide +kernel), List.mem_of_getElem? (i := 228) (by decide +kernel)⟩
theorem lw_p11 : lw_okq (⟨"FoundryNine$Run", "noteHazard", "(II)V"⟩, 18) := ⟨⟨by decide +kernel, by decide +kernel⟩, List.mem_of_getElem? (i := 193) (by decide +kernel), List.mem_of_getElem? (i := 231) (by decide +kernel), List.mem_of_getElem? (i := 232) (by decide +kernel)⟩
theorem lw_p12 : lw_okq (⟨"FoundryNine$Run", "askGate", "(I)V"⟩, 18) := ⟨⟨by decide +kernel, by decide +kernel⟩, List.mem_of_getElem? (i := 193) (by decide +kernel), List.mem_of_getElem? (i := 235) (by decide +kernel), List.mem_of_getElem? (i := 236) (by decide +kernel)⟩
theorem lw_p13 : lw_okq (⟨"FoundryNine$Run", "nextLine", "(I)I"⟩, 18) := ⟨⟨by decide +kernel, by decide +kernel⟩, List.mem_of_getElem? (i := 193) (by decide +kernel), List.mem_of_getElem? (i := 266) (by decide +kernel), List.mem_of_getElem? (i := 267) (by decide +kernel)⟩
theorem lw_p14 : lw_okq (⟨"FoundryNine$Run", "comesAheadOf", "(II)Z"⟩, 18) := ⟨⟨by decide +kernel, by decide +kernel⟩, List.mem_of_getElem? (i := 193) (by decide +kernel), List.mem_of_getElem? (i := 270) (by decide +kernel), List.mem_of_getElem? (i := 271) (by decide +kernel)⟩
theorem lw_p15 : lw_okq (⟨"FoundryNine$Run", "giveUpAll", "()V"⟩, 18) := ⟨⟨by decide +kernel, by decide +kernel⟩, List.mem_of_getElem? (i := 193) (by decide +kernel), List.mem_of_getElem? (i := 274) (by decide +kernel), List.mem_of_getElem? (i := 275) (by decide +kernel)⟩
def lw_privs_1 : List (MethodName × Nat) := [(⟨"java/lang/Throwable", "fillInStackTrace", "(I)Ljava/lang/Throwable;"⟩, 6), (⟨"FoundryNine$Arrivals", "arrivalOf", "(I)I"⟩, 1), (⟨"FoundryNine", "checkRunning", "()V"⟩, 7), (⟨"FoundryNine", "checkSetting", "(II)V"⟩, 7), (⟨"FoundryNine$Run", "beginCounting", "()V"⟩, 18), (⟨"FoundryNine$Run", "change", "(II)V"⟩, 18), (⟨"FoundryNine$Run", "askRegister", "(III)V"⟩, 18), (⟨"FoundryNine$Run", "valueOf", "(I)I"⟩, 18), (⟨"FoundryNine$Run", "makePending", "(II)V"⟩, 18), (⟨"FoundryNine$Run", "rise", "(I)V"⟩, 18), (⟨"FoundryNine$Run", "isRecent", "(II)Z"⟩, 18), (⟨"FoundryNine$Run", "noteHazard", "(II)V"⟩, 18), (⟨"FoundryNine$Run", "askGate", "(I)V"⟩, 18), (⟨"FoundryNine$Run", "nextLine", "(I)I"⟩, 18), (⟨"FoundryNine$Run", "comesAheadOf", "(II)Z"⟩, 18), (⟨"FoundryNine$Run", "giveUpAll", "()V"⟩, 18)]
theorem lw_r1 : ∀ q ∈ lw_privs_1, lw_okq q := List.forall_mem_cons.mpr ⟨lw_p0, List.forall_mem_cons.mpr ⟨lw_p1, List.forall_mem_cons.mpr ⟨lw_p2, List.forall_mem_cons.mpr ⟨lw_p3, List.forall_mem_cons.mpr ⟨lw_p4, List.forall_mem_cons.mpr ⟨lw_p5, List.forall_mem_cons.mpr ⟨lw_p6, List.forall_mem_cons.mpr ⟨lw_p7, List.forall_mem_cons.mpr ⟨lw_p8, List.forall_mem_cons.mpr ⟨lw_p9, List.forall_mem_cons.mpr ⟨lw_p10, List.forall_mem_cons.mpr ⟨lw_p11, List.forall_mem_cons.mpr ⟨lw_p12, List.forall_mem_cons.mpr ⟨lw_p13, List.forall_mem_cons.mpr ⟨lw_p14, List.forall_mem_cons.mpr ⟨lw_p15, fun _ h => absurd h List.not_mem_nil⟩⟩⟩⟩⟩⟩⟩⟩⟩⟩⟩⟩⟩⟩⟩⟩
theorem lw_p16 : lw_okq (⟨"FoundryNine$Run", "noteHazardsOfGates", "()V"⟩, 18) := ⟨⟨by decide +kernel, by decide +kernel⟩, List.mem_of_getElem? (i := 193) (by decide +kernel), List.mem_of_getElem? (i := 288) (by decide +kernel), List.mem_of_getElem? (i := 289) (by decide +kernel)⟩
theorem lw_p17 : lw_okq (⟨"FoundryNine", "checkLine", "(I)V"⟩, 7) := ⟨⟨by decide +kernel, by decide +kernel⟩, List.mem_of_getElem? (i := 142) (by decide +kernel), List.mem_of_getElem? (i := 316) (by decide +kernel), List.mem_of_getElem? (i := 317) (by decide +kernel)⟩
theorem lw_p18 : lw_okq (⟨"FoundryNine", "checkHasDelay", "(I)V"⟩, 7) := ⟨⟨by decide +kernel, by decide +kernel⟩, List.mem_of_getElem? (i := 142) (by decide +kernel), List.mem_of_getElem? (i := 348) (by decide +kernel), List.mem_of_getElem? (i := 349) (by decide +kernel)⟩
theorem lw_p19 : lw_okq (⟨"FoundryNine$Arrivals", "arrivalBy", "(LFoundryNine$Circuit;LFoundryNine$Flaws;II)I"⟩, 1) := ⟨⟨by decide +kernel, by decide +kernel⟩, List.mem_of_getElem? (i := 132) (by decide +kernel), List.mem_of_getElem? (i := 362) (by decide +kernel), List.mem_of_getElem? (i := 363) (by decide +kernel)⟩
theorem lw_p20 : lw_okq (⟨"FoundryNine", "digestOfTimes", "(J)J"⟩, 7) := ⟨⟨by decide +kernel, by decide +kernel⟩, List.mem_of_getElem? (i := 142) (by decide +kernel), List.mem_of_getElem? (i := 385) (by decide +kernel), List.mem_of_getElem? (i := 386) (by decide +kernel)⟩
theorem lw_p21 : lw_okq (⟨"FoundryNine", "digestOfCircuit", "(J)J"⟩, 7) := ⟨⟨by decide +kernel, by decide +kernel⟩, List.mem_of_getElem? (i := 142) (by decide +kernel), List.mem_of_getElem? (i := 390) (by decide +kernel), List.mem_of_getElem? (i := 391) (by decide +kernel)⟩
theorem lw_p22 : lw_okq (⟨"FoundryNine", "digestOfWires", "(J)J"⟩, 7) := ⟨⟨by decide +kernel, by decide +kernel⟩, List.mem_of_getElem? (i := 142) (by decide +kernel), List.mem_of_getElem? (i := 401) (by decide +kernel), List.mem_of_getElem? (i := 402) (by decide +kernel)⟩
theorem lw_p23 : lw_okq (⟨"FoundryNine", "digestOfRun", "(J)J"⟩, 7) := ⟨⟨by decide +kernel, by decide +kernel⟩, List.mem_of_getElem? (i := 142) (by decide +kernel), List.mem_of_getElem? (i := 417) (by decide +kernel), List.mem_of_getElem? (i := 418) (by decide +kernel)⟩
theorem lw_p24 : lw_okq (⟨"FoundryNine$Run", "clear", "()V"⟩, 18) := ⟨⟨by decide +kernel, by decide +kernel⟩, List.mem_of_getElem? (i := 193) (by decide +kernel), List.mem_of_getElem? (i := 549) (by decide +kernel), List.mem_of_getElem? (i := 550) (by decide +kernel)⟩
theorem lw_p25 : lw_okq (⟨"FoundryNineLaw$Bench", "clear", "()V"⟩, 14) := ⟨⟨by decide +kernel, by decide +kernel⟩, List.mem_of_getElem? (i := 425) (by decide +kernel), List.mem_of_getElem? (i := 645) (by decide +kernel), List.mem_of_getElem? (i := 646) (by decide +kernel)⟩
theorem lw_p26 : lw_okq (⟨"FoundryNineLaw$Bench", "put", "(IIIIII)Z"⟩, 14) := ⟨⟨by decide +kernel, by decide +kernel⟩, List.mem_of_getElem? (i := 425) (by decide +kernel), List.mem_of_getElem? (i := 711) (by decide +kernel), List.mem_of_getElem? (i := 712) (by decide +kernel)⟩
theorem lw_p27 : lw_okq (⟨"FoundryNine", "checkRoom", "()V"⟩, 7) := ⟨⟨by decide +kernel, by decide +kernel⟩, List.mem_of_getElem? (i := 142) (by decide +kernel), List.mem_of_getElem? (i := 719) (by decide +kernel), List.mem_of_getElem? (i := 720) (by decide +kernel)⟩
theorem lw_p28 : lw_okq (⟨"FoundryNine", "addLine", "(IIIIII)I"⟩, 7) := ⟨⟨by decide +kernel, by decide +kernel⟩, List.mem_of_getElem? (i := 142) (by decide +kernel), List.mem_of_getElem? (i := 724) (by decide +kernel), List.mem_of_getElem? (i := 725) (by decide +kernel)⟩
theorem lw_p29 : lw_okq (⟨"FoundryNine$Circuit", "noteUse", "(II)V"⟩, 12) := ⟨⟨by decide +kernel, by decide +kernel⟩, List.mem_of_getElem? (i := 436) (by decide +kernel), List.mem_of_getElem? (i := 732) (by decide +kernel), List.mem_of_getElem? (i := 733) (by decide +kernel)⟩
theorem lw_p30 : lw_okq (⟨"FoundryNine$Flaws", "note", "(II)V"⟩, 6) := ⟨⟨by decide +kernel, by decide +kernel⟩, List.mem_of_getElem? (i := 503) (by decide +kernel), List.mem_of_getElem? (i := 740) (by decide +kernel), List.mem_of_getElem? (i := 741) (by decide +kernel)⟩
theorem lw_p31 : lw_okq (⟨"FoundryNine$Flaws", "findReach", "(LFoundryNine$Circuit;)V"⟩, 6) := ⟨⟨by decide +kernel, by decide +kernel⟩, List.mem_of_getElem? (i := 503) (by decide +kernel), List.mem_of_getElem? (i := 744) (by decide +kernel), List.mem_of_getElem? (i := 745) (by decide +kernel)⟩
def lw_privs_2 : List (MethodName × Nat) := [(⟨"FoundryNine$Run", "noteHazardsOfGates", "()V"⟩, 18), (⟨"FoundryNine", "checkLine", "(I)V"⟩, 7), (⟨"FoundryNine", "checkHasDelay", "(I)V"⟩, 7), (⟨"FoundryNine$Arrivals", "arrivalBy", "(LFoundryNine$Circuit;LFoundryNine$Flaws;II)I"⟩, 1), (⟨"FoundryNine", "digestOfTimes", "(J)J"⟩, 7), (⟨"FoundryNine", "digestOfCircuit", "(J)J"⟩, 7), (⟨"FoundryNine", "digestOfWires", "(J)J"⟩, 7), (⟨"FoundryNine", "digestOfRun", "(J)J"⟩, 7), (⟨"FoundryNine$Run", "clear", "()V"⟩, 18), (⟨"FoundryNineLaw$Bench", "clear", "()V"⟩, 14), (⟨"FoundryNineLaw$Bench", "put", "(IIIIII)Z"⟩, 14), (⟨"FoundryNine", "checkRoom", "()V"⟩, 7), (⟨"FoundryNine", "addLine", "(IIIIII)I"⟩, 7), (⟨"FoundryNine$Circuit", "noteUse", "(II)V"⟩, 12), (⟨"FoundryNine$Flaws", "note", "(II)V"⟩, 6), (⟨"FoundryNine$Flaws", "findReach", "(LFoundryNine$Circuit;)V"⟩, 6)]
theorem lw_r2 : ∀ q ∈ lw_privs_2, lw_okq q := List.forall_mem_cons.mpr ⟨lw_p16, List.forall_mem_cons.mpr ⟨lw_p17, List.forall_mem_cons.mpr ⟨lw_p18, List.forall_mem_cons.mpr ⟨lw_p19, List.forall_mem_cons.mpr ⟨lw_p20, List.forall_mem_cons.mpr ⟨lw_p21, List.forall_mem_cons.mpr ⟨lw_p22, List.forall_mem_cons.mpr ⟨lw_p23, List.forall_mem_cons.mpr ⟨lw_p24, List.forall_mem_cons.mpr ⟨lw_p25, List.forall_mem_cons.mpr ⟨lw_p26, List.forall_mem_cons.mpr ⟨lw_p27, List.forall_mem_cons.mpr ⟨lw_p28, List.forall_mem_cons.mpr ⟨lw_p29, List.forall_mem_cons.mpr ⟨lw_p30, List.forall_mem_cons.mpr ⟨lw_p31, fun _ h => absurd h List.not_mem_nil⟩⟩⟩⟩⟩⟩⟩⟩⟩⟩⟩⟩⟩⟩⟩⟩
theorem lw_p32 : lw_okq (⟨"FoundryNine$Flaws", "reachOf", "(I)I"⟩, 6) := ⟨⟨by decide +kernel, by decide +kernel⟩, List.mem_of_getElem? (i := 503) (by decide +kernel), List.mem_of_getElem? (i := 750) (by decide +kernel), List.mem_of_getElem? (i := 751) (by decide +kernel)⟩
theorem lw_p33 : lw_okq (⟨"FoundryNineLaw$Bench", "from", "(II)I"⟩, 14) := ⟨⟨by decide +kernel, by decide +kernel⟩, List.mem_of_getElem? (i := 425) (by decide +kernel), List.mem_of_getElem? (i := 769) (by decide +kernel), List.mem_of_getElem? (i := 770) (by decide +kernel)⟩
theorem lw_p34 : lw_okq (⟨"FoundryNineLaw$Bench", "leads", "(II[Z)Z"⟩, 14) := ⟨⟨by decide +kernel, by decide +kernel⟩, List.mem_of_getElem? (i := 425) (by decide +kernel), List.mem_of_getElem? (i := 817) (by decide +kernel), List.mem_of_getElem? (i := 818) (by decide +kernel)⟩
theorem lw_p35 : lw_okq (⟨"FoundryNineLaw$Bench", "change", "(II)V"⟩, 14) := ⟨⟨by decide +kernel, by decide +kernel⟩, List.mem_of_getElem? (i := 425) (by decide +kernel), List.mem_of_getElem? (i := 826) (by decide +kernel), List.mem_of_getElem? (i := 827) (by decide +kernel)⟩
theorem lw_p36 : lw_okq (⟨"FoundryNineLaw$Bench", "ask", "(III)V"⟩, 14) := ⟨⟨by decide +kernel, by decide +kernel⟩, List.mem_of_getElem? (i := 425) (by decide +kernel), List.mem_of_getElem? (i := 830) (by decide +kernel), List.mem_of_getElem? (i := 831) (by decide +kernel)⟩
theorem lw_p37 : lw_okq (⟨"FoundryNineLaw$Bench", "reckon", "(I)I"⟩, 14) := ⟨⟨by decide +kernel, by decide +kernel⟩, List.mem_of_getElem? (i := 425) (by decide +kernel), List.mem_of_getElem? (i := 834) (by decide +kernel), List.mem_of_getElem? (i := 835) (by decide +kernel)⟩
theorem lw_p38 : lw_okq (⟨"FoundryNineLaw$Bench", "drop", "(I)V"⟩, 14) := ⟨⟨by decide +kernel, by decide +kernel⟩, List.mem_of_getElem? (i := 425) (by decide +kernel), List.mem_of_getElem? (i := 846) (by decide +kernel), List.mem_of_getElem? (i := 847) (by decide +kernel)⟩
theorem lw_p39 : lw_okq (⟨"FoundryNineLaw$Bench", "pend", "(II)V"⟩, 14) := ⟨⟨by decide +kernel, by decide +kernel⟩, List.mem_of_getElem? (i := 425) (by decide +kernel), List.mem_of_getElem? (i := 853) (by decide +kernel), List.mem_of_getElem? (i := 854) (by decide +kernel)⟩
theorem lw_p40 : lw_okq (⟨"FoundryNineLaw$Bench", "note", "(II)V"⟩, 14) := ⟨⟨by decide +kernel, by decide +kernel⟩, List.mem_of_getElem? (i := 425) (by decide +kernel), List.mem_of_getElem? (i := 860) (by decide +kernel), List.mem_of_getElem? (i := 861) (by decide +kernel)⟩
def lw_privs_3 : List (MethodName × Nat) := [(⟨"FoundryNine$Flaws", "reachOf", "(I)I"⟩, 6), (⟨"FoundryNineLaw$Bench", "from", "(II)I"⟩, 14), (⟨"FoundryNineLaw$Bench", "leads", "(II[Z)Z"⟩, 14), (⟨"FoundryNineLaw$Bench", "change", "(II)V"⟩, 14), (⟨"FoundryNineLaw$Bench", "ask", "(III)V"⟩, 14), (⟨"FoundryNineLaw$Bench", "reckon", "(I)I"⟩, 14), (⟨"FoundryNineLaw$Bench", "drop", "(I)V"⟩, 14), (⟨"FoundryNineLaw$Bench", "pend", "(II)V"⟩, 14), (⟨"FoundryNineLaw$Bench", "note", "(II)V"⟩, 14)]
theorem lw_r3 : ∀ q ∈ lw_privs_3, lw_okq q := List.forall_mem_cons.mpr ⟨lw_p32, List.forall_mem_cons.mpr ⟨lw_p33, List.forall_mem_cons.mpr ⟨lw_p34, List.forall_mem_cons.mpr ⟨lw_p35, List.forall_mem_cons.mpr ⟨lw_p36, List.forall_mem_cons.mpr ⟨lw_p37, List.forall_mem_cons.mpr ⟨lw_p38, List.forall_mem_cons.mpr ⟨lw_p39, List.forall_mem_cons.mpr ⟨lw_p40, fun _ h => absurd h List.not_mem_nil⟩⟩⟩⟩⟩⟩⟩⟩⟩
def lw_privs : List (MethodName × Nat) := lw_privs_1 ++ (lw_privs_2 ++ (lw_privs_3))
def lw_tbl : List Cond := k2_sels lw_privs ++ tables_1
theorem lw_privs_ok : ∀ q ∈ lw_privs, lw_okq q := by
  show ∀ q ∈ lw_privs_1 ++ (lw_privs_2 ++ (lw_privs_3)), lw_okq q
  exact List.forall_mem_append.mpr ⟨lw_r1, List.forall_mem_append.mpr ⟨lw_r2, lw_r3⟩⟩
end
section
/-! ===== BEGIN words of one list among another's, by their places ===== -/
theorem goodIn_r {big : List Cond} (ws : List Cond) (ps : List Nat) (hp : ws = ps.filterMap (fun i => big[i]?)) (h : ws.all goodWord = true) : GoodIn big ws := by
  intro w hw
  have h1 := List.all_eq_true.mp h w hw
  rw [hp] at hw
  obtain ⟨i, -, hi⟩ := List.mem_filterMap.mp hw
  have hm : w ∈ big := by first | exact List.mem_of_getElem? hi | exact List.getElem?_mem hi
  exact ⟨hm, good_of_word h1⟩
theorem goodIn_app {big a b : List Cond} (ha : GoodIn big a) (hb : GoodIn big b) : GoodIn big (a ++ b) := fun w h => (List.mem_append.mp h).elim (ha w) (hb w)
theorem goodIn_ca {big a b : List Cond} {c : Cond} (ha : GoodIn big (c :: a)) (hb : GoodIn big b) : GoodIn big (c :: (a ++ b)) := fun w h => (List.mem_cons.mp h).elim (fun e => ha w (List.mem_cons.mpr (Or.inl e))) (fun h => (List.mem_append.mp h).elim (fun h => ha w (List.mem_cons.mpr (Or.inr h))) (hb w))
theorem goodIn_sub {big ws : List Cond} (hm : ∀ w ∈ ws, w ∈ big) (h : ws.all goodWord = true) : GoodIn big ws := fun w hw => ⟨hm w hw, good_of_word (List.all_eq_true.mp h w hw)⟩
/-! ===== END ===== -/

/-! ===== BEGIN exceptions that leave a method, and their catching by the caller (launches without stack traces) ===== -/
section VXA
/-! The laws vx_back, vx_callV, vx_callS, vx_callSW, vx_throw0, vx_throwS follow proofs of the library, with one case more: JvmDerived/Free/Laws.lean (Back.of_free), Shelf42/LK1.lean (callV, callS), Shelf/KitTraced.lean (throwNew0V, throwNewS). -/
/-- where a method has thrown q: the class by its name, the cell, what was written, the world -/
def vx_T (XC : String → State → State → Prop) (st : State) (q : Addr) (t : State) (mc ms : Nat) (free : Addr → Prop) : Prop :=
  ∃ (E : String) (ce : Cell) (L : List Loc), XC E st t ∧ t.heap[q]? = some ce ∧ ce.vm = .none ∧ st.vm.findClass E = some ce.cls ∧ st.WarmedH t.vm ∧ st.sameButNew ({ t with vm := st.vm } : State) L mc ms ∧ ∀ z ∈ L, free z.base
def vx_Q (Qc : Array Value → State → Outcome → State → Prop) (XC : String → State → State → Prop) (mc ms : Nat) (free : Addr → Prop) : Array Value → State → Outcome → State → Prop := fun a st o t =>
  (Qc a st o t ∧ ∃ L, FrameEnd st o t L mc ms ∧ ∀ q ∈ L, free q.base) ∨ ∃ q, o = .threw q ∧ vx_T XC st q t mc ms free
/-- a callee that returns or throws -/
def vx_Met (l : Launch) (y : MethodName) (ws : List Cond) (rm : Room) (Pc : Array Value → State → Prop) (Qc : Array Value → State → Outcome → State → Prop) (XC : String → State → State → Prop) (mc ms : Nat) (free : Addr → Prop) : Prop :=
  MetFree l y (headSpec ws rm) Pc (fun _ _ _ _ _ => True) (vx_Q Qc XC mc ms free)
def vx_Post (XC : String → State → State → Prop) (mc ms : Nat) (free : Addr → Prop) : Pt → Array Value → Addr → Pt → Prop := fun A a q B =>
  ∃ (g : JFrame) (mk : MethodId) (t : State) (L : List Loc) (E : String) (ce : Cell), B.U.heap = t.heap ∧ B.U.vm = t.vm ∧ XC E (A.U.calling g mk a) t ∧ t.heap[q]? = some ce ∧ ce.vm = .none ∧ A.U.vm.findClass E = some ce.cls ∧ B.locs = A.locs ++ L ∧ (∀ z ∈ L, free z.base) ∧ B.cells = A.cells + mc ∧ B.slots = A.slots + ms
def vx_Back (l : Launch) (R : Room) (p : Program) (e : Env) (below : List Frame) (s : State) (sargs : Array Value) (y : MethodName) (len W9 : Nat)
    (Pre : Pt → Array Value → Prop) (Post : Pt → Array Value → Option Value → Pt → Prop) (PostX : Pt → Array Value → Addr → Pt → Prop) : Prop :=
  ∀ (m : MethodId) (meth : Method) (c : Code) (A : Pt) (g : JFrame) (ig : Instr) (mk : MethodId) (a : Array Value),
    Stand p l e R s m sargs below meth c A.U A.locs A.cells A.slots → g.method = m → g.locals.size = c.maxLocals → decode c.code g.pc = .ok (ig, len) →
    2 * g.monitorRoom + (g.stack.map fun v => v.category).sum ≤ W9 → A.U.methodNamed? y = some mk → Pre A a →
    (∃ (v : Option Value) (B : Pt), Stand p l e R s m sargs below meth c B.U B.locs B.cells B.slots ∧ Post A a v B ∧
      Steps p.tables e below (doInvoke e (A.U.setTop g) [] mk a).1 (B.U.setTop { g with pc := g.pc + len, stack := v.toList ++ g.stack })) ∨
    (∃ (q : Addr) (B : Pt), Stand p l e R s m sargs below meth c B.U B.locs B.cells B.slots ∧ PostX A a q B ∧
      Steps p.tables e below (doInvoke e (A.U.setTop g) [] mk a).1 ((B.U.setTop g).pushFrame (.throwing q)))
section Payer
variable {l : Launch} {R : Room} {p : Program} {e : Env} {below : List Frame} {s : State} {sargs : Array Value} {y : MethodName} {len W9 : Nat}
theorem vx_back {ws : List Cond} {rm : Room} {Pc : Array Value → State → Prop} {Qc : Array Value → State → Outcome → State → Prop} {XC : String → State → State → Prop} {mc ms : Nat} {free : Addr → Prop} {bytes : ByteArray} {maxL : Nat} {ret : Option FieldType}
    (hM : vx_Met l y ws rm Pc Qc XC mc ms free) (hblind : FrameBlind Pc) (hrc : rm.cells = mc) (hrs : rm.slots = ms)
    (hframes : rm.frames + 1 ≤ R.frames) (hlocals : W9 + (maxL + 11) + rm.locals ≤ R.locals)
    (hws : ∀ w ∈ ws, ∀ a' U, s.WarmedH U.vm → w.before a' U = true) (hcode : Cond.code y bytes maxL ret ∈ ws) (hinit : ∀ a' U, s.WarmedH U.vm → (Cond.initialized y.cls).before a' U = true) :
    vx_Back l R p e below s sargs y len W9 (PreOf R mc ms Pc) (PostOf Qc mc ms free) (vx_Post XC mc ms free) := by
  intro m meth c A g ig mk a X hg hsize hdg hW hn hp
  have h1 : (headSpec ws rm).pre.before a A.U = true := atoms_intro fun w hw => hws w hw _ _ X.warmed
  have h2 : (Cond.code y bytes maxL ret).before a A.U = true := hws _ hcode _ _ X.warmed
  have h3 : (Cond.initialized y.cls).before a A.U = true := hinit _ _ X.warmed
  have h4 : A.cells + (headSpec ws rm).room.cells ≤ R.cells := by rw [show (headSpec ws rm).room.cells = mc from hrc]; exact hp.1
  have h5 : A.slots + (headSpec ws rm).room.slots ≤ R.slots := by rw [show (headSpec ws rm).room.slots = ms from hrs]; exact hp.2.1
  have hPc : Pc a (A.U.calling g mk a) := hblind _ _ _ _ hp.2.2
  obtain ⟨U, Ls, c0, s0⟩ := A
  dsimp only [Pt.U, Pt.locs, Pt.cells, Pt.slots] at h1 h2 h3 h4 h5 X hn hPc ⊢
  obtain ⟨methY, cY, hmY, hcY, -, hlY, -, -, -, -⟩ := Cond.code_spec hn h2
  obtain ⟨kY, hkY, -⟩ := className_of_methodNamed hn
  have hinitY : kY.init = .initialized := Cond.initialized_spec (findClass_of_methodNamed hn) hkY h3
  have h : At U g.method c below := by rw [hg]; exact X.here
  have hlocals9 : W9 + (maxL + 11) + (headSpec ws rm).room.locals ≤ R.locals := hlocals
  have happ : (headSpec ws rm).appliesLoose y e.platform (U.calling g mk a) = true :=
    Spec.appliesLoose_calling (g := g) h hdg hn hkY hinitY
      (X.room_calling (g := g) (R' := (headSpec ws rm).room) hsize hmY hcY hframes (by rw [hlY]; omega) h4 h5) h1
  obtain ⟨mid, hmid⟩ := h.above
  have hfr : (U.setTop g).frames = (.java g :: mid) ++ below := by rw [State.frames_setTop' g h.top, hmid]; rfl
  obtain ⟨o, s₂, hsteps, -, hend, hq⟩ := Steps.callFree hM p X.admits X.cas X.clock (acts := []) hfr happ hPc trivial
  have hq' : vx_Q Qc XC mc ms free a (U.calling g mk a) o s₂ := hq
  rw [State.frames_setTop' g h.top] at hend
  obtain ⟨g₀, hg0⟩ := Option.isSome_iff_exists.mp h.top
  obtain ⟨r, hr⟩ := State.topJava?_eq_some.mp hg0
  have hr' : (({ U with heap := s₂.heap, slotsUsed := s₂.slotsUsed } : State).setVm s₂.vm).frames = .java g₀ :: r := hr
  rcases hq' with ⟨hqc, L, hfe, hL⟩ | ⟨q, rfl, E, ce, L, hx, hce, hcv, hcl, hW₂, hsm, hL⟩
  · obtain ⟨⟨v, rfl⟩, hW₂, e2, q2, q3, q4, q5, q6⟩ := id hfe
    have e3 : s₂ = ({ (U.calling g mk a).setFrames s₂.frames with heap := s₂.heap, slotsUsed := s₂.slotsUsed } : State).setVm s₂.vm := by
      have : s₂ = ({ s₂ with vm := (U.calling g mk a).vm } : State).setVm s₂.vm := rfl
      rw [e2] at this
      exact this
    obtain ⟨c₂, i₂, len₂, hc₂, hd₂, hf₂⟩ := hend
    have hW' : U.WarmedH s₂.vm := hW₂
    have hcc : c₂ = c := by
      have h1 : s₂.code? g.method = U.code? g.method := by
        rw [State.code?_eq, State.code?_eq, hW'.alike.method?]
      exact Option.some.inj (hc₂.symm.trans (h1.trans h.code))
    subst hcc
    have hlen : len₂ = len := by rw [hdg] at hd₂; cases hd₂; rfl
    subst hlen
    have hs₂ : s₂ = (({ U with heap := s₂.heap, slotsUsed := s₂.slotsUsed } : State).setVm s₂.vm).setTop { g with pc := g.pc + len₂, stack := v.toList ++ g.stack } := by
      refine e3.trans ?_
      rw [hf₂, State.calling_eq h.top, State.setFrames_setFrames, State.setTop_of_frames _ hr', hr]
      rfl
    have hsame : U.sameButNew ({ U with heap := s₂.heap, slotsUsed := s₂.slotsUsed } : State) L mc ms := by
      refine ⟨?_, q2, q3, q4, q5, q6⟩
      obtain ⟨t, ht, -⟩ := State.frames_cons hr
      show ({ U with heap := s₂.heap, slotsUsed := s₂.slotsUsed } : State) = { U.setFrames U.frames with heap := s₂.heap, slotsUsed := s₂.slotsUsed }
      rw [State.setFrames_self ht]
    subst hg
    refine Or.inl ⟨v, ⟨(({ U with heap := s₂.heap, slotsUsed := s₂.slotsUsed } : State).setVm s₂.vm), Ls ++ L, c0 + mc, s0 + ms⟩,
      ⟨X.admits, X.cas, X.clock, X.frames, X.room, X.hears, X.method, X.code, (X.here.setHeapUsed s₂.heap s₂.slotsUsed).setVm hW'.alike, X.tail, State.WarmedH.trans X.warmed hW', X.limits, X.bytes, X.same.trans (hsame.setVm s.vm)⟩,
      ⟨g, mk, s₂, L, rfl, rfl, hqc, rfl, hL, rfl, rfl⟩, ?_⟩
    show Steps p.tables e below _ ((({ U with heap := s₂.heap, slotsUsed := s₂.slotsUsed } : State).setVm s₂.vm).setTop { g with pc := g.pc + len₂, stack := v.toList ++ g.stack })
    rw [← hs₂]
    exact hsteps
  · obtain ⟨e2, q2, q3, q4, q5, q6⟩ := id hsm
    have e3 : s₂ = ({ (U.calling g mk a).setFrames s₂.frames with heap := s₂.heap, slotsUsed := s₂.slotsUsed } : State).setVm s₂.vm := by
      have : s₂ = ({ s₂ with vm := (U.calling g mk a).vm } : State).setVm s₂.vm := rfl
      rw [e2] at this
      exact this
    have hf₂ : s₂.frames = .throwing q :: .java g :: U.frames.tail := hend
    have hW' : U.WarmedH s₂.vm := hW₂
    have hs₂ : s₂ = ((({ U with heap := s₂.heap, slotsUsed := s₂.slotsUsed } : State).setVm s₂.vm).setTop g).pushFrame (.throwing q) := by
      refine e3.trans ?_
      rw [hf₂, State.calling_eq h.top, State.setFrames_setFrames, State.pushFrame, State.frames_setTop _ hr', State.setTop_of_frames _ hr', State.setFrames_setFrames, hr]
      rfl
    have hsame : U.sameButNew ({ U with heap := s₂.heap, slotsUsed := s₂.slotsUsed } : State) L mc ms := by
      refine ⟨?_, q2, q3, q4, q5, q6⟩
      obtain ⟨t, ht, -⟩ := State.frames_cons hr
      show ({ U with heap := s₂.heap, slotsUsed := s₂.slotsUsed } : State) = { U.setFrames U.frames with heap := s₂.heap, slotsUsed := s₂.slotsUsed }
      rw [State.setFrames_self ht]
    subst hg
    refine Or.inr ⟨q, ⟨(({ U with heap := s₂.heap, slotsUsed := s₂.slotsUsed } : State).setVm s₂.vm), Ls ++ L, c0 + mc, s0 + ms⟩,
      ⟨X.admits, X.cas, X.clock, X.frames, X.room, X.hears, X.method, X.code, (X.here.setHeapUsed s₂.heap s₂.slotsUsed).setVm hW'.alike, X.tail, State.WarmedH.trans X.warmed hW', X.limits, X.bytes, X.same.trans (hsame.setVm s.vm)⟩,
      ⟨g, mk, s₂, L, E, ce, rfl, rfl, hx, hce, hcv, hcl, rfl, hL, rfl, rfl⟩, ?_⟩
    show Steps p.tables e below _ (((({ U with heap := s₂.heap, slotsUsed := s₂.slotsUsed } : State).setVm s₂.vm).setTop g).pushFrame (.throwing q))
    rw [← hs₂]
    exact hsteps
end Payer
section Calls
variable {p : Program} {l : Launch} {e : Env} {R : Room} {s : State} {m : MethodId} {args : Array Value} {below : List Frame} {meth : Method} {c : Code} {T : State} {locs : List Loc} {cells slots : Nat}
theorem vx_callV (X : Stand p l e R s m args below meth c T locs cells slots) (hexec : p.tables.exec = Jvm.exec) {own C : String} {index : Nat} {y : MethodName} {bytes : ByteArray} {maxL : Nat} {ret : Option FieldType}
    (hown : s.vm.findClass own = some m.cls) (hlink : (Cond.methodLink own index y).before args s = true) (hinst : (Cond.instanceMethod y).before args s = true) (hsel : (Cond.selects C y y).before args s = true)
    (hcode : (Cond.code y bytes maxL ret).before args s = true) (hy : y.cls ≠ "java/lang/invoke/MethodHandle" ∧ y.cls ≠ "java/lang/invoke/VarHandle")
    {W9 : Nat} {Pre : Pt → Array Value → Prop} {Post : Pt → Array Value → Option Value → Pt → Prop} {PostX : Pt → Array Value → Addr → Pt → Prop} (hK : vx_Back l R p e below s args y 3 W9 Pre Post PostX)
    {b : Addr} {cellB : Cell} (hcell : T.heap[b]? = some cellB) (hobj : cellB.vm.isStatics = false) (hcls : s.vm.findClass C = some cellB.cls)
    {g : JFrame} (hg : g.method = m) (hsize : g.locals.size = c.maxLocals) {argsL rest : List Value} (hlen : ∀ sig, parseMethodDescriptor y.desc = some sig → argsL.length = sig.parameters.length)
    (hstack : g.stack = argsL.reverse ++ .ref b :: rest) (hW : 2 * g.monitorRoom + (rest.map fun v => v.category).sum ≤ W9) (hdg : decode c.code g.pc = .ok (.invokevirtual index, 3))
    (hpre : ∀ vm₁, s.WarmedH vm₁ → Pre ⟨T.setVm vm₁, locs, cells, slots⟩ (Value.ref b :: argsL).toArray) :
    (∃ (v : Option Value) (vm₁ : Vm) (B : Pt), s.WarmedH vm₁ ∧ Stand p l e R s m args below meth c B.U B.locs B.cells B.slots ∧ Post ⟨T.setVm vm₁, locs, cells, slots⟩ (Value.ref b :: argsL).toArray v B ∧
      ∀ target, Steps p.tables e below (B.U.setTop { g with pc := g.pc + 3, stack := v.toList ++ rest }) target → Steps p.tables e below (T.setTop g) target) ∨
    (∃ (q : Addr) (vm₁ : Vm) (B : Pt), s.WarmedH vm₁ ∧ Stand p l e R s m args below meth c B.U B.locs B.cells B.slots ∧ PostX ⟨T.setVm vm₁, locs, cells, slots⟩ (Value.ref b :: argsL).toArray q B ∧
      Steps p.tables e below (T.setTop g) ((B.U.setTop { g with stack := rest }).pushFrame (.throwing q))) := by
  obtain ⟨mk, methM, hnamed, hmethM, hstM, habM⟩ := Cond.instanceMethod_spec hinst
  obtain ⟨methM', cM, hmethM', -, -, -, -, -, -, hsigM⟩ := Cond.code_spec hnamed hcode
  cases hmethM.symm.trans hmethM'
  obtain ⟨c2, r2, m2, q1, q2, q3, q4, kP, hkP, hkPi⟩ := Cond.selects_spec hsel
  cases hcls.symm.trans q1
  cases (State.methodFound?_of_named hnamed hy).symm.trans q2
  cases hnamed.symm.trans q3
  have hselP : selectMethod e.platform s.vm cellB.cls mk = .method mk := by rw [Launch.admits_selectMethod X.admits]; exact q4
  obtain ⟨vm₁, X₁, hstep₁⟩ := X.invokevirtual hexec hown hlink hnamed hmethM hstM hkP hkPi hy (a := b) (cell := cellB) hcell
    (fun z h => by rw [h] at hobj; cases hobj) hselP hmethM habM hkP hkPi (g := g) hg (argsL := argsL) (rest := rest) (hlen _ hsigM) hstack hdg
  rcases hK m meth c ⟨T.setVm vm₁, locs, cells, slots⟩ { g with stack := rest } (.invokevirtual index) mk (Value.ref b :: argsL).toArray X₁ hg hsize hdg hW (X₁.named hnamed) (hpre vm₁ X₁.warmed) with ⟨v, B, X', hpost, hsteps⟩ | ⟨q, B, X', hpost, hsteps⟩
  · exact Or.inl ⟨v, vm₁, B, X₁.warmed, X', hpost, fun target h => hstep₁ _ fun acts => by rw [doInvoke_state]; exact hsteps.trans h⟩
  · exact Or.inr ⟨q, vm₁, B, X₁.warmed, X', hpost, hstep₁ _ fun acts => by rw [doInvoke_state]; exact hsteps⟩
theorem vx_callS (X : Stand p l e R s m args below meth c T locs cells slots) (hexec : p.tables.exec = Jvm.exec) {own : String} {index : Nat} {y : MethodName} {bytes : ByteArray} {maxL : Nat} {ret : Option FieldType}
    (hown : s.vm.findClass own = some m.cls) (hlink : (Cond.methodLink own index y).before args s = true) (hstat : (Cond.static y).before args s = true) (hinit : (Cond.initialized y.cls).before args s = true)
    (hcode : (Cond.code y bytes maxL ret).before args s = true) (hy : y.cls ≠ "java/lang/invoke/MethodHandle" ∧ y.cls ≠ "java/lang/invoke/VarHandle")
    {W9 : Nat} {Pre : Pt → Array Value → Prop} {Post : Pt → Array Value → Option Value → Pt → Prop} {PostX : Pt → Array Value → Addr → Pt → Prop} (hK : vx_Back l R p e below s args y 3 W9 Pre Post PostX)
    {g : JFrame} (hg : g.method = m) (hsize : g.locals.size = c.maxLocals) {argsL rest : List Value} (hlen : ∀ sig, parseMethodDescriptor y.desc = some sig → argsL.length = sig.parameters.length)
    (hstack : g.stack = argsL.reverse ++ rest) (hW : 2 * g.monitorRoom + (rest.map fun v => v.category).sum ≤ W9) (hdg : decode c.code g.pc = .ok (.invokestatic index, 3))
    (hpre : ∀ vm₁, s.WarmedH vm₁ → Pre ⟨T.setVm vm₁, locs, cells, slots⟩ argsL.toArray) :
    (∃ (v : Option Value) (vm₁ : Vm) (B : Pt), s.WarmedH vm₁ ∧ Stand p l e R s m args below meth c B.U B.locs B.cells B.slots ∧ Post ⟨T.setVm vm₁, locs, cells, slots⟩ argsL.toArray v B ∧
      ∀ target, Steps p.tables e below (B.U.setTop { g with pc := g.pc + 3, stack := v.toList ++ rest }) target → Steps p.tables e below (T.setTop g) target) ∨
    (∃ (q : Addr) (vm₁ : Vm) (B : Pt), s.WarmedH vm₁ ∧ Stand p l e R s m args below meth c B.U B.locs B.cells B.slots ∧ PostX ⟨T.setVm vm₁, locs, cells, slots⟩ argsL.toArray q B ∧
      Steps p.tables e below (T.setTop g) ((B.U.setTop { g with stack := rest }).pushFrame (.throwing q))) := by
  obtain ⟨mk, hnamed⟩ := Cond.code_named hcode
  obtain ⟨methM, cM, hmethM, -, -, -, -, -, -, hsigM⟩ := Cond.code_spec hnamed hcode
  have hstatic : methM.isStatic = true := Cond.static_spec hnamed hmethM hstat
  obtain ⟨kP, hkP, -⟩ := className_of_methodNamed hnamed
  have hinitP : kP.init = .initialized := Cond.initialized_spec (findClass_of_methodNamed hnamed) hkP hinit
  obtain ⟨vm₁, X₁, hstep₁⟩ := X.invokestatic hexec hown hlink hnamed hmethM hstatic hkP hinitP hy (g := g) hg (argsL := argsL) (rest := rest) (hlen _ hsigM) hstack hdg
  rcases hK m meth c ⟨T.setVm vm₁, locs, cells, slots⟩ { g with stack := rest } (.invokestatic index) mk argsL.toArray X₁ hg hsize hdg hW (X₁.named hnamed) (hpre vm₁ X₁.warmed) with ⟨v, B, X', hpost, hsteps⟩ | ⟨q, B, X', hpost, hsteps⟩
  · exact Or.inl ⟨v, vm₁, B, X₁.warmed, X', hpost, fun target h => hstep₁ _ fun acts => by rw [doInvoke_state]; exact hsteps.trans h⟩
  · exact Or.inr ⟨q, vm₁, B, X₁.warmed, X', hpost, hstep₁ _ fun acts => by rw [doInvoke_state]; exact hsteps⟩
end Calls
theorem vx_cls {s : State} {T : State} {vm₁ : Vm} {E : String} {k : ClassId} (hW : s.WarmedH vm₁) (h : (T.setVm vm₁).vm.findClass E = some k) : s.vm.findClass E = some k := by
  have h1 : vm₁.findClass E = some k := h
  rw [hW.alike.findClass] at h1
  exact h1
/-- the method's frame g, with q thrown over it -/
def vx_W (p : Program) (l : Launch) (e : Env) (R : Room) (s : State) (m : MethodId) (args : Array Value) (below : List Frame) (meth : Method) (c : Code) (H : Heap) (locs : List Loc) (cells slots : Nat) (Q : State → Prop) (g : JFrame) (q : Addr) : Prop :=
  ∀ T : State, T.heap = H → Stand p l e R s m args below meth c T locs cells slots → ∃ t, Steps p.tables e below ((T.setTop g).pushFrame (.throwing q)) t ∧ Q t
def vx_Run (p : Program) (l : Launch) (e : Env) (R : Room) (s : State) (m : MethodId) (args : Array Value) (below : List Frame) (meth : Method) (c : Code) (H : Heap) (locs : List Loc) (cells slots mc ms : Nat) (g : JFrame) (rest : List Value) (Qa : State → Outcome → State → Prop) (XC : String → State → State → Prop) (free : Addr → Prop) : Prop :=
  ∀ T : State, T.heap = H → Stand p l e R s m args below meth c T locs cells slots →
    (∃ (v : Option Value) (st₀ t T' : State) (L : List Loc), st₀.heap = H ∧ Stand p l e R s m args below meth c T' (locs ++ L) (cells + mc) (slots + ms) ∧ (∀ q ∈ L, free q.base) ∧ T'.heap = t.heap ∧ T'.vm = t.vm ∧ Qa st₀ (.returned v) t ∧
      Goes p e below T g T' { g with pc := g.pc + 3, stack := v.toList ++ rest }) ∨
    (∃ (q : Addr) (st₀ t T' : State) (L : List Loc) (E : String) (ce : Cell), st₀.heap = H ∧ Stand p l e R s m args below meth c T' (locs ++ L) (cells + mc) (slots + ms) ∧ (∀ z ∈ L, free z.base) ∧ T'.heap = t.heap ∧ T'.vm = t.vm ∧ XC E st₀ t ∧ t.heap[q]? = some ce ∧ ce.vm = .none ∧ s.vm.findClass E = some ce.cls ∧
      Steps p.tables e below (T.setTop g) ((T'.setTop { g with stack := rest }).pushFrame (.throwing q)))
def vx_X {S : Type} (px : S → Prop) (B : String → S → State → Prop) (A : Nat → Prop) : String → State → State → Prop := fun E st t => ∃ u : S, px u ∧ B E u t ∧ va_F A st t
section Runs
variable {p : Program} {l : Launch} {e : Env} {R : Room} {s : State} {m : MethodId} {args : Array Value} {below : List Frame} {meth : Method} {c : Code} {H : Heap} {locs : List Loc} {cells slots : Nat}
variable {y : MethodName} {bytes cc : ByteArray} {maxL nL mc ms n index : Nat} {ret : Option FieldType} {ws : List Cond} {rm : Room} {Pc : Array Value → State → Prop} {Qc : Array Value → State → Outcome → State → Prop} {XC : String → State → State → Prop} {free : Addr → Prop} {Ts : List Cond} {own C : String} {b : Addr} {As rest : List Value} {g : JFrame}
theorem vx_callBack (cb : CallB R s args own index y bytes maxL ret ws rm mc ms n) (hM : vx_Met l y ws rm Pc Qc XC mc ms free) (hbl : FrameBlind Pc) : vx_Back l R p e below s args y 3 8 (PreOf R mc ms Pc) (PostOf Qc mc ms free) (vx_Post XC mc ms free) := by
  obtain ⟨hrc, hrs, hfr, hlo, hws, hcw, -, hini, -⟩ := cb
  exact vx_back (bytes := bytes) (maxL := maxL) (ret := ret) hM hbl hrc hrs hfr hlo hws hcw (fun a' U hW => word_at hW (Or.inl (by first | rfl | simp [Cond.onTables, Cond.keeps, Cond.steady])) hini)
theorem vx_runV (S : CallFix p m c cc nL s args Ts own) (hM : vx_Met l y ws rm Pc Qc XC mc ms free) (cw : CallW R s args own C index y bytes maxL ret ws rm mc ms n) (hp : PreV s H C b Pc As)
    (hg : g.method = m) (hn : As.length = n) (hsize : g.locals.size = nL) (hstack : g.stack = As.reverse ++ .ref b :: rest) (hW : 2 * g.monitorRoom + (rest.map fun v => v.category).sum ≤ 8) (hdg : decode cc g.pc = .ok (.invokevirtual index, 3)) (hf : cells + mc ≤ R.cells ∧ slots + ms ≤ R.slots) :
    vx_Run p l e R s m args below meth c H locs cells slots mc ms g rest (Qc (Value.ref b :: As).toArray) XC free := by
  have hK : vx_Back l R p e below s args y 3 8 (PreOf R mc ms Pc) (PostOf Qc mc ms free) (vx_Post XC mc ms free) := vx_callBack cw.1 hM hp.1
  obtain ⟨⟨-, -, -, -, -, -, hcode, -, hy, hlen, hl⟩, hin, hse⟩ := cw
  obtain ⟨hx, hb, hml, ho, -⟩ := S
  obtain ⟨-, ⟨cellB, hcB, hoB, hclB⟩, hPc⟩ := hp
  intro T hT X
  rcases vx_callV X hx (C := C) (bytes := bytes) (maxL := maxL) (ret := ret) ho hl hin hse hcode hy hK (by rw [hT]; exact hcB) hoB hclB hg (hsize.trans hml.symm) (argsL := As) (rest := rest) (fun sig h => hn.trans (hlen sig h)) hstack hW (by rw [hb]; exact hdg)
    (fun vm₁ hW₁ => ⟨hf.1, hf.2, hPc (T.setVm vm₁) hT hW₁⟩) with ⟨v, vm₁, ⟨U', l2, c2, s2⟩, hW₁, X', ⟨g', mk, t, L, e1, e2, hq, h1, hL, h2, h3⟩, st⟩ | ⟨q, vm₁, ⟨U', l2, c2, s2⟩, hW₁, X', ⟨g', mk, t, L, E, ce, e1, e2, hq, hce, hcv, hcl, h1, hL, h2, h3⟩, st⟩
  · dsimp only [Pt.U, Pt.locs, Pt.cells, Pt.slots] at X' e1 e2 h1 h2 h3 st
    subst h1; subst h2; subst h3
    exact Or.inl ⟨v, (T.setVm vm₁).calling g' mk (Value.ref b :: As).toArray, t, U', L, hT, X', hL, e1, e2, hq, st⟩
  · dsimp only [Pt.U, Pt.locs, Pt.cells, Pt.slots] at X' e1 e2 h1 h2 h3 st hcl
    subst h1; subst h2; subst h3
    exact Or.inr ⟨q, (T.setVm vm₁).calling g' mk (Value.ref b :: As).toArray, t, U', L, E, ce, hT, X', hL, e1, e2, hq, hce, hcv, vx_cls hW₁ hcl, st⟩
theorem vx_runS (S : CallFix p m c cc nL s args Ts own) (hM : vx_Met l y ws rm Pc Qc XC mc ms free) (cw : CallB R s args own index y bytes maxL ret ws rm mc ms n ∧ (Cond.static y).before args s = true) (hp : PreS s H Pc As)
    (hg : g.method = m) (hn : As.length = n) (hsize : g.locals.size = nL) (hstack : g.stack = As.reverse ++ rest) (hW : 2 * g.monitorRoom + (rest.map fun v => v.category).sum ≤ 8) (hdg : decode cc g.pc = .ok (.invokestatic index, 3)) (hf : cells + mc ≤ R.cells ∧ slots + ms ≤ R.slots) :
    vx_Run p l e R s m args below meth c H locs cells slots mc ms g rest (Qc As.toArray) XC free := by
  have hK : vx_Back l R p e below s args y 3 8 (PreOf R mc ms Pc) (PostOf Qc mc ms free) (vx_Post XC mc ms free) := vx_callBack cw.1 hM hp.1
  obtain ⟨⟨-, -, -, -, -, -, hcode, hini, hy, hlen, hl⟩, hstt⟩ := cw
  obtain ⟨hx, hb, hml, ho, -⟩ := S
  intro T hT X
  rcases vx_callS X hx (bytes := bytes) (maxL := maxL) (ret := ret) ho hl hstt hini hcode hy hK hg (hsize.trans hml.symm) (argsL := As) (rest := rest) (fun sig h => hn.trans (hlen sig h)) hstack hW (by rw [hb]; exact hdg)
    (fun vm₁ hW₁ => ⟨hf.1, hf.2, hp.2 (T.setVm vm₁) hT hW₁⟩) with ⟨v, vm₁, ⟨U', l2, c2, s2⟩, hW₁, X', ⟨g', mk, t, L, e1, e2, hq, h1, hL, h2, h3⟩, st⟩ | ⟨q, vm₁, ⟨U', l2, c2, s2⟩, hW₁, X', ⟨g', mk, t, L, E, ce, e1, e2, hq, hce, hcv, hcl, h1, hL, h2, h3⟩, st⟩
  · dsimp only [Pt.U, Pt.locs, Pt.cells, Pt.slots] at X' e1 e2 h1 h2 h3 st
    subst h1; subst h2; subst h3
    exact Or.inl ⟨v, (T.setVm vm₁).calling g' mk As.toArray, t, U', L, hT, X', hL, e1, e2, hq, st⟩
  · dsimp only [Pt.U, Pt.locs, Pt.cells, Pt.slots] at X' e1 e2 h1 h2 h3 st hcl
    subst h1; subst h2; subst h3
    exact Or.inr ⟨q, (T.setVm vm₁).calling g' mk As.toArray, t, U', L, E, ce, hT, X', hL, e1, e2, hq, hce, hcv, vx_cls hW₁ hcl, st⟩
end Runs
section Rows
variable {p : Program} {l : Launch} {e : Env} {R : Room} {s : State} {m : MethodId} {args : Array Value} {below : List Frame} {meth : Method} {c : Code} {H : Heap} {locs : List Loc} {cells slots : Nat} {Q : State → Prop}
variable {mc ms : Nat} {free : Addr → Prop} {A0 A1 : Nat → Prop} {H0 : Heap} {a : Array Value} {pc : Nat} {ls : Array Slot} {st0 rest : List Value}
theorem vx_keep {st₀ t T' : State} {L : List Loc} (h0 : st₀.heap = H) (e1 : T'.heap = t.heap) (hS : va_S A0 H0 H locs) (hA : ∀ q, q < H.size → A1 q → A0 q) (hf : ∀ q, free q → A0 q) (hL : ∀ q ∈ L, free q.base) (hF : va_F A1 st₀ t) :
    H.size ≤ T'.heap.size ∧ (∀ q : Nat, q < H.size → ¬ A1 q → T'.heap[q]? = H[q]?) ∧ va_S A0 H0 T'.heap (locs ++ L) := by
  obtain ⟨hz, hk⟩ := hF
  rw [h0] at hz hk
  exact ⟨by rw [e1]; exact hz, fun q h1 h2 => by rw [e1]; exact hk q h1 h2,
    ⟨Nat.le_trans hS.1 (by rw [e1]; exact hz), fun q h1 h2 => by rw [e1, hk q (Nat.lt_of_lt_of_le h1 hS.1) (fun z => h2 (hA q (Nat.lt_of_lt_of_le h1 hS.1) z))]; exact hS.2.1 q h1 h2, fun q hq => by
      rcases List.mem_append.mp hq with h | h
      · exact hS.2.2 q h
      · exact hf _ (hL q h)⟩⟩
theorem vx_calli {S SX : Type} {post : Int32 → S → Prop} {px : SX → Prop} {B : S → State → Prop} {BX : String → SX → State → Prop} {AX : Nat → Prop} (hr : vx_Run p l e R s m args below meth c H locs cells slots mc ms (F0 m pc ls st0) rest (va_Qi post B A1 a) (vx_X px BX AX) free) (hS : va_S A0 H0 H locs) (hA : ∀ q, q < H.size → A1 q → A0 q) (hf : ∀ q, free q → A0 q) (hAX : ∀ q, q < H.size → AX q → A0 q)
    (kx : ∀ (E : String) (ce : Cell) (q9 : Addr) (u : SX) (t : State) (H1 : Heap) (locs1 : List Loc), t.heap = H1 → s.vm.Alike t.vm → px u → BX E u t → H.size ≤ H1.size → (∀ q : Nat, q < H.size → ¬ AX q → H1[q]? = H[q]?) → va_S A0 H0 H1 locs1 → H1[q9]? = some ce → ce.vm = .none → s.vm.findClass E = some ce.cls → vx_W p l e R s m args below meth c H1 locs1 (cells + mc) (slots + ms) Q (F0 m pc ls rest) q9)
    (kk : ∀ (r : Int32) (u : S) (t : State) (H1 : Heap) (locs1 : List Loc), t.heap = H1 → s.vm.Alike t.vm → post r u → B u t → H.size ≤ H1.size → (∀ q : Nat, q < H.size → ¬ A1 q → H1[q]? = H[q]?) → va_S A0 H0 H1 locs1 → W p l e R s m args below meth c H1 locs1 (cells + mc) (slots + ms) Q (F0 m (pc + 3) ls (.int r :: rest))) : W p l e R s m args below meth c H locs cells slots Q (F0 m pc ls st0) := by
  intro T hT X
  rcases hr T hT X with ⟨v, st₀, t, T', L, h0, X', hL, e1, e2, ⟨⟨r, u, hv, hp, hb⟩, hF⟩, st⟩ | ⟨q, st₀, t, T', L, E, ce, h0, X', hL, e1, e2, ⟨u, hp, hb, hF⟩, hce, hcv, hcl, st⟩
  · cases hv
    obtain ⟨k1, k2, k3⟩ := vx_keep h0 e1 hS hA hf hL hF
    obtain ⟨t2, a1, b1⟩ := kk r u t T'.heap (locs ++ L) e1.symm (by rw [← e2]; exact X'.warmed.alike) hp hb k1 k2 k3 T' rfl X'
    exact ⟨t2, st t2 a1, b1⟩
  · obtain ⟨k1, k2, k3⟩ := vx_keep h0 e1 hS hAX hf hL hF
    obtain ⟨t2, a1, b1⟩ := kx E ce q u t T'.heap (locs ++ L) e1.symm (by rw [← e2]; exact X'.warmed.alike) hp hb k1 k2 k3 (by rw [e1]; exact hce) hcv hcl T' rfl X'
    exact ⟨t2, st.trans a1, b1⟩
theorem vx_calll {S SX : Type} {post : Int64 → S → Prop} {px : SX → Prop} {B : S → State → Prop} {BX : String → SX → State → Prop} {AX : Nat → Prop} (hr : vx_Run p l e R s m args below meth c H locs cells slots mc ms (F0 m pc ls st0) rest (va_Ql post B A1 a) (vx_X px BX AX) free) (hS : va_S A0 H0 H locs) (hA : ∀ q, q < H.size → A1 q → A0 q) (hf : ∀ q, free q → A0 q) (hAX : ∀ q, q < H.size → AX q → A0 q)
    (kx : ∀ (E : String) (ce : Cell) (q9 : Addr) (u : SX) (t : State) (H1 : Heap) (locs1 : List Loc), t.heap = H1 → s.vm.Alike t.vm → px u → BX E u t → H.size ≤ H1.size → (∀ q : Nat, q < H.size → ¬ AX q → H1[q]? = H[q]?) → va_S A0 H0 H1 locs1 → H1[q9]? = some ce → ce.vm = .none → s.vm.findClass E = some ce.cls → vx_W p l e R s m args below meth c H1 locs1 (cells + mc) (slots + ms) Q (F0 m pc ls rest) q9)
    (kk : ∀ (r : Int64) (u : S) (t : State) (H1 : Heap) (locs1 : List Loc), t.heap = H1 → s.vm.Alike t.vm → post r u → B u t → H.size ≤ H1.size → (∀ q : Nat, q < H.size → ¬ A1 q → H1[q]? = H[q]?) → va_S A0 H0 H1 locs1 → W p l e R s m args below meth c H1 locs1 (cells + mc) (slots + ms) Q (F0 m (pc + 3) ls (.long r :: rest))) : W p l e R s m args below meth c H locs cells slots Q (F0 m pc ls st0) := by
  intro T hT X
  rcases hr T hT X with ⟨v, st₀, t, T', L, h0, X', hL, e1, e2, ⟨⟨r, u, hv, hp, hb⟩, hF⟩, st⟩ | ⟨q, st₀, t, T', L, E, ce, h0, X', hL, e1, e2, ⟨u, hp, hb, hF⟩, hce, hcv, hcl, st⟩
  · cases hv
    obtain ⟨k1, k2, k3⟩ := vx_keep h0 e1 hS hA hf hL hF
    obtain ⟨t2, a1, b1⟩ := kk r u t T'.heap (locs ++ L) e1.symm (by rw [← e2]; exact X'.warmed.alike) hp hb k1 k2 k3 T' rfl X'
    exact ⟨t2, st t2 a1, b1⟩
  · obtain ⟨k1, k2, k3⟩ := vx_keep h0 e1 hS hAX hf hL hF
    obtain ⟨t2, a1, b1⟩ := kx E ce q u t T'.heap (locs ++ L) e1.symm (by rw [← e2]; exact X'.warmed.alike) hp hb k1 k2 k3 (by rw [e1]; exact hce) hcv hcl T' rfl X'
    exact ⟨t2, st.trans a1, b1⟩
theorem vx_callf {S SX : Type} {post : UInt32 → S → Prop} {px : SX → Prop} {B : S → State → Prop} {BX : String → SX → State → Prop} {AX : Nat → Prop} (hr : vx_Run p l e R s m args below meth c H locs cells slots mc ms (F0 m pc ls st0) rest (va_Qf post B A1 a) (vx_X px BX AX) free) (hS : va_S A0 H0 H locs) (hA : ∀ q, q < H.size → A1 q → A0 q) (hf : ∀ q, free q → A0 q) (hAX : ∀ q, q < H.size → AX q → A0 q)
    (kx : ∀ (E : String) (ce : Cell) (q9 : Addr) (u : SX) (t : State) (H1 : Heap) (locs1 : List Loc), t.heap = H1 → s.vm.Alike t.vm → px u → BX E u t → H.size ≤ H1.size → (∀ q : Nat, q < H.size → ¬ AX q → H1[q]? = H[q]?) → va_S A0 H0 H1 locs1 → H1[q9]? = some ce → ce.vm = .none → s.vm.findClass E = some ce.cls → vx_W p l e R s m args below meth c H1 locs1 (cells + mc) (slots + ms) Q (F0 m pc ls rest) q9)
    (kk : ∀ (r : UInt32) (u : S) (t : State) (H1 : Heap) (locs1 : List Loc), t.heap = H1 → s.vm.Alike t.vm → post r u → B u t → H.size ≤ H1.size → (∀ q : Nat, q < H.size → ¬ A1 q → H1[q]? = H[q]?) → va_S A0 H0 H1 locs1 → W p l e R s m args below meth c H1 locs1 (cells + mc) (slots + ms) Q (F0 m (pc + 3) ls (.float r :: rest))) : W p l e R s m args below meth c H locs cells slots Q (F0 m pc ls st0) := by
  intro T hT X
  rcases hr T hT X with ⟨v, st₀, t, T', L, h0, X', hL, e1, e2, ⟨⟨r, u, hv, hp, hb⟩, hF⟩, st⟩ | ⟨q, st₀, t, T', L, E, ce, h0, X', hL, e1, e2, ⟨u, hp, hb, hF⟩, hce, hcv, hcl, st⟩
  · cases hv
    obtain ⟨k1, k2, k3⟩ := vx_keep h0 e1 hS hA hf hL hF
    obtain ⟨t2, a1, b1⟩ := kk r u t T'.heap (locs ++ L) e1.symm (by rw [← e2]; exact X'.warmed.alike) hp hb k1 k2 k3 T' rfl X'
    exact ⟨t2, st t2 a1, b1⟩
  · obtain ⟨k1, k2, k3⟩ := vx_keep h0 e1 hS hAX hf hL hF
    obtain ⟨t2, a1, b1⟩ := kx E ce q u t T'.heap (locs ++ L) e1.symm (by rw [← e2]; exact X'.warmed.alike) hp hb k1 k2 k3 (by rw [e1]; exact hce) hcv hcl T' rfl X'
    exact ⟨t2, st.trans a1, b1⟩
theorem vx_calld {S SX : Type} {post : UInt64 → S → Prop} {px : SX → Prop} {B : S → State → Prop} {BX : String → SX → State → Prop} {AX : Nat → Prop} (hr : vx_Run p l e R s m args below meth c H locs cells slots mc ms (F0 m pc ls st0) rest (va_Qd post B A1 a) (vx_X px BX AX) free) (hS : va_S A0 H0 H locs) (hA : ∀ q, q < H.size → A1 q → A0 q) (hf : ∀ q, free q → A0 q) (hAX : ∀ q, q < H.size → AX q → A0 q)
    (kx : ∀ (E : String) (ce : Cell) (q9 : Addr) (u : SX) (t : State) (H1 : Heap) (locs1 : List Loc), t.heap = H1 → s.vm.Alike t.vm → px u → BX E u t → H.size ≤ H1.size → (∀ q : Nat, q < H.size → ¬ AX q → H1[q]? = H[q]?) → va_S A0 H0 H1 locs1 → H1[q9]? = some ce → ce.vm = .none → s.vm.findClass E = some ce.cls → vx_W p l e R s m args below meth c H1 locs1 (cells + mc) (slots + ms) Q (F0 m pc ls rest) q9)
    (kk : ∀ (r : UInt64) (u : S) (t : State) (H1 : Heap) (locs1 : List Loc), t.heap = H1 → s.vm.Alike t.vm → post r u → B u t → H.size ≤ H1.size → (∀ q : Nat, q < H.size → ¬ A1 q → H1[q]? = H[q]?) → va_S A0 H0 H1 locs1 → W p l e R s m args below meth c H1 locs1 (cells + mc) (slots + ms) Q (F0 m (pc + 3) ls (.double r :: rest))) : W p l e R s m args below meth c H locs cells slots Q (F0 m pc ls st0) := by
  intro T hT X
  rcases hr T hT X with ⟨v, st₀, t, T', L, h0, X', hL, e1, e2, ⟨⟨r, u, hv, hp, hb⟩, hF⟩, st⟩ | ⟨q, st₀, t, T', L, E, ce, h0, X', hL, e1, e2, ⟨u, hp, hb, hF⟩, hce, hcv, hcl, st⟩
  · cases hv
    obtain ⟨k1, k2, k3⟩ := vx_keep h0 e1 hS hA hf hL hF
    obtain ⟨t2, a1, b1⟩ := kk r u t T'.heap (locs ++ L) e1.symm (by rw [← e2]; exact X'.warmed.alike) hp hb k1 k2 k3 T' rfl X'
    exact ⟨t2, st t2 a1, b1⟩
  · obtain ⟨k1, k2, k3⟩ := vx_keep h0 e1 hS hAX hf hL hF
    obtain ⟨t2, a1, b1⟩ := kx E ce q u t T'.heap (locs ++ L) e1.symm (by rw [← e2]; exact X'.warmed.alike) hp hb k1 k2 k3 (by rw [e1]; exact hce) hcv hcl T' rfl X'
    exact ⟨t2, st.trans a1, b1⟩
theorem vx_callv {S SX : Type} {post : S → Prop} {px : SX → Prop} {B : S → State → Prop} {BX : String → SX → State → Prop} {AX : Nat → Prop} (hr : vx_Run p l e R s m args below meth c H locs cells slots mc ms (F0 m pc ls st0) rest (va_Qv post B A1 a) (vx_X px BX AX) free) (hS : va_S A0 H0 H locs) (hA : ∀ q, q < H.size → A1 q → A0 q) (hf : ∀ q, free q → A0 q) (hAX : ∀ q, q < H.size → AX q → A0 q)
    (kx : ∀ (E : String) (ce : Cell) (q9 : Addr) (u : SX) (t : State) (H1 : Heap) (locs1 : List Loc), t.heap = H1 → s.vm.Alike t.vm → px u → BX E u t → H.size ≤ H1.size → (∀ q : Nat, q < H.size → ¬ AX q → H1[q]? = H[q]?) → va_S A0 H0 H1 locs1 → H1[q9]? = some ce → ce.vm = .none → s.vm.findClass E = some ce.cls → vx_W p l e R s m args below meth c H1 locs1 (cells + mc) (slots + ms) Q (F0 m pc ls rest) q9)
    (kk : ∀ (u : S) (t : State) (H1 : Heap) (locs1 : List Loc), t.heap = H1 → s.vm.Alike t.vm → post u → B u t → H.size ≤ H1.size → (∀ q : Nat, q < H.size → ¬ A1 q → H1[q]? = H[q]?) → va_S A0 H0 H1 locs1 → W p l e R s m args below meth c H1 locs1 (cells + mc) (slots + ms) Q (F0 m (pc + 3) ls (rest))) : W p l e R s m args below meth c H locs cells slots Q (F0 m pc ls st0) := by
  intro T hT X
  rcases hr T hT X with ⟨v, st₀, t, T', L, h0, X', hL, e1, e2, ⟨⟨u, hv, hp, hb⟩, hF⟩, st⟩ | ⟨q, st₀, t, T', L, E, ce, h0, X', hL, e1, e2, ⟨u, hp, hb, hF⟩, hce, hcv, hcl, st⟩
  · cases hv
    obtain ⟨k1, k2, k3⟩ := vx_keep h0 e1 hS hA hf hL hF
    obtain ⟨t2, a1, b1⟩ := kk u t T'.heap (locs ++ L) e1.symm (by rw [← e2]; exact X'.warmed.alike) hp hb k1 k2 k3 T' rfl X'
    exact ⟨t2, st t2 a1, b1⟩
  · obtain ⟨k1, k2, k3⟩ := vx_keep h0 e1 hS hAX hf hL hF
    obtain ⟨t2, a1, b1⟩ := kx E ce q u t T'.heap (locs ++ L) e1.symm (by rw [← e2]; exact X'.warmed.alike) hp hb k1 k2 k3 (by rw [e1]; exact hce) hcv hcl T' rfl X'
    exact ⟨t2, st.trans a1, b1⟩
/-- caught by the row x of this method's table; the rows ahead don't take it -/
theorem vx_catch {own name : String} {E : String} {ce : Cell} {q : Addr} (hown : s.vm.findClass own = some m.cls) (pre : List ExceptionTableEntry) (x : ExceptionTableEntry) (suf : List ExceptionTableEntry) (hsplit : c.exceptionTable.toList = pre ++ x :: suf)
    (hpass : ∀ z ∈ pre, covers z pc = false ∨ (z.catchType ≠ 0 ∧ ∃ nm : String, (Cond.classLink own z.catchType nm).before args s = true ∧ va_Nc E nm s)) (hx : covers x pc = true) (h0 : x.catchType ≠ 0)
    (hlink : (Cond.classLink own x.catchType name).before args s = true) (hcast : (Cond.castable E name).before args s = true) (hcell : H[q]? = some ce) (hv : ce.vm = .none) (hcl : s.vm.findClass E = some ce.cls)
    (kk : W p l e R s m args below meth c H locs cells slots Q (F0 m x.handlerPc ls [.ref q])) : vx_W p l e R s m args below meth c H locs cells slots Q (F0 m pc ls rest) q := by
  intro T hT X
  have hpl : e.platform.magicAccessors = ({} : Platform).magicAccessors := by rw [X.admits.platform]
  obtain ⟨c3, c4, hc3, hc4, hasg⟩ := Cond.castable_spec hcast
  cases Option.some.inj (hc3.symm.trans hcl)
  obtain ⟨c5, hc5, hcl5⟩ := Cond.classLink_spec hown hlink e.platform hpl
  cases Option.some.inj (hc4.symm.trans hc5)
  obtain ⟨vm', X', st⟩ := X.thenCaughtThrough q (g := F0 m pc ls rest) rfl (Steps.refl _) (by rw [hT]; exact hcell) (by rw [hv]; rfl) (by obtain ⟨k9, h9, -⟩ := Vm.findClass_spec hcl; exact ⟨k9, h9⟩) pre x suf hsplit
    (fun z hz => by
      rcases hpass z hz with h | ⟨hz0, nm, hl1, hn1⟩
      · exact Or.inl h
      · obtain ⟨c6, hc6, hcl6⟩ := Cond.classLink_spec hown hl1 e.platform hpl
        obtain ⟨a8, b8, h1, h2, h3⟩ := hn1
        cases Option.some.inj (h1.symm.trans hcl)
        cases Option.some.inj (h2.symm.trans hc6)
        exact Or.inr ⟨hz0, _, hcl6, h3⟩) hx (Or.inr ⟨h0, c4, hcl5, hasg⟩)
  obtain ⟨t, a1, b1⟩ := kk (T.setVm vm') hT X'
  exact ⟨t, st.trans a1, b1⟩
end Rows
section Ends
variable {p : Program} {l : Launch} {e : Env} {R : Room} {s : State} {m : MethodId} {args : Array Value} {below : List Frame} {meth : Method} {c : Code} {H : Heap} {locs : List Loc} {cells slots : Nat} {Q : State → Prop}
variable {mc ms : Nat} {free : Addr → Prop} {A0 A1 : Nat → Prop} {H0 : Heap} {a : Array Value} {ls : Array Slot} {st0 rest : List Value}
variable {Qc : Array Value → State → Outcome → State → Prop} {XC : String → State → State → Prop}
/-- what a body that may throw owes at its end -/
def vx_MQ (below : List Frame) (Qc : Array Value → State → Outcome → State → Prop) (XC : String → State → State → Prop) (a : Array Value) (s : State) (mc ms : Nat) (free : Addr → Prop) : State → Prop := fun t =>
  ∃ o, t.status = .running ∧ Ended t below o ∧ vx_Q Qc XC mc ms free a s o t
theorem vx_ret {g : JFrame} {mc ms : Nat} (k : W p l e R s m args below meth c H locs cells slots (MQ below Qc args s mc ms free) g) : W p l e R s m args below meth c H locs cells slots (vx_MQ below Qc XC args s mc ms free) g := by
  intro T hT X
  obtain ⟨t, a1, o, b1, b2, b3, b4⟩ := k T hT X
  exact ⟨t, a1, o, b1, b2, Or.inl ⟨b3, b4⟩⟩
/-- not caught here: it goes on to the caller -/
theorem vx_widen {g : JFrame} {q : Addr} {k n : Nat} (h1 : cells ≤ k) (h2 : slots ≤ n) (kk : vx_W p l e R s m args below meth c H locs k n Q g q) : vx_W p l e R s m args below meth c H locs cells slots Q g q := fun T hT X => kk T hT (stand_widen X h1 h2)
theorem vx_out {pc : Nat} {E : String} {ce : Cell} {q : Addr} {mc ms : Nat} (hout : ∀ x ∈ c.exceptionTable.toList, covers x pc = false) (hlocks : meth.locks = false) (hcell : H[q]? = some ce) (hv : ce.vm = .none) (hcl : s.vm.findClass E = some ce.cls)
    (hx : ∀ t : State, t.heap = H → s.vm.Alike t.vm → XC E s t) (hf : ∀ z ∈ locs, free z.base) (hc : cells ≤ mc) (hs : slots ≤ ms) :
    vx_W p l e R s m args below meth c H locs cells slots (vx_MQ below Qc XC args s mc ms free) (F0 m pc ls rest) q := by
  intro T hT X
  obtain ⟨st1, hrun, hend, hW, hsm⟩ := X.leaveThrown q (g := F0 m pc ls rest) rfl rfl rfl hout hlocks
  have hcell9 : (T.setFrames (.throwing q :: below)).heap[q]? = some ce := by
    show T.heap[q]? = some ce
    rw [hT]; exact hcell
  exact ⟨_, st1, .threw q, hrun, hend, Or.inr ⟨q, rfl, E, ce, locs, hx _ hT hW.alike, hcell9, hv, hcl, hW, hsm.mono hc hs, hf⟩⟩
theorem vx_frame {U : State} {k n : Nat} (h : s.sameButNew ({ U with vm := s.vm } : State) locs k n) : s.heap.size ≤ U.heap.size ∧ ∀ q : Nat, q < s.heap.size → (∀ z ∈ locs, z.base ≠ q) → U.heap[q]? = s.heap[q]? := by
  obtain ⟨-, h2, -, -, -, h6⟩ := h
  refine ⟨h2, fun q hq hz => ?_⟩
  obtain ⟨c9, e1, e2, e3, e4⟩ := h6 q _ (Array.getElem?_eq_getElem hq)
  have hs : c9.slots = (s.heap[q]).slots := Array.ext_getElem? fun i => e4 i fun hm => hz _ hm rfl
  have h9 : c9 = s.heap[q] := by
    rw [hs] at e2
    exact e2
  have e5 : U.heap[q]? = some c9 := e1
  rw [e5, h9, Array.getElem?_eq_getElem hq]
/-- the words of a throw but the four that speak of the heap -/
def vx_no (w : Cond) : Bool := decide (w ≠ .isRef (.static Bundle.tN "UNASSIGNED_STACK" Bundle.steD)) && decide (w ≠ .isRef (.static Bundle.tN "SUPPRESSED_SENTINEL" Bundle.listD)) && decide (w ≠ .laysStatic Bundle.tN "UNASSIGNED_STACK" Bundle.steD) && decide (w ≠ .laysStatic Bundle.tN "SUPPRESSED_SENTINEL" Bundle.listD)
def vx_at0 (own : String) (ic : Nat) (X : String) (names : List String) : List Cond := (Bundle.ownAtoms0 own ic X names).filter vx_no
def vx_atS (own : String) (ic : Nat) (X : String) (names : List String) : List Cond := (Bundle.ownAtoms own ic X names).filter vx_no
/-- a word that the tables alone decide, or a good one -/
def vx_ot (w : Cond) : Bool := w.onTables || goodWord w
theorem vx_ot_at {args a' : Array Value} {s U : State} {w : Cond} (hW : s.WarmedH U.vm) (hvm : s.vm = U.vm) (hg : vx_ot w = true) (h : w.before args s = true) : w.before a' U = true := by
  simp only [vx_ot, Bool.or_eq_true] at hg
  rcases hg with hg | hg
  · exact va_tabs hg hvm h
  · exact word_at hW (good_of_word hg) h
/-- a list's words: the good ones out of the method's own list, the others by premises of their own -/
theorem vx_hat {args : Array Value} {s : State} {L B : List Cond} (h1 : ∀ w ∈ L.filter goodWord, w.before args s = true) (h2 : ∀ w ∈ L.filter (fun w => !goodWord w), w ∈ B) (h3 : ∀ w ∈ B, w.before args s = true) : ∀ w ∈ L, w.before args s = true := by
  intro w hw
  by_cases g : goodWord w = true
  · exact h1 w (List.mem_filter.mpr ⟨hw, g⟩)
  · refine h3 w (h2 w (List.mem_filter.mpr ⟨hw, ?_⟩))
    show (!goodWord w) = true
    cases hgw : goodWord w
    · rfl
    · exact absurd hgw g
theorem vx_c {args : Array Value} {s : State} {w : Cond} {B : List Cond} (h : w.before args s = true) (t : ∀ w ∈ B, w.before args s = true) : ∀ w' ∈ w :: B, w'.before args s = true := fun w' h' => (List.mem_cons.mp h').elim (fun e => by rw [e]; exact h) (t w')
theorem vx_n {args : Array Value} {s : State} : ∀ w ∈ ([] : List Cond), w.before args s = true := fun _ h => nomatch h
theorem vx_own {args : Array Value} {s : State} {L : List Cond} (h1 : ∀ w ∈ L.filter vx_no, w.before args s = true)
    (hU : (Cond.isRef (.static Bundle.tN "UNASSIGNED_STACK" Bundle.steD)).before args s = true) (hN : (Cond.isRef (.static Bundle.tN "SUPPRESSED_SENTINEL" Bundle.listD)).before args s = true)
    (lU : (Cond.laysStatic Bundle.tN "UNASSIGNED_STACK" Bundle.steD).before args s = true) (lN : (Cond.laysStatic Bundle.tN "SUPPRESSED_SENTINEL" Bundle.listD).before args s = true) : ∀ w ∈ L, w.before args s = true := by
  intro w hw
  by_cases e1 : w = .isRef (.static Bundle.tN "UNASSIGNED_STACK" Bundle.steD)
  · rw [e1]; exact hU
  · by_cases e2 : w = .isRef (.static Bundle.tN "SUPPRESSED_SENTINEL" Bundle.listD)
    · rw [e2]; exact hN
    · by_cases e3 : w = .laysStatic Bundle.tN "UNASSIGNED_STACK" Bundle.steD
      · rw [e3]; exact lU
      · by_cases e4 : w = .laysStatic Bundle.tN "SUPPRESSED_SENTINEL" Bundle.listD
        · rw [e4]; exact lN
        · exact h1 w (List.mem_filter.mpr ⟨hw, by unfold vx_no; rw [decide_eq_true e1, decide_eq_true e2, decide_eq_true e3, decide_eq_true e4]; rfl⟩)
/-- where a static field lies, its class's statics cell in H -/
def vx_L (C n d : String) (A : Nat → Prop) (U : State) (H : Heap) : Prop := ∃ (c : ClassId) (k : Class) (i : Nat) (f : Field) (a : Nat) (cell : Cell), U.vm.findClass C = some c ∧ U.fieldFound? C n d = some (c, k, i, f) ∧ f.isStatic = true ∧ k.statics = some a ∧ H[a]? = some cell ∧ cell.vm.isStatics = true ∧ cell.cls = c ∧ f.slot < cell.slots.size ∧ k.staticTypes[f.slot]? = some f.type ∧ ¬ A a
theorem vx_L.moved {C n d : String} {A : Nat → Prop} {u U : State} {H : Heap} (hvm : u.vm.Alike U.vm) (h : vx_L C n d A u H) : vx_L C n d A U H := by
  obtain ⟨c, k, i, f, a, cell, h1, h2, h3, h4, h5, h6, h7, h8, h9, h10⟩ := h
  obtain ⟨k', hi', he⟩ := State.fieldFound?_setVm hvm h2
  exact ⟨c, k', i, f, a, cell, by rw [hvm.findClass]; exact h1, hi', h3, by rw [he]; exact h4, h5, h6, h7, h8, by rw [he]; exact h9, h10⟩
theorem vx_L.kept {C n d : String} {A : Nat → Prop} {U : State} {H H1 : Heap} (h : vx_L C n d A U H) (hq : ∀ a : Nat, a < H.size → ¬ A a → H1[a]? = H[a]?) : vx_L C n d A U H1 := by
  obtain ⟨c, k, i, f, a, cell, h1, h2, h3, h4, h5, h6, h7, h8, h9, h10⟩ := h
  exact ⟨c, k, i, f, a, cell, h1, h2, h3, h4, by rw [hq a (Array.getElem?_eq_some_iff.mp h5).1 h10]; exact h5, h6, h7, h8, h9, h10⟩
theorem vx_L.narrow {C n d : String} {A B : Nat → Prop} {U : State} {H : Heap} (h : vx_L C n d A U H) (hAB : ∀ q, B q → A q) : vx_L C n d B U H := by
  obtain ⟨c, k, i, f, a, cell, h1, h2, h3, h4, h5, h6, h7, h8, h9, h10⟩ := h
  exact ⟨c, k, i, f, a, cell, h1, h2, h3, h4, h5, h6, h7, h8, h9, fun z => h10 (hAB _ z)⟩
theorem vx_L.word {C n d : String} {A : Nat → Prop} {s : State} {args : Array Value} (h : vx_L C n d A s s.heap) : (Cond.laysStatic C n d).before args s = true := by
  obtain ⟨c, k, i, f, a, cell, h1, h2, h3, h4, h5, h6, h7, h8, h9, -⟩ := h
  show (Cond.laysStatic C n d).holds args s none s [] = true
  exact Cond.laysStatic_of h1 h2 h3 h4 h5 h6 h7 h8 h9
/-- .. and what it holds: null or some reference -/
def vx_Zq (C n d : String) (A : Nat → Prop) (U : State) (H : Heap) : Prop := va_Zq C n d A U H ∧ vx_L C n d A U H
theorem vx_Zq.moved {C n d : String} {A : Nat → Prop} {u U : State} {H : Heap} (hvm : u.vm.Alike U.vm) (h : vx_Zq C n d A u H) : vx_Zq C n d A U H := ⟨va_Zq.moved hvm h.1, vx_L.moved hvm h.2⟩
theorem vx_Zq.kept {C n d : String} {A : Nat → Prop} {U : State} {H H1 : Heap} (h : vx_Zq C n d A U H) (hq : ∀ a : Nat, a < H.size → ¬ A a → H1[a]? = H[a]?) : vx_Zq C n d A U H1 := ⟨va_Zq.kept h.1 hq, vx_L.kept h.2 hq⟩
theorem vx_Zq.narrow {C n d : String} {A B : Nat → Prop} {U : State} {H : Heap} (h : vx_Zq C n d A U H) (hAB : ∀ q, B q → A q) : vx_Zq C n d B U H := ⟨va_Zq.narrow h.1 hAB, vx_L.narrow h.2 hAB⟩
theorem vx_Zqof {args : Array Value} {s : State} {C n d : String} {A : Nat → Prop} (hl : (Cond.laysStatic C n d).before args s = true) (hini : (Cond.initialized C).before args s = true) (h : (Cond.isRef (.static C n d)).before args s = true) (hA : ∀ a : Nat, a < s.heap.size → ¬ A a) : vx_Zq C n d A s s.heap := by
  refine ⟨va_Zqof hl hini h hA, ?_⟩
  obtain ⟨c, k, i, f, a, cell, h1, h2, h3, h4, h5, h6, h7, h8, h9⟩ := Cond.laysStatic_spec hl
  exact ⟨c, k, i, f, a, cell, h1, h2, h3, h4, h5, h6, h7, h8, h9, hA a (Array.getElem?_eq_some_iff.mp h5).1⟩
theorem vx_isRef {C n d : String} {v : Value} {A : Nat → Prop} {s : State} {args : Array Value} (h : va_Z C n d v A s s.heap) (hv : v.isRef = true) : (Cond.isRef (.static C n d)).before args s = true := by
  obtain ⟨cf, kf, fi, f, a, cell, h1, h2, h3, h4, h5, h6, h7, -⟩ := h
  have he : (Term.static C n d).eval args s none [] s = some v := by
    simp [Term.eval, State.fieldNamed?, h1, h2, h4, h5, h6, h7]
  simp only [Cond.before, Cond.holds, Cond.value, he]
  cases v <;> simp_all [Value.isRef]
theorem vx_isRefq {C n d : String} {A : Nat → Prop} {s : State} {args : Array Value} (h : va_Zq C n d A s s.heap) : (Cond.isRef (.static C n d)).before args s = true := by
  rcases h with h | ⟨t, h⟩
  · exact vx_isRef h rfl
  · exact vx_isRef h rfl
/-- the same frame, seen from here: as if the method were called anew in this heap -/
theorem vx_rebase {T : State} (X : Stand p l e R s m args below meth c T locs cells slots) {R' : Room} (hf : R'.frames ≤ R.frames) (hl : R'.locals ≤ R.locals) (hc : cells + R'.cells ≤ R.cells) (hs : slots + R'.slots ≤ R.slots) :
    Stand p l e R' ((T.setVm s.vm).setFrames (.invoking m args :: below)) m args below meth c T [] 0 0 := by
  have htop : (T.setVm s.vm).topJava?.isSome := X.here.top
  have hF : ((T.setVm s.vm).setFrames (.invoking m args :: below)).frames = .invoking m args :: below := State.frames_setFrames _ (State.cur_lt_of_top htop)
  obtain ⟨g₀, hg0⟩ := Option.isSome_iff_exists.mp htop
  obtain ⟨r, hr⟩ := State.topJava?_eq_some.mp hg0
  have hl9 : e.platform.stackLimits (T.setVm s.vm).me = e.platform.stackLimits s.me := X.limits
  have hb9 : (T.setVm s.vm).me.stackBytes = s.me.stackBytes := X.bytes
  refine ⟨X.admits, X.cas, X.clock, hF, ?_, X.hears, X.method, X.code, X.here, X.tail, X.warmed, ?_, ?_, ?_⟩
  · have h := X.room
    have hU : ((T.setVm s.vm).setFrames (.invoking m args :: below)).localsInUse = s.localsInUse := by
      rw [State.localsInUse_invoking hF (meth := meth) (c := c) X.method X.code, State.localsInUse_invoking X.frames X.method X.code]
    simp only [State.hasRoom, Bool.and_eq_true, decide_eq_true_eq] at h ⊢
    obtain ⟨⟨⟨⟨h1, h2, h3, h4, h5, h6⟩, h7⟩, h8⟩, h9⟩ := h
    rw [X.frames, List.length_cons] at h2 h3
    have q1 := X.heapSize
    have q2 := X.used
    simp only [hF, hU, List.length_cons, State.stackLimits_setFrames, State.stackBytes_setFrames, hl9, hb9]
    refine ⟨⟨⟨⟨by omega, by omega, by omega, by omega, by omega, h6⟩, ?_⟩, ?_⟩, X.book⟩
    · show T.heap.size + R'.cells ≤ e.platform.maxCells
      omega
    · show T.slotsUsed + R'.slots ≤ e.platform.maxSlots
      omega
  · rw [State.stackLimits_setFrames]; rfl
  · rw [State.stackBytes_setFrames]; rfl
  · refine ⟨?_, Nat.le_refl _, Nat.le_refl _, ?_, ?_, fun a c9 h9 => ⟨c9, h9, rfl, rfl, fun _ _ => rfl⟩⟩
    · obtain ⟨t, ht, -⟩ := State.frames_cons hr
      show T.setVm s.vm = { ((T.setVm s.vm).setFrames (.invoking m args :: below)).setFrames (T.setVm s.vm).frames with heap := T.heap, slotsUsed := T.slotsUsed }
      rw [State.setFrames_setFrames, State.setFrames_self ht]
      rfl
    · show T.slotsUsed = T.slotsUsed + ((T.heap.toList.drop T.heap.size).map (·.slots.size)).sum
      rw [List.drop_eq_nil_of_le (Nat.le_of_eq Array.length_toList)]
      rfl
    · show ((T.heap.toList.drop T.heap.size).map (·.slots.size)).sum ≤ 0
      rw [List.drop_eq_nil_of_le (Nat.le_of_eq Array.length_toList)]
      exact Nat.le_refl _
/-- 'throw new E()': new; dup; invokespecial; athrow -/
theorem vx_throw0 {cc : ByteArray} {pc : Nat} (hexec : p.tables.exec = Jvm.exec) (hb : c.code = cc) (hl : l.stackTraces = false) {own cls : String} {names : List String} {ik ic mc ms : Nat} {A : Nat → Prop}
    (hown : s.vm.findClass own = some m.cls) (hcls : Bundle.fit cls = true) (hnames : ∀ n ∈ names, Bundle.fit n = true)
    (hk : (Cond.classLink own ik cls).before args s = true) (hini : (Cond.initialized cls).before args s = true) (hat : ∀ w ∈ vx_at0 own ic cls names, w.before args s = true)
    (hgood : ∀ w ∈ Cond.classLink own ik cls :: Cond.initialized cls :: vx_at0 own ic cls names, vx_ot w = true)
    (hU : vx_Zq Bundle.tN "UNASSIGNED_STACK" Bundle.steD A s s.heap) (hN : vx_Zq Bundle.tN "SUPPRESSED_SENTINEL" Bundle.listD A s s.heap) (hS : va_S A s.heap H locs) (hsize : ls.size = c.maxLocals)
    (d0 : decode cc pc = .ok (.new ik, 3)) (d3 : decode cc (pc + 3) = .ok (.dup, 1)) (d4 : decode cc (pc + 4) = .ok (.invokespecial ic, 3)) (d7 : decode cc (pc + 7) = .ok (.athrow, 1))
    (hout : ∀ x ∈ c.exceptionTable.toList, covers x (pc + 7) = false)
    (hRframes : names.length + 3 < R.frames) (hRlocals : (rest.map fun v => v.category).sum + (13 * (names.length + 1) + 42) ≤ R.locals) (hRcells : cells + 1 ≤ R.cells) (hRslots : slots + 6 ≤ R.slots) (hlocks : meth.locks = false)
    (hx : ∀ t : State, s.vm.Alike t.vm → H.size ≤ t.heap.size → (∀ q : Nat, q < H.size → t.heap[q]? = H[q]?) → XC cls s t)
    (hf : ∀ z ∈ locs, free z.base) (hc : cells + 1 ≤ mc) (hs : slots + 6 ≤ ms) :
    W p l e R s m args below meth c H locs cells slots (vx_MQ below Qc XC args s mc ms free) (F0 m pc ls rest) := by
  intro T hT X
  have htr : e.platform.stackTraces = false := (show e.platform.stackTraces = l.stackTraces by rw [X.admits.platform]).trans hl
  have Y := vx_rebase X (R' := { frames := R.frames, locals := R.locals, cells := 1, slots := 6 }) (Nat.le_refl _) (Nat.le_refl _) hRcells hRslots
  obtain ⟨s', hA⟩ : ∃ z, z = (T.setVm s.vm).setFrames (.invoking m args :: below) := ⟨_, rfl⟩
  rw [← hA] at Y
  have hvm : s'.vm = s.vm := by rw [hA]; rfl
  have hhp : s'.heap = H := by rw [hA]; exact hT
  have hW0 : s.WarmedH s'.vm := by rw [hvm]; exact State.WarmedH.refl s
  have hat' : ∀ w ∈ vx_at0 own ic cls names, w.before args s' = true := fun w hw => vx_ot_at hW0 hvm.symm (hgood w (List.mem_cons_of_mem _ (List.mem_cons_of_mem _ hw))) (hat w hw)
  have hk' : (Cond.classLink own ik cls).before args s' = true := vx_ot_at hW0 hvm.symm (hgood _ List.mem_cons_self) hk
  have hini' : (Cond.initialized cls).before args s' = true := vx_ot_at hW0 hvm.symm (hgood _ (List.mem_cons_of_mem _ List.mem_cons_self)) hini
  have hU' : vx_Zq Bundle.tN "UNASSIGNED_STACK" Bundle.steD A s' s'.heap := by rw [hhp]; exact vx_Zq.moved hW0.alike (hU.kept hS.2.1)
  have hN' : vx_Zq Bundle.tN "SUPPRESSED_SENTINEL" Bundle.listD A s' s'.heap := by rw [hhp]; exact vx_Zq.moved hW0.alike (hN.kept hS.2.1)
  have h : ∀ w ∈ Bundle.ownAtoms0 own ic cls names, w.before args s' = true := vx_own hat' (vx_isRefq hU'.1) (vx_isRefq hN'.1) hU'.2.word hN'.2.word
  have hown' : s'.vm.findClass own = some m.cls := by rw [hvm]; exact hown
  have hins : (Cond.instantiable cls 6).before args s' = true := h _ (by simp [Bundle.ownAtoms0])
  obtain ⟨vm₁, cX, kX, hfX, hkX, -, -, X₁, st1⟩ := Y.newCold hexec (own := own) (C := cls) (index := ik) (n := 6) hown' hk' hins hini'
    (g := F0 m pc ls rest) rfl (by rw [hb]; exact d0) (Nat.le_refl _) (Nat.le_refl _)
  generalize hT1 : (T.setVm vm₁).pushCell { cls := cX, slots := kX.instanceTypes.map defaultValue, vm := .none } = T1 at X₁ st1
  have hcat : (Value.ref T.heap.size).category = 1 := rfl
  have hcellA : T1.heap[T.heap.size]? = some (freshCell cX kX) := by rw [← hT1]; exact State.heap_pushCell_size _ _
  have d3' : decode c.code (pc + 3) = .ok (.dup, 1) := by rw [hb]; exact d3
  obtain ⟨U, hsteps, hrun, hend, hW, hsame, ce, hce, hO⟩ := X₁.ctorThrow0 hexec htr (own := own) (cls := cls) (names := names) (ic := ic) hown' hcls hnames h (fun x hx => nomatch hx) hfX hkX hcellA (by rw [hhp, hT]; exact Nat.le_refl _)
    (g := { method := m, pc := pc + 4, locals := ls, stack := .ref T.heap.size :: .ref T.heap.size :: rest, locked := none }) rfl hsize rfl rfl (rest := rest) rfl
    (by rw [hb]; exact d4) (by rw [hb]; exact d7) hout hRframes (by simp only [List.map_cons, List.sum_cons, hcat]; omega) hlocks
  obtain ⟨f1, f2⟩ := vx_frame hsame
  rw [hhp] at f1 f2
  have hWs : s.WarmedH U.vm := State.WarmedH.trans hW0 hW
  have hcl : s.vm.findClass cls = some ce.cls := by
    have h9 := hO.cls
    rw [hvm] at h9
    exact h9
  have hall : s.sameButNew ({ U with vm := s.vm } : State) locs mc ms := by
    subst hA
    obtain ⟨e1, e2⟩ := hsame
    rw [State.setFrames_setFrames] at e1
    have h2 : (T.setVm s.vm).sameButNew ({ U with vm := s.vm } : State) [] (0 + 1) (0 + 6) := ⟨e1, e2⟩
    have h3 := X.same.trans h2
    rw [List.append_nil] at h3
    exact h3.mono hc hs
  refine ⟨U, ?_, .threw T.heap.size, hrun, hend, Or.inr ⟨T.heap.size, rfl, cls, ce, locs, hx U hWs.alike f1 (fun q hq => f2 q hq (fun z hz => nomatch hz)), hce, hO.vm, hcl, hWs, hall, hf⟩⟩
  refine st1 _ ?_
  show Steps p.tables e below (T1.setTop { method := m, pc := pc + 3, locals := ls, stack := .ref T.heap.size :: rest, locked := none }) _
  jvm_step X₁.here [X₁.here.top, hexec, d3', Value.category]
  exact hsteps
/-- 'throw new E("text")': new; dup; ldc; invokespecial; athrow -/
theorem vx_throwS {cc : ByteArray} {pc : Nat} (hexec : p.tables.exec = Jvm.exec) (hb : c.code = cc) (hl : l.stackTraces = false) {own cls text : String} {names : List String} {ik is ic mc ms sa : Nat} {A : Nat → Prop}
    (hown : s.vm.findClass own = some m.cls) (hcls : Bundle.fit cls = true) (hnames : ∀ n ∈ names, Bundle.fit n = true)
    (hk : (Cond.classLink own ik cls).before args s = true) (hini : (Cond.initialized cls).before args s = true) (hstr : vk_R own is text sa s) (hat : ∀ w ∈ vx_atS own ic cls names, w.before args s = true)
    (hgood : ∀ w ∈ Cond.classLink own ik cls :: Cond.initialized cls :: vx_atS own ic cls names, vx_ot w = true)
    (hU : vx_Zq Bundle.tN "UNASSIGNED_STACK" Bundle.steD A s s.heap) (hN : vx_Zq Bundle.tN "SUPPRESSED_SENTINEL" Bundle.listD A s s.heap) (hS : va_S A s.heap H locs) (hsize : ls.size = c.maxLocals)
    (d0 : decode cc pc = .ok (.new ik, 3)) (d3 : decode cc (pc + 3) = .ok (.dup, 1)) (d4 : decode cc (pc + 4) = .ok (.ldc is, 2)) (d6 : decode cc (pc + 6) = .ok (.invokespecial ic, 3)) (d9 : decode cc (pc + 9) = .ok (.athrow, 1))
    (hout : ∀ x ∈ c.exceptionTable.toList, covers x (pc + 9) = false)
    (hRframes : names.length + 3 < R.frames) (hRlocals : (rest.map fun v => v.category).sum + (13 * (names.length + 1) + 43) ≤ R.locals) (hRcells : cells + 1 ≤ R.cells) (hRslots : slots + 6 ≤ R.slots) (hlocks : meth.locks = false)
    (hx : ∀ t : State, s.vm.Alike t.vm → H.size ≤ t.heap.size → (∀ q : Nat, q < H.size → t.heap[q]? = H[q]?) → XC cls s t)
    (hf : ∀ z ∈ locs, free z.base) (hc : cells + 1 ≤ mc) (hs : slots + 6 ≤ ms) :
    W p l e R s m args below meth c H locs cells slots (vx_MQ below Qc XC args s mc ms free) (F0 m pc ls rest) := by
  intro T hT X
  have htr : e.platform.stackTraces = false := (show e.platform.stackTraces = l.stackTraces by rw [X.admits.platform]).trans hl
  have Y := vx_rebase X (R' := { frames := R.frames, locals := R.locals, cells := 1, slots := 6 }) (Nat.le_refl _) (Nat.le_refl _) hRcells hRslots
  obtain ⟨s', hA⟩ : ∃ z, z = (T.setVm s.vm).setFrames (.invoking m args :: below) := ⟨_, rfl⟩
  rw [← hA] at Y
  have hvm : s'.vm = s.vm := by rw [hA]; rfl
  have hhp : s'.heap = H := by rw [hA]; exact hT
  have hW0 : s.WarmedH s'.vm := by rw [hvm]; exact State.WarmedH.refl s
  have hat' : ∀ w ∈ vx_atS own ic cls names, w.before args s' = true := fun w hw => vx_ot_at hW0 hvm.symm (hgood w (List.mem_cons_of_mem _ (List.mem_cons_of_mem _ hw))) (hat w hw)
  have hk' : (Cond.classLink own ik cls).before args s' = true := vx_ot_at hW0 hvm.symm (hgood _ List.mem_cons_self) hk
  have hini' : (Cond.initialized cls).before args s' = true := vx_ot_at hW0 hvm.symm (hgood _ (List.mem_cons_of_mem _ List.mem_cons_self)) hini
  have hU' : vx_Zq Bundle.tN "UNASSIGNED_STACK" Bundle.steD A s' s'.heap := by rw [hhp]; exact vx_Zq.moved hW0.alike (hU.kept hS.2.1)
  have hN' : vx_Zq Bundle.tN "SUPPRESSED_SENTINEL" Bundle.listD A s' s'.heap := by rw [hhp]; exact vx_Zq.moved hW0.alike (hN.kept hS.2.1)
  have h : ∀ w ∈ Bundle.ownAtoms own ic cls names, w.before args s' = true := vx_own hat' (vx_isRefq hU'.1) (vx_isRefq hN'.1) hU'.2.word hN'.2.word
  have hown' : s'.vm.findClass own = some m.cls := by rw [hvm]; exact hown
  have hins : (Cond.instantiable cls 6).before args s' = true := h _ (by simp [Bundle.ownAtoms])
  obtain ⟨vm₁, cX, kX, hfX, hkX, -, -, X₁, st1⟩ := Y.newCold hexec (own := own) (C := cls) (index := ik) (n := 6) hown' hk' hins hini'
    (g := F0 m pc ls rest) rfl (by rw [hb]; exact d0) (Nat.le_refl _) (Nat.le_refl _)
  generalize hT1 : (T.setVm vm₁).pushCell { cls := cX, slots := kX.instanceTypes.map defaultValue, vm := .none } = T1 at X₁ st1
  have hcat : (Value.ref T.heap.size).category = 1 := rfl
  have hcellA : T1.heap[T.heap.size]? = some (freshCell cX kX) := by rw [← hT1]; exact State.heap_pushCell_size _ _
  have d3' : decode c.code (pc + 3) = .ok (.dup, 1) := by rw [hb]; exact d3
  have d4' : decode c.code (pc + 4) = .ok (.ldc is, 2) := by rw [hb]; exact d4
  have hstr' : vk_R own is text sa s' := vk_R.warm hW0 hstr
  obtain ⟨U, hsteps, hrun, hend, hW, hsame, ce, hce, hO⟩ := X₁.ctorThrowS hexec htr (own := own) (cls := cls) (names := names) (ic := ic) hown' hcls hnames h (fun x hx => nomatch hx) hfX hkX hcellA (by rw [hhp, hT]; exact Nat.le_refl _) (msg := .ref sa) rfl
    (g := { method := m, pc := pc + 6, locals := ls, stack := .ref sa :: .ref T.heap.size :: .ref T.heap.size :: rest, locked := none }) rfl hsize rfl rfl (rest := rest) rfl
    (by rw [hb]; exact d6) (by rw [hb]; exact d9) hout hRframes (by simp only [List.map_cons, List.sum_cons, hcat]; omega) hlocks
  obtain ⟨f1, f2⟩ := vx_frame hsame
  rw [hhp] at f1 f2
  have hWs : s.WarmedH U.vm := State.WarmedH.trans hW0 hW
  have hcl : s.vm.findClass cls = some ce.cls := by
    have h9 := hO.cls
    rw [hvm] at h9
    exact h9
  have hall : s.sameButNew ({ U with vm := s.vm } : State) locs mc ms := by
    subst hA
    obtain ⟨e1, e2⟩ := hsame
    rw [State.setFrames_setFrames] at e1
    have h2 : (T.setVm s.vm).sameButNew ({ U with vm := s.vm } : State) [] (0 + 1) (0 + 6) := ⟨e1, e2⟩
    have h3 := X.same.trans h2
    rw [List.append_nil] at h3
    exact h3.mono hc hs
  refine ⟨U, ?_, .threw T.heap.size, hrun, hend, Or.inr ⟨T.heap.size, rfl, cls, ce, locs, hx U hWs.alike f1 (fun q hq => f2 q hq (fun z hz => nomatch hz)), hce, hO.vm, hcl, hWs, hall, hf⟩⟩
  refine st1 _ ?_
  show Steps p.tables e below (T1.setTop { method := m, pc := pc + 3, locals := ls, stack := .ref T.heap.size :: rest, locked := none }) _
  jvm_step X₁.here [X₁.here.top, hexec, d3', Value.category]
  exact X₁.ldcString hexec (own := own) (text := text) (index := is) (a := sa) hown' hstr'.1 hstr'.2
    (g := { method := m, pc := pc + 4, locals := ls, stack := .ref T.heap.size :: .ref T.heap.size :: rest, locked := none }) rfl d4' _ hsteps
/-- 'throw new E("text")', the text by a wide index -/
theorem vx_throwSW {cc : ByteArray} {pc : Nat} (hexec : p.tables.exec = Jvm.exec) (hb : c.code = cc) (hl : l.stackTraces = false) {own cls text : String} {names : List String} {ik is ic mc ms sa : Nat} {A : Nat → Prop}
    (hown : s.vm.findClass own = some m.cls) (hcls : Bundle.fit cls = true) (hnames : ∀ n ∈ names, Bundle.fit n = true)
    (hk : (Cond.classLink own ik cls).before args s = true) (hini : (Cond.initialized cls).before args s = true) (hstr : vk_R own is text sa s) (hat : ∀ w ∈ vx_atS own ic cls names, w.before args s = true)
    (hgood : ∀ w ∈ Cond.classLink own ik cls :: Cond.initialized cls :: vx_atS own ic cls names, vx_ot w = true)
    (hU : vx_Zq Bundle.tN "UNASSIGNED_STACK" Bundle.steD A s s.heap) (hN : vx_Zq Bundle.tN "SUPPRESSED_SENTINEL" Bundle.listD A s s.heap) (hS : va_S A s.heap H locs) (hsize : ls.size = c.maxLocals)
    (d0 : decode cc pc = .ok (.new ik, 3)) (d3 : decode cc (pc + 3) = .ok (.dup, 1)) (d4 : decode cc (pc + 4) = .ok (.ldc_w is, 3)) (d7 : decode cc (pc + 7) = .ok (.invokespecial ic, 3)) (d10 : decode cc (pc + 10) = .ok (.athrow, 1))
    (hout : ∀ x ∈ c.exceptionTable.toList, covers x (pc + 10) = false)
    (hRframes : names.length + 3 < R.frames) (hRlocals : (rest.map fun v => v.category).sum + (13 * (names.length + 1) + 43) ≤ R.locals) (hRcells : cells + 1 ≤ R.cells) (hRslots : slots + 6 ≤ R.slots) (hlocks : meth.locks = false)
    (hx : ∀ t : State, s.vm.Alike t.vm → H.size ≤ t.heap.size → (∀ q : Nat, q < H.size → t.heap[q]? = H[q]?) → XC cls s t)
    (hf : ∀ z ∈ locs, free z.base) (hc : cells + 1 ≤ mc) (hs : slots + 6 ≤ ms) :
    W p l e R s m args below meth c H locs cells slots (vx_MQ below Qc XC args s mc ms free) (F0 m pc ls rest) := by
  intro T hT X
  have htr : e.platform.stackTraces = false := (show e.platform.stackTraces = l.stackTraces by rw [X.admits.platform]).trans hl
  have Y := vx_rebase X (R' := { frames := R.frames, locals := R.locals, cells := 1, slots := 6 }) (Nat.le_refl _) (Nat.le_refl _) hRcells hRslots
  obtain ⟨s', hA⟩ : ∃ z, z = (T.setVm s.vm).setFrames (.invoking m args :: below) := ⟨_, rfl⟩
  rw [← hA] at Y
  have hvm : s'.vm = s.vm := by rw [hA]; rfl
  have hhp : s'.heap = H := by rw [hA]; exact hT
  have hW0 : s.WarmedH s'.vm := by rw [hvm]; exact State.WarmedH.refl s
  have hat' : ∀ w ∈ vx_atS own ic cls names, w.before args s' = true := fun w hw => vx_ot_at hW0 hvm.symm (hgood w (List.mem_cons_of_mem _ (List.mem_cons_of_mem _ hw))) (hat w hw)
  have hk' : (Cond.classLink own ik cls).before args s' = true := vx_ot_at hW0 hvm.symm (hgood _ List.mem_cons_self) hk
  have hini' : (Cond.initialized cls).before args s' = true := vx_ot_at hW0 hvm.symm (hgood _ (List.mem_cons_of_mem _ List.mem_cons_self)) hini
  have hU' : vx_Zq Bundle.tN "UNASSIGNED_STACK" Bundle.steD A s' s'.heap := by rw [hhp]; exact vx_Zq.moved hW0.alike (hU.kept hS.2.1)
  have hN' : vx_Zq Bundle.tN "SUPPRESSED_SENTINEL" Bundle.listD A s' s'.heap := by rw [hhp]; exact vx_Zq.moved hW0.alike (hN.kept hS.2.1)
  have h : ∀ w ∈ Bundle.ownAtoms own ic cls names, w.before args s' = true := vx_own hat' (vx_isRefq hU'.1) (vx_isRefq hN'.1) hU'.2.word hN'.2.word
  have hown' : s'.vm.findClass own = some m.cls := by rw [hvm]; exact hown
  have hins : (Cond.instantiable cls 6).before args s' = true := h _ (by simp [Bundle.ownAtoms])
  obtain ⟨vm₁, cX, kX, hfX, hkX, -, -, X₁, st1⟩ := Y.newCold hexec (own := own) (C := cls) (index := ik) (n := 6) hown' hk' hins hini'
    (g := F0 m pc ls rest) rfl (by rw [hb]; exact d0) (Nat.le_refl _) (Nat.le_refl _)
  generalize hT1 : (T.setVm vm₁).pushCell { cls := cX, slots := kX.instanceTypes.map defaultValue, vm := .none } = T1 at X₁ st1
  have hcat : (Value.ref T.heap.size).category = 1 := rfl
  have hcellA : T1.heap[T.heap.size]? = some (freshCell cX kX) := by rw [← hT1]; exact State.heap_pushCell_size _ _
  have d3' : decode c.code (pc + 3) = .ok (.dup, 1) := by rw [hb]; exact d3
  have d4' : decode c.code (pc + 4) = .ok (.ldc_w is, 3) := by rw [hb]; exact d4
  have hstr' : vk_R own is text sa s' := vk_R.warm hW0 hstr
  obtain ⟨U, hsteps, hrun, hend, hW, hsame, ce, hce, hO⟩ := X₁.ctorThrowS hexec htr (own := own) (cls := cls) (names := names) (ic := ic) hown' hcls hnames h (fun x hx => nomatch hx) hfX hkX hcellA (by rw [hhp, hT]; exact Nat.le_refl _) (msg := .ref sa) rfl
    (g := { method := m, pc := pc + 7, locals := ls, stack := .ref sa :: .ref T.heap.size :: .ref T.heap.size :: rest, locked := none }) rfl hsize rfl rfl (rest := rest) rfl
    (by rw [hb]; exact d7) (by rw [hb]; exact d10) hout hRframes (by simp only [List.map_cons, List.sum_cons, hcat]; omega) hlocks
  obtain ⟨f1, f2⟩ := vx_frame hsame
  rw [hhp] at f1 f2
  have hWs : s.WarmedH U.vm := State.WarmedH.trans hW0 hW
  have hcl : s.vm.findClass cls = some ce.cls := by
    have h9 := hO.cls
    rw [hvm] at h9
    exact h9
  have hall : s.sameButNew ({ U with vm := s.vm } : State) locs mc ms := by
    subst hA
    obtain ⟨e1, e2⟩ := hsame
    rw [State.setFrames_setFrames] at e1
    have h2 : (T.setVm s.vm).sameButNew ({ U with vm := s.vm } : State) [] (0 + 1) (0 + 6) := ⟨e1, e2⟩
    have h3 := X.same.trans h2
    rw [List.append_nil] at h3
    exact h3.mono hc hs
  refine ⟨U, ?_, .threw T.heap.size, hrun, hend, Or.inr ⟨T.heap.size, rfl, cls, ce, locs, hx U hWs.alike f1 (fun q hq => f2 q hq (fun z hz => nomatch hz)), hce, hO.vm, hcl, hWs, hall, hf⟩⟩
  refine st1 _ ?_
  show Steps p.tables e below (T1.setTop { method := m, pc := pc + 3, locals := ls, stack := .ref T.heap.size :: rest, locked := none }) _
  jvm_step X₁.here [X₁.here.top, hexec, d3', Value.category]
  exact X₁.ldcStringW hexec (own := own) (text := text) (index := is) (a := sa) hown' hstr'.1 hstr'.2
    (g := { method := m, pc := pc + 4, locals := ls, stack := .ref T.heap.size :: .ref T.heap.size :: rest, locked := none }) rfl d4' _ hsteps
end Ends
section Bodies
variable {l : Launch}
theorem vx_ofW {y : MethodName} {ws ws' : List Cond} {rm : Room} {Pc : Array Value → State → Prop} {Qc : Array Value → State → Outcome → State → Prop} {XC : String → State → State → Prop} {mc ms : Nat} {free : Addr → Prop} {cc : ByteArray} {maxL : Nat} {ret : Option FieldType}
    (hy : plainName y.cls = true) (hw : ws = Cond.code y cc maxL ret :: ws')
    (body : ∀ p e s m args below meth c s₁, BodyLoose p l y (headSpec ws rm) cc maxL ret e s m args below meth c s₁ → c.maxLocals = maxL → (∀ x ∈ c.exceptionTable.toList, False) → Pc args s →
      W p l e (headSpec ws rm).room s m args below meth c s.heap [] 0 0 (vx_MQ below Qc XC args s mc ms free) (entryFrame m args maxL)) : vx_Met l y ws rm Pc Qc XC mc ms free := by
  refine MetFree.of_bodyS (code := cc) (maxLocals := maxL) (ret := ret) hy ?_ ?_
  · intro args s m h hn
    obtain ⟨meth, c, h1, h2, h3, h4, h5, h6, -, -⟩ := Cond.code_spec hn (atoms_spec (ws := ws) h _ (by rw [hw]; exact List.mem_cons_self))
    exact ⟨meth, c, h1, h2, h3, h4, h5, h6⟩
  · intro p e s m args below meth c s₁ B hml hP _
    have hh0 : s₁.heap = s.heap := by rw [B.state]; rfl
    have ht : ∀ x ∈ c.exceptionTable.toList, False := by
      obtain ⟨meth9, c9, h1, h2, -, -, -, -, h7, -⟩ := Cond.code_spec B.named (atoms_spec (ws := ws) B.pre _ (by rw [hw]; exact List.mem_cons_self))
      cases Option.some.inj (h1.symm.trans B.method)
      cases Option.some.inj (h2.symm.trans (Stand.of_body B).code)
      intro x hx
      rw [Array.isEmpty_iff.mp h7] at hx
      cases hx
    obtain ⟨t, a1, o, b1, b2, b3⟩ := body p e s m args below meth c s₁ B hml ht hP s₁ hh0 (Stand.of_body B)
    exact ⟨t, o, a1, b1, b2, b3⟩
/-- the table of a body with handlers -/
theorem vx_table {p : Program} {x y : MethodName} {S : Spec} {cc bytes : ByteArray} {maxL maxL' : Nat} {ret ret' : Option FieldType} {e : Env} {s s₁ : State} {m : MethodId} {args : Array Value} {below : List Frame} {meth : Method} {c : Code} {hh : List (Nat × Nat × Nat × Nat)}
    (B : BodyLoose p l y S cc maxL ret e s m args below meth c s₁) (h : (Cond.codeWith y bytes maxL' ret' hh).before args s = true) : c.exceptionTable.toList = tableOf hh := by
  obtain ⟨m9, meth9, c9, hn9, h1, h2, -, -, h6, -⟩ := Cond.codeWith_spec h
  cases Option.some.inj (hn9.symm.trans B.named)
  cases Option.some.inj (h1.symm.trans B.method)
  cases Option.some.inj (h2.symm.trans (Stand.of_body B).code)
  rw [← h6, table_eq]
end Bodies
end VXA
/-! ===== END ===== -/
/-! ===== BEGIN a static call of a method with an exception table ===== -/
section VXS
variable {p : Program} {l : Launch} {e : Env} {R : Room} {s : State} {m : MethodId} {args : Array Value} {below : List Frame} {meth : Method} {c : Code} {T : State} {H : Heap} {locs : List Loc} {cells slots : Nat}
abbrev vx_CSW (R : Room) (s : State) (args : Array Value) (own : String) (index : Nat) (y : MethodName) (bytes : ByteArray) (maxL : Nat) (ret : Option FieldType) (hh : List (Nat × Nat × Nat × Nat)) (ws : List Cond) (rm : Room) (mc ms n : Nat) : Prop :=
  (rm.cells = mc ∧ rm.slots = ms ∧ rm.frames + 1 ≤ R.frames ∧ 8 + (maxL + 11) + rm.locals ≤ R.locals ∧ (∀ w ∈ ws, ∀ (a' : Array Value) (U : State), s.WarmedH U.vm → w.before a' U = true) ∧ Cond.codeWith y bytes maxL ret hh ∈ ws) ∧
  (Cond.codeWith y bytes maxL ret hh).before args s = true ∧ (Cond.initialized y.cls).before args s = true ∧ (y.cls ≠ "java/lang/invoke/MethodHandle" ∧ y.cls ≠ "java/lang/invoke/VarHandle") ∧
  (∀ sig, parseMethodDescriptor y.desc = some sig → n = sig.parameters.length) ∧ (Cond.methodLink own index y).before args s = true ∧ (Cond.static y).before args s = true
theorem vx_cwSW {own : String} {index maxL mc ms : Nat} {y : MethodName} {bytes : ByteArray} {ret : Option FieldType} {hh : List (Nat × Nat × Nat × Nat)} {Ts ws ws' : List Cond} {rm : Room} (n : Nat) (ht : ∀ w ∈ Ts, w.before args s = true) (hT : GoodIn Ts (va_wsS own index y ws)) (hw : ws = Cond.codeWith y bytes maxL ret hh :: ws') (hrc : rm.cells = mc) (hrs : rm.slots = ms)
    (hd : y.cls ≠ "java/lang/invoke/MethodHandle" ∧ y.cls ≠ "java/lang/invoke/VarHandle" ∧ (parseMethodDescriptor y.desc).map (fun d => d.parameters.length) = some n) (hR : rm.frames + 1 ≤ R.frames ∧ 8 + (maxL + 11) + rm.locals ≤ R.locals) :
    vx_CSW R s args own index y bytes maxL ret hh ws rm mc ms n := by
  have ok : ∀ w ∈ va_wsS own index y ws, w.before args s = true := fun w h => ht w (hT w h).1
  have hG : GoodIn Ts ws := fun w h => hT w (by unfold va_wsS; exact List.mem_append_right _ h)
  have hc : Cond.codeWith y bytes maxL ret hh ∈ ws := by rw [hw]; exact List.mem_cons_self
  refine ⟨⟨hrc, hrs, hR.1, hR.2, pay_in ht hG, hc⟩, ht _ (hG _ hc).1, ok _ (by simp [va_wsS]), ⟨hd.1, hd.2.1⟩, fun sig h => ?_, ok _ (by simp [va_wsS]), ok _ (by simp [va_wsS])⟩
  have h2 := hd.2.2
  rw [h] at h2
  exact (Option.some.inj h2).symm
theorem vx_callSW (X : Stand p l e R s m args below meth c T locs cells slots) (hexec : p.tables.exec = Jvm.exec) {own : String} {index : Nat} {y : MethodName} {bytes : ByteArray} {maxL : Nat} {ret : Option FieldType} {hh : List (Nat × Nat × Nat × Nat)}
    (hown : s.vm.findClass own = some m.cls) (hlink : (Cond.methodLink own index y).before args s = true) (hstat : (Cond.static y).before args s = true) (hinit : (Cond.initialized y.cls).before args s = true)
    (hcode : (Cond.codeWith y bytes maxL ret hh).before args s = true) (hy : y.cls ≠ "java/lang/invoke/MethodHandle" ∧ y.cls ≠ "java/lang/invoke/VarHandle")
    {W9 : Nat} {Pre : Pt → Array Value → Prop} {Post : Pt → Array Value → Option Value → Pt → Prop} (hK : Back l R p e below s args y 3 W9 Pre Post)
    {g : JFrame} (hg : g.method = m) (hsize : g.locals.size = c.maxLocals) {argsL rest : List Value} (hlen : ∀ sig, parseMethodDescriptor y.desc = some sig → argsL.length = sig.parameters.length)
    (hstack : g.stack = argsL.reverse ++ rest) (hW : 2 * g.monitorRoom + (rest.map fun v => v.category).sum ≤ W9) (hdg : decode c.code g.pc = .ok (.invokestatic index, 3))
    (hpre : ∀ vm₁, s.WarmedH vm₁ → Pre ⟨T.setVm vm₁, locs, cells, slots⟩ argsL.toArray) :
    ∃ (v : Option Value) (vm₁ : Vm) (B : Pt), s.WarmedH vm₁ ∧ Stand p l e R s m args below meth c B.U B.locs B.cells B.slots ∧ Post ⟨T.setVm vm₁, locs, cells, slots⟩ argsL.toArray v B ∧
      ∀ target, Steps p.tables e below (B.U.setTop { g with pc := g.pc + 3, stack := v.toList ++ rest }) target → Steps p.tables e below (T.setTop g) target := by
  obtain ⟨mk, methM, cM, hnamed, hmethM, -, -, -, -, -, -, hsigM⟩ := Cond.codeWith_spec hcode
  have hstatic : methM.isStatic = true := Cond.static_spec hnamed hmethM hstat
  obtain ⟨kP, hkP, -⟩ := className_of_methodNamed hnamed
  have hinitP : kP.init = .initialized := Cond.initialized_spec (findClass_of_methodNamed hnamed) hkP hinit
  obtain ⟨vm₁, X₁, hstep₁⟩ := X.invokestatic hexec hown hlink hnamed hmethM hstatic hkP hinitP hy (g := g) hg (argsL := argsL) (rest := rest) (hlen _ hsigM) hstack hdg
  obtain ⟨v, B, X', hpost, hsteps⟩ := hK m meth c ⟨T.setVm vm₁, locs, cells, slots⟩ { g with stack := rest } (.invokestatic index) mk argsL.toArray X₁ hg hsize hdg hW (X₁.named hnamed) (hpre vm₁ X₁.warmed)
  exact ⟨v, vm₁, B, X₁.warmed, X', hpost, fun target h => hstep₁ _ fun acts => by rw [doInvoke_state]; exact hsteps.trans h⟩
theorem vx_runSW {y : MethodName} {bytes cc : ByteArray} {maxL nL mc ms n index : Nat} {ret : Option FieldType} {hh : List (Nat × Nat × Nat × Nat)} {ws : List Cond} {rm : Room} {Pc : Array Value → State → Prop} {Qc : Array Value → State → Outcome → State → Prop} {free : Addr → Prop} {Ts : List Cond} {own : String} {As rest : List Value} {g : JFrame}
    (S : CallFix p m c cc nL s args Ts own) (hM : Met l y ws rm Pc Qc mc ms free) (cw : vx_CSW R s args own index y bytes maxL ret hh ws rm mc ms n) (hp : PreS s H Pc As)
    (hg : g.method = m) (hn : As.length = n) (hsize : g.locals.size = nL) (hstack : g.stack = As.reverse ++ rest) (hW : 2 * g.monitorRoom + (rest.map fun v => v.category).sum ≤ 8) (hdg : decode cc g.pc = .ok (.invokestatic index, 3)) (hf : cells + mc ≤ R.cells ∧ slots + ms ≤ R.slots) :
    va_Run p l e R s m args below meth c H locs cells slots mc ms g rest (Qc As.toArray) (free) := by
  obtain ⟨⟨hrc, hrs, hfr, hlo, hws, hcw⟩, hcode, hini, hy, hlen, hl, hstt⟩ := cw
  have hK : Back l R p e below s args y 3 8 (PreOf R mc ms Pc) (PostOf Qc mc ms free) := va_backW (hh := hh) (bytes := bytes) (maxL := maxL) (ret := ret) hM hp.1 hrc hrs hfr hlo hws hcw (fun a' U hW => word_at hW (Or.inl (by first | rfl | simp [Cond.onTables, Cond.keeps, Cond.steady])) hini)
  obtain ⟨hx, hb, hml, ho, -⟩ := S
  intro T hT X
  obtain ⟨v, vm₁, ⟨U', l2, c2, s2⟩, hW₁, X', ⟨g', mk, t, L, e1, e2, hq, h1, hL, h2, h3⟩, st⟩ := vx_callSW X hx (hh := hh) (bytes := bytes) (maxL := maxL) (ret := ret) ho hl hstt hini hcode hy hK hg (hsize.trans hml.symm) (argsL := As) (rest := rest) (fun sig h => hn.trans (hlen sig h)) hstack hW (by rw [hb]; exact hdg)
    (fun vm₁ hW₁ => ⟨hf.1, hf.2, hp.2 (T.setVm vm₁) hT hW₁⟩)
  dsimp only [Pt.U, Pt.locs, Pt.cells, Pt.slots] at X' e1 e2 h1 h2 h3 st
  subst h1; subst h2; subst h3
  exact ⟨v, (T.setVm vm₁).calling g' mk As.toArray, t, U', L, hT, X', hL, e1, e2, hq, st⟩
/-- not caught here, past rows that name other classes: it goes on to the caller -/
theorem vx_outP {p : Program} {l : Launch} {e : Env} {R : Room} {s : State} {m : MethodId} {args : Array Value} {below : List Frame} {meth : Method} {c : Code} {H : Heap} {locs : List Loc} {cells slots : Nat} {free : Addr → Prop} {ls : Array Slot} {rest : List Value} {Qc : Array Value → State → Outcome → State → Prop} {XC : String → State → State → Prop}
    {pc : Nat} {own E : String} {ce : Cell} {q : Addr} {mc ms : Nat} (hown : s.vm.findClass own = some m.cls) (hlocks : meth.locks = false)
    (hpass : ∀ z ∈ c.exceptionTable.toList, covers z pc = false ∨ (z.catchType ≠ 0 ∧ ∃ nm : String, (Cond.classLink own z.catchType nm).before args s = true ∧ va_Nc E nm s)) (hcell : H[q]? = some ce) (hv : ce.vm = .none) (hcl : s.vm.findClass E = some ce.cls)
    (hx : ∀ t : State, t.heap = H → s.vm.Alike t.vm → XC E s t) (hf : ∀ z ∈ locs, free z.base) (hc : cells ≤ mc) (hs : slots ≤ ms) :
    vx_W p l e R s m args below meth c H locs cells slots (vx_MQ below Qc XC args s mc ms free) (F0 m pc ls rest) q := by
  intro T hT X
  have hpl : e.platform.magicAccessors = ({} : Platform).magicAccessors := by rw [X.admits.platform]
  obtain ⟨vm', hW', X', st⟩ := X.outThrough hlocks q (g := F0 m pc ls rest) rfl rfl rfl (cell := ce) (by rw [hT]; exact hcell) (by rw [hv]; rfl)
    (by obtain ⟨k9, h9, -⟩ := Vm.findClass_spec hcl; exact ⟨k9, h9⟩) (fun z hz => by
      rcases hpass z hz with h | ⟨hz0, nm, hl1, hn1⟩
      · exact Or.inl h
      · obtain ⟨c6, hc6, hcl6⟩ := Cond.classLink_spec hown hl1 e.platform hpl
        obtain ⟨a8, b8, h1, h2, h3⟩ := hn1
        cases Option.some.inj (h1.symm.trans hcl)
        cases Option.some.inj (h2.symm.trans hc6)
        exact Or.inr ⟨hz0, _, hcl6, h3⟩)
  obtain ⟨g₀, hfr⟩ := X'.frames_eq
  have hcell9 : ((T.setVm vm').setFrames (.throwing q :: below)).heap[q]? = some ce := by
    show T.heap[q]? = some ce
    rw [hT]; exact hcell
  have hend : Ended ((T.setVm vm').setFrames (.throwing q :: below)) below (.threw q) := State.frames_setFrames _ (State.cur_lt_of_frames hfr)
  refine ⟨(T.setVm vm').setFrames (.throwing q :: below), ?_, .threw q, X'.here.running, hend, Or.inr ⟨q, rfl, E, ce, locs, hx _ hT (X'.ends _).1.alike, hcell9, hv, hcl, (X'.ends _).1, (X'.ends _).2.mono hc hs, hf⟩⟩
  rw [X.pushThrowing_eq]
  exact st
/-- a thing of a world lies in the heap -/
theorem vx_lt {D : va_G} {cl : List vw_C} {ws : va_W} {H1 : Heap} (h : va_P D cl ws H1) {k : Nat} {q : Nat × va_E} (hk : ws[k]? = some q) : q.1 < H1.size := (h k q hk).lt
end VXS
/-! ===== END ===== -/
/-! ===== BEGIN methods with a table of their own: called by a name, returning or throwing ===== -/
section VXH
/-! vx_backW, vx_callVX, vx_callSX, vx_callVW, vx_runVW, vx_runVX, vx_runSX, vx_ofWH follow the same proofs as their sisters above (Free/Laws.lean, Shelf42/LK1.lean); vx_outP calls Shelf42/NT130.lean (outThrough). -/
section
variable {l : Launch} {R : Room} {p : Program} {e : Env} {below : List Frame} {s : State} {sargs : Array Value} {y : MethodName} {len W9 : Nat}
theorem vx_backW {ws : List Cond} {rm : Room} {Pc : Array Value → State → Prop} {Qc : Array Value → State → Outcome → State → Prop} {XC : String → State → State → Prop} {mc ms : Nat} {free : Addr → Prop} {bytes : ByteArray} {maxL : Nat} {ret : Option FieldType} {hh : List (Nat × Nat × Nat × Nat)}
    (hM : vx_Met l y ws rm Pc Qc XC mc ms free) (hblind : FrameBlind Pc) (hrc : rm.cells = mc) (hrs : rm.slots = ms)
    (hframes : rm.frames + 1 ≤ R.frames) (hlocals : W9 + (maxL + 11) + rm.locals ≤ R.locals)
    (hws : ∀ w ∈ ws, ∀ a' U, s.WarmedH U.vm → w.before a' U = true) (hcode : Cond.codeWith y bytes maxL ret hh ∈ ws) (hinit : ∀ a' U, s.WarmedH U.vm → (Cond.initialized y.cls).before a' U = true) :
    vx_Back l R p e below s sargs y len W9 (PreOf R mc ms Pc) (PostOf Qc mc ms free) (vx_Post XC mc ms free) := by
  intro m meth c A g ig mk a X hg hsize hdg hW hn hp
  have h1 : (headSpec ws rm).pre.before a A.U = true := atoms_intro fun w hw => hws w hw _ _ X.warmed
  have h2 : (Cond.codeWith y bytes maxL ret hh).before a A.U = true := hws _ hcode _ _ X.warmed
  have h3 : (Cond.initialized y.cls).before a A.U = true := hinit _ _ X.warmed
  have h4 : A.cells + (headSpec ws rm).room.cells ≤ R.cells := by rw [show (headSpec ws rm).room.cells = mc from hrc]; exact hp.1
  have h5 : A.slots + (headSpec ws rm).room.slots ≤ R.slots := by rw [show (headSpec ws rm).room.slots = ms from hrs]; exact hp.2.1
  have hPc : Pc a (A.U.calling g mk a) := hblind _ _ _ _ hp.2.2
  obtain ⟨U, Ls, c0, s0⟩ := A
  dsimp only [Pt.U, Pt.locs, Pt.cells, Pt.slots] at h1 h2 h3 h4 h5 X hn hPc ⊢
  obtain ⟨m9, methY, cY, hn9, hmY, hcY, -, hlY, -⟩ := Cond.codeWith_spec h2
  cases Option.some.inj (hn9.symm.trans hn)
  obtain ⟨kY, hkY, -⟩ := className_of_methodNamed hn
  have hinitY : kY.init = .initialized := Cond.initialized_spec (findClass_of_methodNamed hn) hkY h3
  have h : At U g.method c below := by rw [hg]; exact X.here
  have hlocals9 : W9 + (maxL + 11) + (headSpec ws rm).room.locals ≤ R.locals := hlocals
  have happ : (headSpec ws rm).appliesLoose y e.platform (U.calling g mk a) = true :=
    Spec.appliesLoose_calling (g := g) h hdg hn hkY hinitY
      (X.room_calling (g := g) (R' := (headSpec ws rm).room) hsize hmY hcY hframes (by rw [hlY]; omega) h4 h5) h1
  obtain ⟨mid, hmid⟩ := h.above
  have hfr : (U.setTop g).frames = (.java g :: mid) ++ below := by rw [State.frames_setTop' g h.top, hmid]; rfl
  obtain ⟨o, s₂, hsteps, -, hend, hq⟩ := Steps.callFree hM p X.admits X.cas X.clock (acts := []) hfr happ hPc trivial
  have hq' : vx_Q Qc XC mc ms free a (U.calling g mk a) o s₂ := hq
  rw [State.frames_setTop' g h.top] at hend
  obtain ⟨g₀, hg0⟩ := Option.isSome_iff_exists.mp h.top
  obtain ⟨r, hr⟩ := State.topJava?_eq_some.mp hg0
  have hr' : (({ U with heap := s₂.heap, slotsUsed := s₂.slotsUsed } : State).setVm s₂.vm).frames = .java g₀ :: r := hr
  rcases hq' with ⟨hqc, L, hfe, hL⟩ | ⟨q, rfl, E, ce, L, hx, hce, hcv, hcl, hW₂, hsm, hL⟩
  · obtain ⟨⟨v, rfl⟩, hW₂, e2, q2, q3, q4, q5, q6⟩ := id hfe
    have e3 : s₂ = ({ (U.calling g mk a).setFrames s₂.frames with heap := s₂.heap, slotsUsed := s₂.slotsUsed } : State).setVm s₂.vm := by
      have : s₂ = ({ s₂ with vm := (U.calling g mk a).vm } : State).setVm s₂.vm := rfl
      rw [e2] at this
      exact this
    obtain ⟨c₂, i₂, len₂, hc₂, hd₂, hf₂⟩ := hend
    have hW' : U.WarmedH s₂.vm := hW₂
    have hcc : c₂ = c := by
      have h1 : s₂.code? g.method = U.code? g.method := by
        rw [State.code?_eq, State.code?_eq, hW'.alike.method?]
      exact Option.some.inj (hc₂.symm.trans (h1.trans h.code))
    subst hcc
    have hlen : len₂ = len := by rw [hdg] at hd₂; cases hd₂; rfl
    subst hlen
    have hs₂ : s₂ = (({ U with heap := s₂.heap, slotsUsed := s₂.slotsUsed } : State).setVm s₂.vm).setTop { g with pc := g.pc + len₂, stack := v.toList ++ g.stack } := by
      refine e3.trans ?_
      rw [hf₂, State.calling_eq h.top, State.setFrames_setFrames, State.setTop_of_frames _ hr', hr]
      rfl
    have hsame : U.sameButNew ({ U with heap := s₂.heap, slotsUsed := s₂.slotsUsed } : State) L mc ms := by
      refine ⟨?_, q2, q3, q4, q5, q6⟩
      obtain ⟨t, ht, -⟩ := State.frames_cons hr
      show ({ U with heap := s₂.heap, slotsUsed := s₂.slotsUsed } : State) = { U.setFrames U.frames with heap := s₂.heap, slotsUsed := s₂.slotsUsed }
      rw [State.setFrames_self ht]
    subst hg
    refine Or.inl ⟨v, ⟨(({ U with heap := s₂.heap, slotsUsed := s₂.slotsUsed } : State).setVm s₂.vm), Ls ++ L, c0 + mc, s0 + ms⟩,
      ⟨X.admits, X.cas, X.clock, X.frames, X.room, X.hears, X.method, X.code, (X.here.setHeapUsed s₂.heap s₂.slotsUsed).setVm hW'.alike, X.tail, State.WarmedH.trans X.warmed hW', X.limits, X.bytes, X.same.trans (hsame.setVm s.vm)⟩,
      ⟨g, mk, s₂, L, rfl, rfl, hqc, rfl, hL, rfl, rfl⟩, ?_⟩
    show Steps p.tables e below _ ((({ U with heap := s₂.heap, slotsUsed := s₂.slotsUsed } : State).setVm s₂.vm).setTop { g with pc := g.pc + len₂, stack := v.toList ++ g.stack })
    rw [← hs₂]
    exact hsteps
  · obtain ⟨e2, q2, q3, q4, q5, q6⟩ := id hsm
    have e3 : s₂ = ({ (U.calling g mk a).setFrames s₂.frames with heap := s₂.heap, slotsUsed := s₂.slotsUsed } : State).setVm s₂.vm := by
      have : s₂ = ({ s₂ with vm := (U.calling g mk a).vm } : State).setVm s₂.vm := rfl
      rw [e2] at this
      exact this
    have hf₂ : s₂.frames = .throwing q :: .java g :: U.frames.tail := hend
    have hW' : U.WarmedH s₂.vm := hW₂
    have hs₂ : s₂ = ((({ U with heap := s₂.heap, slotsUsed := s₂.slotsUsed } : State).setVm s₂.vm).setTop g).pushFrame (.throwing q) := by
      refine e3.trans ?_
      rw [hf₂, State.calling_eq h.top, State.setFrames_setFrames, State.pushFrame, State.frames_setTop _ hr', State.setTop_of_frames _ hr', State.setFrames_setFrames, hr]
      rfl
    have hsame : U.sameButNew ({ U with heap := s₂.heap, slotsUsed := s₂.slotsUsed } : State) L mc ms := by
      refine ⟨?_, q2, q3, q4, q5, q6⟩
      obtain ⟨t, ht, -⟩ := State.frames_cons hr
      show ({ U with heap := s₂.heap, slotsUsed := s₂.slotsUsed } : State) = { U.setFrames U.frames with heap := s₂.heap, slotsUsed := s₂.slotsUsed }
      rw [State.setFrames_self ht]
    subst hg
    refine Or.inr ⟨q, ⟨(({ U with heap := s₂.heap, slotsUsed := s₂.slotsUsed } : State).setVm s₂.vm), Ls ++ L, c0 + mc, s0 + ms⟩,
      ⟨X.admits, X.cas, X.clock, X.frames, X.room, X.hears, X.method, X.code, (X.here.setHeapUsed s₂.heap s₂.slotsUsed).setVm hW'.alike, X.tail, State.WarmedH.trans X.warmed hW', X.limits, X.bytes, X.same.trans (hsame.setVm s.vm)⟩,
      ⟨g, mk, s₂, L, E, ce, rfl, rfl, hx, hce, hcv, hcl, rfl, hL, rfl, rfl⟩, ?_⟩
    show Steps p.tables e below _ (((({ U with heap := s₂.heap, slotsUsed := s₂.slotsUsed } : State).setVm s₂.vm).setTop g).pushFrame (.throwing q))
    rw [← hs₂]
    exact hsteps
end
variable {p : Program} {l : Launch} {e : Env} {R : Room} {s : State} {m : MethodId} {args : Array Value} {below : List Frame} {meth : Method} {c : Code} {T : State} {H : Heap} {locs : List Loc} {cells slots : Nat}
theorem vx_callVX (X : Stand p l e R s m args below meth c T locs cells slots) (hexec : p.tables.exec = Jvm.exec) {own C : String} {index : Nat} {y : MethodName} {bytes : ByteArray} {maxL : Nat} {ret : Option FieldType} {hh : List (Nat × Nat × Nat × Nat)}
    (hown : s.vm.findClass own = some m.cls) (hlink : (Cond.methodLink own index y).before args s = true) (hinst : (Cond.instanceMethod y).before args s = true) (hsel : (Cond.selects C y y).before args s = true)
    (hcode : (Cond.codeWith y bytes maxL ret hh).before args s = true) (hy : y.cls ≠ "java/lang/invoke/MethodHandle" ∧ y.cls ≠ "java/lang/invoke/VarHandle")
    {W9 : Nat} {Pre : Pt → Array Value → Prop} {Post : Pt → Array Value → Option Value → Pt → Prop} {PostX : Pt → Array Value → Addr → Pt → Prop} (hK : vx_Back l R p e below s args y 3 W9 Pre Post PostX)
    {b : Addr} {cellB : Cell} (hcell : T.heap[b]? = some cellB) (hobj : cellB.vm.isStatics = false) (hcls : s.vm.findClass C = some cellB.cls)
    {g : JFrame} (hg : g.method = m) (hsize : g.locals.size = c.maxLocals) {argsL rest : List Value} (hlen : ∀ sig, parseMethodDescriptor y.desc = some sig → argsL.length = sig.parameters.length)
    (hstack : g.stack = argsL.reverse ++ .ref b :: rest) (hW : 2 * g.monitorRoom + (rest.map fun v => v.category).sum ≤ W9) (hdg : decode c.code g.pc = .ok (.invokevirtual index, 3))
    (hpre : ∀ vm₁, s.WarmedH vm₁ → Pre ⟨T.setVm vm₁, locs, cells, slots⟩ (Value.ref b :: argsL).toArray) :
    (∃ (v : Option Value) (vm₁ : Vm) (B : Pt), s.WarmedH vm₁ ∧ Stand p l e R s m args below meth c B.U B.locs B.cells B.slots ∧ Post ⟨T.setVm vm₁, locs, cells, slots⟩ (Value.ref b :: argsL).toArray v B ∧
      ∀ target, Steps p.tables e below (B.U.setTop { g with pc := g.pc + 3, stack := v.toList ++ rest }) target → Steps p.tables e below (T.setTop g) target) ∨
    (∃ (q : Addr) (vm₁ : Vm) (B : Pt), s.WarmedH vm₁ ∧ Stand p l e R s m args below meth c B.U B.locs B.cells B.slots ∧ PostX ⟨T.setVm vm₁, locs, cells, slots⟩ (Value.ref b :: argsL).toArray q B ∧
      Steps p.tables e below (T.setTop g) ((B.U.setTop { g with stack := rest }).pushFrame (.throwing q))) := by
  obtain ⟨mk, methM, hnamed, hmethM, hstM, habM⟩ := Cond.instanceMethod_spec hinst
  obtain ⟨m8, methM', cM, hn8, hmethM', -, -, -, -, -, -, hsigM⟩ := Cond.codeWith_spec hcode
  cases Option.some.inj (hn8.symm.trans hnamed)
  cases hmethM.symm.trans hmethM'
  obtain ⟨c2, r2, m2, q1, q2, q3, q4, kP, hkP, hkPi⟩ := Cond.selects_spec hsel
  cases hcls.symm.trans q1
  cases (State.methodFound?_of_named hnamed hy).symm.trans q2
  cases hnamed.symm.trans q3
  have hselP : selectMethod e.platform s.vm cellB.cls mk = .method mk := by rw [Launch.admits_selectMethod X.admits]; exact q4
  obtain ⟨vm₁, X₁, hstep₁⟩ := X.invokevirtual hexec hown hlink hnamed hmethM hstM hkP hkPi hy (a := b) (cell := cellB) hcell
    (fun z h => by rw [h] at hobj; cases hobj) hselP hmethM habM hkP hkPi (g := g) hg (argsL := argsL) (rest := rest) (hlen _ hsigM) hstack hdg
  rcases hK m meth c ⟨T.setVm vm₁, locs, cells, slots⟩ { g with stack := rest } (.invokevirtual index) mk (Value.ref b :: argsL).toArray X₁ hg hsize hdg hW (X₁.named hnamed) (hpre vm₁ X₁.warmed) with ⟨v, B, X', hpost, hsteps⟩ | ⟨q, B, X', hpost, hsteps⟩
  · exact Or.inl ⟨v, vm₁, B, X₁.warmed, X', hpost, fun target h => hstep₁ _ fun acts => by rw [doInvoke_state]; exact hsteps.trans h⟩
  · exact Or.inr ⟨q, vm₁, B, X₁.warmed, X', hpost, hstep₁ _ fun acts => by rw [doInvoke_state]; exact hsteps⟩
theorem vx_callSX (X : Stand p l e R s m args below meth c T locs cells slots) (hexec : p.tables.exec = Jvm.exec) {own : String} {index : Nat} {y : MethodName} {bytes : ByteArray} {maxL : Nat} {ret : Option FieldType} {hh : List (Nat × Nat × Nat × Nat)}
    (hown : s.vm.findClass own = some m.cls) (hlink : (Cond.methodLink own index y).before args s = true) (hstat : (Cond.static y).before args s = true) (hinit : (Cond.initialized y.cls).before args s = true)
    (hcode : (Cond.codeWith y bytes maxL ret hh).before args s = true) (hy : y.cls ≠ "java/lang/invoke/MethodHandle" ∧ y.cls ≠ "java/lang/invoke/VarHandle")
    {W9 : Nat} {Pre : Pt → Array Value → Prop} {Post : Pt → Array Value → Option Value → Pt → Prop} {PostX : Pt → Array Value → Addr → Pt → Prop} (hK : vx_Back l R p e below s args y 3 W9 Pre Post PostX)
    {g : JFrame} (hg : g.method = m) (hsize : g.locals.size = c.maxLocals) {argsL rest : List Value} (hlen : ∀ sig, parseMethodDescriptor y.desc = some sig → argsL.length = sig.parameters.length)
    (hstack : g.stack = argsL.reverse ++ rest) (hW : 2 * g.monitorRoom + (rest.map fun v => v.category).sum ≤ W9) (hdg : decode c.code g.pc = .ok (.invokestatic index, 3))
    (hpre : ∀ vm₁, s.WarmedH vm₁ → Pre ⟨T.setVm vm₁, locs, cells, slots⟩ argsL.toArray) :
    (∃ (v : Option Value) (vm₁ : Vm) (B : Pt), s.WarmedH vm₁ ∧ Stand p l e R s m args below meth c B.U B.locs B.cells B.slots ∧ Post ⟨T.setVm vm₁, locs, cells, slots⟩ argsL.toArray v B ∧
      ∀ target, Steps p.tables e below (B.U.setTop { g with pc := g.pc + 3, stack := v.toList ++ rest }) target → Steps p.tables e below (T.setTop g) target) ∨
    (∃ (q : Addr) (vm₁ : Vm) (B : Pt), s.WarmedH vm₁ ∧ Stand p l e R s m args below meth c B.U B.locs B.cells B.slots ∧ PostX ⟨T.setVm vm₁, locs, cells, slots⟩ argsL.toArray q B ∧
      Steps p.tables e below (T.setTop g) ((B.U.setTop { g with stack := rest }).pushFrame (.throwing q))) := by
  obtain ⟨mk, methM, cM, hnamed, hmethM, -, -, -, -, -, -, hsigM⟩ := Cond.codeWith_spec hcode
  have hstatic : methM.isStatic = true := Cond.static_spec hnamed hmethM hstat
  obtain ⟨kP, hkP, -⟩ := className_of_methodNamed hnamed
  have hinitP : kP.init = .initialized := Cond.initialized_spec (findClass_of_methodNamed hnamed) hkP hinit
  obtain ⟨vm₁, X₁, hstep₁⟩ := X.invokestatic hexec hown hlink hnamed hmethM hstatic hkP hinitP hy (g := g) hg (argsL := argsL) (rest := rest) (hlen _ hsigM) hstack hdg
  rcases hK m meth c ⟨T.setVm vm₁, locs, cells, slots⟩ { g with stack := rest } (.invokestatic index) mk argsL.toArray X₁ hg hsize hdg hW (X₁.named hnamed) (hpre vm₁ X₁.warmed) with ⟨v, B, X', hpost, hsteps⟩ | ⟨q, B, X', hpost, hsteps⟩
  · exact Or.inl ⟨v, vm₁, B, X₁.warmed, X', hpost, fun target h => hstep₁ _ fun acts => by rw [doInvoke_state]; exact hsteps.trans h⟩
  · exact Or.inr ⟨q, vm₁, B, X₁.warmed, X', hpost, hstep₁ _ fun acts => by rw [doInvoke_state]; exact hsteps⟩
theorem vx_callVW (X : Stand p l e R s m args below meth c T locs cells slots) (hexec : p.tables.exec = Jvm.exec) {own C : String} {index : Nat} {y : MethodName} {bytes : ByteArray} {maxL : Nat} {ret : Option FieldType} {hh : List (Nat × Nat × Nat × Nat)}
    (hown : s.vm.findClass own = some m.cls) (hlink : (Cond.methodLink own index y).before args s = true) (hinst : (Cond.instanceMethod y).before args s = true) (hsel : (Cond.selects C y y).before args s = true)
    (hcode : (Cond.codeWith y bytes maxL ret hh).before args s = true) (hy : y.cls ≠ "java/lang/invoke/MethodHandle" ∧ y.cls ≠ "java/lang/invoke/VarHandle")
    {W9 : Nat} {Pre : Pt → Array Value → Prop} {Post : Pt → Array Value → Option Value → Pt → Prop} (hK : Back l R p e below s args y 3 W9 Pre Post)
    {b : Addr} {cellB : Cell} (hcell : T.heap[b]? = some cellB) (hobj : cellB.vm.isStatics = false) (hcls : s.vm.findClass C = some cellB.cls)
    {g : JFrame} (hg : g.method = m) (hsize : g.locals.size = c.maxLocals) {argsL rest : List Value} (hlen : ∀ sig, parseMethodDescriptor y.desc = some sig → argsL.length = sig.parameters.length)
    (hstack : g.stack = argsL.reverse ++ .ref b :: rest) (hW : 2 * g.monitorRoom + (rest.map fun v => v.category).sum ≤ W9) (hdg : decode c.code g.pc = .ok (.invokevirtual index, 3))
    (hpre : ∀ vm₁, s.WarmedH vm₁ → Pre ⟨T.setVm vm₁, locs, cells, slots⟩ (Value.ref b :: argsL).toArray) :
    ∃ (v : Option Value) (vm₁ : Vm) (B : Pt), s.WarmedH vm₁ ∧ Stand p l e R s m args below meth c B.U B.locs B.cells B.slots ∧ Post ⟨T.setVm vm₁, locs, cells, slots⟩ (Value.ref b :: argsL).toArray v B ∧
      ∀ target, Steps p.tables e below (B.U.setTop { g with pc := g.pc + 3, stack := v.toList ++ rest }) target → Steps p.tables e below (T.setTop g) target := by
  obtain ⟨mk, methM, hnamed, hmethM, hstM, habM⟩ := Cond.instanceMethod_spec hinst
  obtain ⟨m8, methM', cM, hn8, hmethM', -, -, -, -, -, -, hsigM⟩ := Cond.codeWith_spec hcode
  cases Option.some.inj (hn8.symm.trans hnamed)
  cases hmethM.symm.trans hmethM'
  obtain ⟨c2, r2, m2, q1, q2, q3, q4, kP, hkP, hkPi⟩ := Cond.selects_spec hsel
  cases hcls.symm.trans q1
  cases (State.methodFound?_of_named hnamed hy).symm.trans q2
  cases hnamed.symm.trans q3
  have hselP : selectMethod e.platform s.vm cellB.cls mk = .method mk := by rw [Launch.admits_selectMethod X.admits]; exact q4
  obtain ⟨vm₁, X₁, hstep₁⟩ := X.invokevirtual hexec hown hlink hnamed hmethM hstM hkP hkPi hy (a := b) (cell := cellB) hcell
    (fun z h => by rw [h] at hobj; cases hobj) hselP hmethM habM hkP hkPi (g := g) hg (argsL := argsL) (rest := rest) (hlen _ hsigM) hstack hdg
  obtain ⟨v, B, X', hpost, hsteps⟩ := hK m meth c ⟨T.setVm vm₁, locs, cells, slots⟩ { g with stack := rest } (.invokevirtual index) mk (Value.ref b :: argsL).toArray X₁ hg hsize hdg hW (X₁.named hnamed) (hpre vm₁ X₁.warmed)
  exact ⟨v, vm₁, B, X₁.warmed, X', hpost, fun target h => hstep₁ _ fun acts => by rw [doInvoke_state]; exact hsteps.trans h⟩
abbrev vx_CVW (R : Room) (s : State) (args : Array Value) (own C : String) (index : Nat) (y : MethodName) (bytes : ByteArray) (maxL : Nat) (ret : Option FieldType) (hh : List (Nat × Nat × Nat × Nat)) (ws : List Cond) (rm : Room) (mc ms n : Nat) : Prop :=
  (rm.cells = mc ∧ rm.slots = ms ∧ rm.frames + 1 ≤ R.frames ∧ 8 + (maxL + 11) + rm.locals ≤ R.locals ∧ (∀ w ∈ ws, ∀ (a' : Array Value) (U : State), s.WarmedH U.vm → w.before a' U = true) ∧ Cond.codeWith y bytes maxL ret hh ∈ ws) ∧
  (Cond.codeWith y bytes maxL ret hh).before args s = true ∧ (Cond.initialized y.cls).before args s = true ∧ (y.cls ≠ "java/lang/invoke/MethodHandle" ∧ y.cls ≠ "java/lang/invoke/VarHandle") ∧
  (∀ sig, parseMethodDescriptor y.desc = some sig → n = sig.parameters.length) ∧ (Cond.methodLink own index y).before args s = true ∧ (Cond.instanceMethod y).before args s = true ∧ (Cond.selects C y y).before args s = true
theorem vx_cwVW {own C : String} {index maxL mc ms : Nat} {y : MethodName} {bytes : ByteArray} {ret : Option FieldType} {hh : List (Nat × Nat × Nat × Nat)} {Ts ws ws' : List Cond} {rm : Room} (n : Nat) (ht : ∀ w ∈ Ts, w.before args s = true) (hT : GoodIn Ts (wsV own index C y ws)) (hw : ws = Cond.codeWith y bytes maxL ret hh :: ws') (hrc : rm.cells = mc) (hrs : rm.slots = ms)
    (hd : y.cls = C ∧ y.cls ≠ "java/lang/invoke/MethodHandle" ∧ y.cls ≠ "java/lang/invoke/VarHandle" ∧ (parseMethodDescriptor y.desc).map (fun d => d.parameters.length) = some n) (hR : rm.frames + 1 ≤ R.frames ∧ 8 + (maxL + 11) + rm.locals ≤ R.locals) :
    vx_CVW R s args own C index y bytes maxL ret hh ws rm mc ms n := by
  obtain ⟨hC, hd⟩ := hd
  subst hC
  have ok : ∀ w ∈ wsV own index y.cls y ws, w.before args s = true := fun w h => ht w (hT w h).1
  have hG : GoodIn Ts ws := fun w h => hT w (by unfold wsV; exact List.mem_append_right _ h)
  have hc : Cond.codeWith y bytes maxL ret hh ∈ ws := by rw [hw]; exact List.mem_cons_self
  refine ⟨⟨hrc, hrs, hR.1, hR.2, pay_in ht hG, hc⟩, ht _ (hG _ hc).1, ok _ (by simp [wsV]), ⟨hd.1, hd.2.1⟩, fun sig h => ?_, ok _ (by simp [wsV]), ok _ (by simp [wsV]), ok _ (by simp [wsV])⟩
  have h2 := hd.2.2
  rw [h] at h2
  exact (Option.some.inj h2).symm
theorem vx_runVW {y : MethodName} {bytes cc : ByteArray} {maxL nL mc ms n index : Nat} {ret : Option FieldType} {hh : List (Nat × Nat × Nat × Nat)} {ws : List Cond} {rm : Room} {Pc : Array Value → State → Prop} {Qc : Array Value → State → Outcome → State → Prop} {free : Addr → Prop} {Ts : List Cond} {own C : String} {b : Addr} {As rest : List Value} {g : JFrame}
    (S : CallFix p m c cc nL s args Ts own) (hM : Met l y ws rm Pc Qc mc ms free) (cw : vx_CVW R s args own C index y bytes maxL ret hh ws rm mc ms n) (hp : PreV s H C b Pc As)
    (hg : g.method = m) (hn : As.length = n) (hsize : g.locals.size = nL) (hstack : g.stack = As.reverse ++ .ref b :: rest) (hW : 2 * g.monitorRoom + (rest.map fun v => v.category).sum ≤ 8) (hdg : decode cc g.pc = .ok (.invokevirtual index, 3)) (hf : cells + mc ≤ R.cells ∧ slots + ms ≤ R.slots) :
    va_Run p l e R s m args below meth c H locs cells slots mc ms g rest (Qc (Value.ref b :: As).toArray) free := by
  obtain ⟨⟨hrc, hrs, hfr, hlo, hws, hcw⟩, hcode, hini, hy, hlen, hl, hin, hse⟩ := cw
  have hK : Back l R p e below s args y 3 8 (PreOf R mc ms Pc) (PostOf Qc mc ms free) := va_backW (hh := hh) (bytes := bytes) (maxL := maxL) (ret := ret) hM hp.1 hrc hrs hfr hlo hws hcw (fun a' U hW => word_at hW (Or.inl (by first | rfl | simp [Cond.onTables, Cond.keeps, Cond.steady])) hini)
  obtain ⟨hx, hb, hml, ho, -⟩ := S
  obtain ⟨-, ⟨cellB, hcB, hoB, hclB⟩, hPc⟩ := hp
  intro T hT X
  obtain ⟨v, vm₁, ⟨U', l2, c2, s2⟩, hW₁, X', ⟨g', mk, t, L, e1, e2, hq, h1, hL, h2, h3⟩, st⟩ := vx_callVW X hx (C := C) (hh := hh) (bytes := bytes) (maxL := maxL) (ret := ret) ho hl hin hse hcode hy hK (by rw [hT]; exact hcB) hoB hclB hg (hsize.trans hml.symm) (argsL := As) (rest := rest) (fun sig h => hn.trans (hlen sig h)) hstack hW (by rw [hb]; exact hdg)
    (fun vm₁ hW₁ => ⟨hf.1, hf.2, hPc (T.setVm vm₁) hT hW₁⟩)
  dsimp only [Pt.U, Pt.locs, Pt.cells, Pt.slots] at X' e1 e2 h1 h2 h3 st
  subst h1; subst h2; subst h3
  exact ⟨v, (T.setVm vm₁).calling g' mk (Value.ref b :: As).toArray, t, U', L, hT, X', hL, e1, e2, hq, st⟩
section
variable {y : MethodName} {bytes cc : ByteArray} {maxL nL mc ms n index : Nat} {ret : Option FieldType} {ws : List Cond} {rm : Room} {Pc : Array Value → State → Prop} {Qc : Array Value → State → Outcome → State → Prop} {XC : String → State → State → Prop} {free : Addr → Prop} {Ts : List Cond} {own C : String} {b : Addr} {As rest : List Value} {g : JFrame}
theorem vx_runVX {hh : List (Nat × Nat × Nat × Nat)} (S : CallFix p m c cc nL s args Ts own) (hM : vx_Met l y ws rm Pc Qc XC mc ms free) (cw : vx_CVW R s args own C index y bytes maxL ret hh ws rm mc ms n) (hp : PreV s H C b Pc As)
    (hg : g.method = m) (hn : As.length = n) (hsize : g.locals.size = nL) (hstack : g.stack = As.reverse ++ .ref b :: rest) (hW : 2 * g.monitorRoom + (rest.map fun v => v.category).sum ≤ 8) (hdg : decode cc g.pc = .ok (.invokevirtual index, 3)) (hf : cells + mc ≤ R.cells ∧ slots + ms ≤ R.slots) :
    vx_Run p l e R s m args below meth c H locs cells slots mc ms g rest (Qc (Value.ref b :: As).toArray) XC free := by
  obtain ⟨⟨hrc, hrs, hfr, hlo, hws, hcw⟩, hcode, hini, hy, hlen, hl, hin, hse⟩ := cw
  have hK : vx_Back l R p e below s args y 3 8 (PreOf R mc ms Pc) (PostOf Qc mc ms free) (vx_Post XC mc ms free) := vx_backW (hh := hh) (bytes := bytes) (maxL := maxL) (ret := ret) hM hp.1 hrc hrs hfr hlo hws hcw (fun a' U hW => word_at hW (Or.inl (by first | rfl | simp [Cond.onTables, Cond.keeps, Cond.steady])) hini)
  obtain ⟨hx, hb, hml, ho, -⟩ := S
  obtain ⟨-, ⟨cellB, hcB, hoB, hclB⟩, hPc⟩ := hp
  intro T hT X
  rcases vx_callVX X hx (C := C) (hh := hh) (bytes := bytes) (maxL := maxL) (ret := ret) ho hl hin hse hcode hy hK (by rw [hT]; exact hcB) hoB hclB hg (hsize.trans hml.symm) (argsL := As) (rest := rest) (fun sig h => hn.trans (hlen sig h)) hstack hW (by rw [hb]; exact hdg)
    (fun vm₁ hW₁ => ⟨hf.1, hf.2, hPc (T.setVm vm₁) hT hW₁⟩) with ⟨v, vm₁, ⟨U', l2, c2, s2⟩, hW₁, X', ⟨g', mk, t, L, e1, e2, hq, h1, hL, h2, h3⟩, st⟩ | ⟨q, vm₁, ⟨U', l2, c2, s2⟩, hW₁, X', ⟨g', mk, t, L, E, ce, e1, e2, hq, hce, hcv, hcl, h1, hL, h2, h3⟩, st⟩
  · dsimp only [Pt.U, Pt.locs, Pt.cells, Pt.slots] at X' e1 e2 h1 h2 h3 st
    subst h1; subst h2; subst h3
    exact Or.inl ⟨v, (T.setVm vm₁).calling g' mk (Value.ref b :: As).toArray, t, U', L, hT, X', hL, e1, e2, hq, st⟩
  · dsimp only [Pt.U, Pt.locs, Pt.cells, Pt.slots] at X' e1 e2 h1 h2 h3 st hcl
    subst h1; subst h2; subst h3
    exact Or.inr ⟨q, (T.setVm vm₁).calling g' mk (Value.ref b :: As).toArray, t, U', L, E, ce, hT, X', hL, e1, e2, hq, hce, hcv, vx_cls hW₁ hcl, st⟩
theorem vx_runSX {hh : List (Nat × Nat × Nat × Nat)} (S : CallFix p m c cc nL s args Ts own) (hM : vx_Met l y ws rm Pc Qc XC mc ms free) (cw : vx_CSW R s args own index y bytes maxL ret hh ws rm mc ms n) (hp : PreS s H Pc As)
    (hg : g.method = m) (hn : As.length = n) (hsize : g.locals.size = nL) (hstack : g.stack = As.reverse ++ rest) (hW : 2 * g.monitorRoom + (rest.map fun v => v.category).sum ≤ 8) (hdg : decode cc g.pc = .ok (.invokestatic index, 3)) (hf : cells + mc ≤ R.cells ∧ slots + ms ≤ R.slots) :
    vx_Run p l e R s m args below meth c H locs cells slots mc ms g rest (Qc As.toArray) XC free := by
  obtain ⟨⟨hrc, hrs, hfr, hlo, hws, hcw⟩, hcode, hini, hy, hlen, hl, hstt⟩ := cw
  have hK : vx_Back l R p e below s args y 3 8 (PreOf R mc ms Pc) (PostOf Qc mc ms free) (vx_Post XC mc ms free) := vx_backW (hh := hh) (bytes := bytes) (maxL := maxL) (ret := ret) hM hp.1 hrc hrs hfr hlo hws hcw (fun a' U hW => word_at hW (Or.inl (by first | rfl | simp [Cond.onTables, Cond.keeps, Cond.steady])) hini)
  obtain ⟨hx, hb, hml, ho, -⟩ := S
  intro T hT X
  rcases vx_callSX X hx (hh := hh) (bytes := bytes) (maxL := maxL) (ret := ret) ho hl hstt hini hcode hy hK hg (hsize.trans hml.symm) (argsL := As) (rest := rest) (fun sig h => hn.trans (hlen sig h)) hstack hW (by rw [hb]; exact hdg)
    (fun vm₁ hW₁ => ⟨hf.1, hf.2, hp.2 (T.setVm vm₁) hT hW₁⟩) with ⟨v, vm₁, ⟨U', l2, c2, s2⟩, hW₁, X', ⟨g', mk, t, L, e1, e2, hq, h1, hL, h2, h3⟩, st⟩ | ⟨q, vm₁, ⟨U', l2, c2, s2⟩, hW₁, X', ⟨g', mk, t, L, E, ce, e1, e2, hq, hce, hcv, hcl, h1, hL, h2, h3⟩, st⟩
  · dsimp only [Pt.U, Pt.locs, Pt.cells, Pt.slots] at X' e1 e2 h1 h2 h3 st
    subst h1; subst h2; subst h3
    exact Or.inl ⟨v, (T.setVm vm₁).calling g' mk As.toArray, t, U', L, hT, X', hL, e1, e2, hq, st⟩
  · dsimp only [Pt.U, Pt.locs, Pt.cells, Pt.slots] at X' e1 e2 h1 h2 h3 st hcl
    subst h1; subst h2; subst h3
    exact Or.inr ⟨q, (T.setVm vm₁).calling g' mk As.toArray, t, U', L, E, ce, hT, X', hL, e1, e2, hq, hce, hcv, vx_cls hW₁ hcl, st⟩
end
end VXH
theorem vx_ofWH {l : Launch} {y : MethodName} {ws ws' : List Cond} {rm : Room} {Pc : Array Value → State → Prop} {Qc : Array Value → State → Outcome → State → Prop} {XC : String → State → State → Prop} {mc ms : Nat} {free : Addr → Prop} {cc : ByteArray} {maxL : Nat} {ret : Option FieldType} {hh : List (Nat × Nat × Nat × Nat)}
    (hy : plainName y.cls = true) (hw : ws = Cond.codeWith y cc maxL ret hh :: ws')
    (body : ∀ p e s m args below meth c s₁, BodyLoose p l y (headSpec ws rm) cc maxL ret e s m args below meth c s₁ → c.maxLocals = maxL → Pc args s →
      W p l e (headSpec ws rm).room s m args below meth c s.heap [] 0 0 (vx_MQ below Qc XC args s mc ms free) (entryFrame m args maxL)) : vx_Met l y ws rm Pc Qc XC mc ms free := by
  refine MetFree.of_bodyS (code := cc) (maxLocals := maxL) (ret := ret) hy ?_ ?_
  · intro args s m h hn
    obtain ⟨m9, meth, c, hn9, h1, h2, h3, h4, -, h5, h6, -⟩ := Cond.codeWith_spec (atoms_spec (ws := ws) h _ (by rw [hw]; exact List.mem_cons_self))
    cases hn.symm.trans hn9
    exact ⟨meth, c, h1, h2, h3, h4, h5, h6⟩
  · intro p e s m args below meth c s₁ B hml hP _
    have hh0 : s₁.heap = s.heap := by rw [B.state]; rfl
    obtain ⟨t, a1, o, b1, b2, b3⟩ := body p e s m args below meth c s₁ B hml hP s₁ hh0 (Stand.of_body B)
    exact ⟨t, o, a1, b1, b2, b3⟩
/-! ===== END ===== -/
end
section
def RX0 : String := "FoundryNine$Arrivals"
def TX0 : u_T := fun k => match k with
  | _ => ("FoundryNine$Arrivals", "arrival", "[I", true)
def tyX0 : Nat → FieldType := fun k => match k with
  | _ => .array .int
abbrev wsX00 : List Cond := u_ws RX0 TX0 1
theorem nmX0 : ∀ a, a < 1 → ∀ b, b < 1 → a ≠ b → (TX0 a).2.1 ≠ (TX0 b).2.1 := by decide +kernel
theorem tyX0_ok : ∀ k, k < 1 → parseFieldDescriptor (TX0 k).2.2.1 = some (tyX0 k) := by decide +kernel
abbrev cX0_init : ByteArray := prog_2_method_1_code
def yX0_init : MethodName := ⟨RX0, "<init>", "()V"⟩
abbrev cX0_reckon : ByteArray := prog_2_method_2_code
def yX0_reckon : MethodName := ⟨RX0, "reckon", "(LFoundryNine$Circuit;LFoundryNine$Flaws;II)V"⟩
abbrev cX0_arrivalBy : ByteArray := prog_2_method_3_code
def yX0_arrivalBy : MethodName := ⟨RX0, "arrivalBy", "(LFoundryNine$Circuit;LFoundryNine$Flaws;II)I"⟩
abbrev cX0_arrivalOf : ByteArray := prog_2_method_4_code
def yX0_arrivalOf : MethodName := ⟨RX0, "arrivalOf", "(I)I"⟩
abbrev cX0_greatest : ByteArray := prog_2_method_5_code
def yX0_greatest : MethodName := ⟨RX0, "greatest", "()I"⟩
abbrev cX0_latestDriven : ByteArray := prog_2_method_6_code
def yX0_latestDriven : MethodName := ⟨RX0, "latestDriven", "(LFoundryNine$Circuit;)I"⟩
abbrev cX0_wireBehind : ByteArray := prog_2_method_7_code
def yX0_wireBehind : MethodName := ⟨RX0, "wireBehind", "(LFoundryNine$Circuit;I)I"⟩
def RX1 : String := "FoundryNine$Circuit"
def TX1 : u_T := fun k => match k with
  | 0 => ("FoundryNine$Circuit", "kind", "[I", true)
  | 1 => ("FoundryNine$Circuit", "wire", "[I", true)
  | 2 => ("FoundryNine$Circuit", "a", "[I", true)
  | 3 => ("FoundryNine$Circuit", "b", "[I", true)
  | 4 => ("FoundryNine$Circuit", "c", "[I", true)
  | 5 => ("FoundryNine$Circuit", "delay", "[I", true)
  | 6 => ("FoundryNine$Circuit", "setup", "[I", true)
  | 7 => ("FoundryNine$Circuit", "hold", "[I", true)
  | 8 => ("FoundryNine$Circuit", "users", "[I", true)
  | 9 => ("FoundryNine$Circuit", "drivers", "[I", true)
  | 10 => ("FoundryNine$Circuit", "firstDriver", "[I", true)
  | _ => ("FoundryNine$Circuit", "count", "I", false)
def tyX1 : Nat → FieldType := fun k => match k with
  | 0 => .array .int
  | 1 => .array .int
  | 2 => .array .int
  | 3 => .array .int
  | 4 => .array .int
  | 5 => .array .int
  | 6 => .array .int
  | 7 => .array .int
  | 8 => .array .int
  | 9 => .array .int
  | 10 => .array .int
  | _ => .int
abbrev wsX10 : List Cond := u_ws RX1 TX1 12
theorem nmX1 : ∀ a, a < 12 → ∀ b, b < 12 → a ≠ b → (TX1 a).2.1 ≠ (TX1 b).2.1 := by decide +kernel
theorem tyX1_ok : ∀ k, k < 12 → parseFieldDescriptor (TX1 k).2.2.1 = some (tyX1 k) := by decide +kernel
abbrev cX1_init : ByteArray := prog_3_method_1_code
def yX1_init : MethodName := ⟨RX1, "<init>", "()V"⟩
abbrev cX1_add : ByteArray := prog_3_method_2_code
def yX1_add : MethodName := ⟨RX1, "add", "(IIIIII)I"⟩
abbrev cX1_noteUse : ByteArray := prog_3_method_3_code
def yX1_noteUse : MethodName := ⟨RX1, "noteUse", "(II)V"⟩
abbrev cX1_isGate : ByteArray := prog_3_method_4_code
def yX1_isGate : MethodName := ⟨RX1, "isGate", "(I)Z"⟩
abbrev cX1_isFirstDrivenBy : ByteArray := prog_3_method_5_code
def yX1_isFirstDrivenBy : MethodName := ⟨RX1, "isFirstDrivenBy", "(II)Z"⟩
abbrev cX1_isUsedBy : ByteArray := prog_3_method_6_code
def yX1_isUsedBy : MethodName := ⟨RX1, "isUsedBy", "(II)Z"⟩
abbrev cX1_firstLineOf : ByteArray := prog_3_method_7_code
def yX1_firstLineOf : MethodName := ⟨RX1, "firstLineOf", "(I)I"⟩
abbrev cX1_pinsOf : ByteArray := prog_3_method_8_code
def yX1_pinsOf : MethodName := ⟨RX1, "pinsOf", "(I)I"⟩
def RX2 : String := "FoundryNine$Flaws"
def TX2 : u_T := fun k => match k with
  | 0 => ("FoundryNine$Flaws", "code", "[I", true)
  | 1 => ("FoundryNine$Flaws", "place", "[I", true)
  | 2 => ("FoundryNine$Flaws", "inRing", "[Z", true)
  | 3 => ("FoundryNine$Flaws", "reach", "[I", true)
  | 4 => ("FoundryNine$Flaws", "count", "I", false)
  | _ => ("FoundryNine$Flaws", "forbidRunning", "Z", false)
def tyX2 : Nat → FieldType := fun k => match k with
  | 0 => .array .int
  | 1 => .array .int
  | 2 => .array .boolean
  | 3 => .array .int
  | 4 => .int
  | _ => .boolean
abbrev wsX20 : List Cond := u_ws RX2 TX2 6
theorem nmX2 : ∀ a, a < 6 → ∀ b, b < 6 → a ≠ b → (TX2 a).2.1 ≠ (TX2 b).2.1 := by decide +kernel
theorem tyX2_ok : ∀ k, k < 6 → parseFieldDescriptor (TX2 k).2.2.1 = some (tyX2 k) := by decide +kernel
abbrev cX2_init : ByteArray := prog_4_method_1_code
def yX2_init : MethodName := ⟨RX2, "<init>", "()V"⟩
abbrev cX2_find : ByteArray := prog_4_method_2_code
def yX2_find : MethodName := ⟨RX2, "find", "(LFoundryNine$Circuit;)V"⟩
abbrev cX2_note : ByteArray := prog_4_method_3_code
def yX2_note : MethodName := ⟨RX2, "note", "(II)V"⟩
abbrev cX2_findReach : ByteArray := prog_4_method_4_code
def yX2_findReach : MethodName := ⟨RX2, "findReach", "(LFoundryNine$Circuit;)V"⟩
abbrev cX2_reachOf : ByteArray := prog_4_method_5_code
def yX2_reachOf : MethodName := ⟨RX2, "reachOf", "(I)I"⟩
def RX3 : String := "FoundryNine$Run"
def TX3 : u_T := fun k => match k with
  | 0 => ("FoundryNine$Run", "circuit", "LFoundryNine$Circuit;", true)
  | 1 => ("FoundryNine$Run", "value", "[I", true)
  | 2 => ("FoundryNine$Run", "changedAt", "[I", true)
  | 3 => ("FoundryNine$Run", "timesChanged", "[I", true)
  | 4 => ("FoundryNine$Run", "countedFrom", "[I", true)
  | 5 => ("FoundryNine$Run", "pendingValue", "[I", true)
  | 6 => ("FoundryNine$Run", "pendingTime", "[I", true)
  | 7 => ("FoundryNine$Run", "pendingTurn", "[I", true)
  | 8 => ("FoundryNine$Run", "riseAt", "[I", true)
  | 9 => ("FoundryNine$Run", "hazardCode", "[I", true)
  | 10 => ("FoundryNine$Run", "hazardWire", "[I", true)
  | 11 => ("FoundryNine$Run", "hazardTime", "[I", true)
  | 12 => ("FoundryNine$Run", "hazardCount", "I", false)
  | 13 => ("FoundryNine$Run", "now", "I", false)
  | 14 => ("FoundryNine$Run", "turns", "I", false)
  | 15 => ("FoundryNine$Run", "swallowed", "I", false)
  | 16 => ("FoundryNine$Run", "restless", "I", false)
  | _ => ("FoundryNine$Run", "changes", "I", false)
def tyX3 : Nat → FieldType := fun k => match k with
  | 0 => .object "FoundryNine$Circuit"
  | 1 => .array .int
  | 2 => .array .int
  | 3 => .array .int
  | 4 => .array .int
  | 5 => .array .int
  | 6 => .array .int
  | 7 => .array .int
  | 8 => .array .int
  | 9 => .array .int
  | 10 => .array .int
  | 11 => .array .int
  | 12 => .int
  | 13 => .int
  | 14 => .int
  | 15 => .int
  | 16 => .int
  | _ => .int
abbrev wsX30 : List Cond := u_ws RX3 TX3 18
theorem nmX3 : ∀ a, a < 18 → ∀ b, b < 18 → a ≠ b → (TX3 a).2.1 ≠ (TX3 b).2.1 := by decide +kernel
theorem tyX3_ok : ∀ k, k < 18 → parseFieldDescriptor (TX3 k).2.2.1 = some (tyX3 k) := by decide +kernel
abbrev cX3_init : ByteArray := prog_5_method_1_code
def yX3_init : MethodName := ⟨RX3, "<init>", "(LFoundryNine$Circuit;)V"⟩
abbrev cX3_clear : ByteArray := prog_5_method_2_code
def yX3_clear : MethodName := ⟨RX3, "clear", "()V"⟩
abbrev cX3_copyFrom : ByteArray := prog_5_method_3_code
def yX3_copyFrom : MethodName := ⟨RX3, "copyFrom", "(LFoundryNine$Run;)V"⟩
abbrev cX3_begin : ByteArray := prog_5_method_4_code
def yX3_begin : MethodName := ⟨RX3, "begin", "()V"⟩
abbrev cX3_put : ByteArray := prog_5_method_5_code
def yX3_put : MethodName := ⟨RX3, "put", "(II)V"⟩
abbrev cX3_comeToRest : ByteArray := prog_5_method_6_code
def yX3_comeToRest : MethodName := ⟨RX3, "comeToRest", "()I"⟩
abbrev cX3_letCome : ByteArray := prog_5_method_7_code
def yX3_letCome : MethodName := ⟨RX3, "letCome", "(I)I"⟩
abbrev cX3_nextLine : ByteArray := prog_5_method_8_code
def yX3_nextLine : MethodName := ⟨RX3, "nextLine", "(I)I"⟩
abbrev cX3_comesAheadOf : ByteArray := prog_5_method_9_code
def yX3_comesAheadOf : MethodName := ⟨RX3, "comesAheadOf", "(II)Z"⟩
abbrev cX3_nextTime : ByteArray := prog_5_method_10_code
def yX3_nextTime : MethodName := ⟨RX3, "nextTime", "()I"⟩
abbrev cX3_linesPending : ByteArray := prog_5_method_11_code
def yX3_linesPending : MethodName := ⟨RX3, "linesPending", "()I"⟩
abbrev cX3_giveUpAll : ByteArray := prog_5_method_12_code
def yX3_giveUpAll : MethodName := ⟨RX3, "giveUpAll", "()V"⟩
abbrev cX3_beginCounting : ByteArray := prog_5_method_13_code
def yX3_beginCounting : MethodName := ⟨RX3, "beginCounting", "()V"⟩
abbrev cX3_change : ByteArray := prog_5_method_14_code
def yX3_change : MethodName := ⟨RX3, "change", "(II)V"⟩
abbrev cX3_askGate : ByteArray := prog_5_method_15_code
def yX3_askGate : MethodName := ⟨RX3, "askGate", "(I)V"⟩
abbrev cX3_askRegister : ByteArray := prog_5_method_16_code
def yX3_askRegister : MethodName := ⟨RX3, "askRegister", "(III)V"⟩
abbrev cX3_rise : ByteArray := prog_5_method_17_code
def yX3_rise : MethodName := ⟨RX3, "rise", "(I)V"⟩
abbrev cX3_isRecent : ByteArray := prog_5_method_18_code
def yX3_isRecent : MethodName := ⟨RX3, "isRecent", "(II)Z"⟩
abbrev cX3_makePending : ByteArray := prog_5_method_19_code
def yX3_makePending : MethodName := ⟨RX3, "makePending", "(II)V"⟩
abbrev cX3_valueOf : ByteArray := prog_5_method_20_code
def yX3_valueOf : MethodName := ⟨RX3, "valueOf", "(I)I"⟩
abbrev cX3_noteHazardsOfGates : ByteArray := prog_5_method_21_code
def yX3_noteHazardsOfGates : MethodName := ⟨RX3, "noteHazardsOfGates", "()V"⟩
abbrev cX3_noteHazard : ByteArray := prog_5_method_22_code
def yX3_noteHazard : MethodName := ⟨RX3, "noteHazard", "(II)V"⟩
abbrev cX3_worked : ByteArray := prog_5_method_23_code
def yX3_worked : MethodName := ⟨RX3, "worked", "(IIII)I"⟩
abbrev cX3_turned : ByteArray := prog_5_method_24_code
def yX3_turned : MethodName := ⟨RX3, "turned", "(I)I"⟩
abbrev cX3_both : ByteArray := prog_5_method_25_code
def yX3_both : MethodName := ⟨RX3, "both", "(II)I"⟩
abbrev cX3_either : ByteArray := prog_5_method_26_code
def yX3_either : MethodName := ⟨RX3, "either", "(II)I"⟩
abbrev cX3_chosen : ByteArray := prog_5_method_27_code
def yX3_chosen : MethodName := ⟨RX3, "chosen", "(III)I"⟩
def RX4 : String := "FoundryNine"
def TX4 : u_T := fun k => match k with
  | 0 => ("FoundryNine", "circuit", "LFoundryNine$Circuit;", true)
  | 1 => ("FoundryNine", "noted", "LFoundryNine$Flaws;", true)
  | 2 => ("FoundryNine", "arrivals", "LFoundryNine$Arrivals;", true)
  | 3 => ("FoundryNine", "arrivalsWith", "LFoundryNine$Arrivals;", true)
  | 4 => ("FoundryNine", "run", "LFoundryNine$Run;", true)
  | 5 => ("FoundryNine", "trial", "LFoundryNine$Run;", true)
  | _ => ("FoundryNine", "running", "Z", false)
def tyX4 : Nat → FieldType := fun k => match k with
  | 0 => .object "FoundryNine$Circuit"
  | 1 => .object "FoundryNine$Flaws"
  | 2 => .object "FoundryNine$Arrivals"
  | 3 => .object "FoundryNine$Arrivals"
  | 4 => .object "FoundryNine$Run"
  | 5 => .object "FoundryNine$Run"
  | _ => .boolean
abbrev wsX40 : List Cond := u_ws RX4 TX4 7
theorem nmX4 : ∀ a, a < 7 → ∀ b, b < 7 → a ≠ b → (TX4 a).2.1 ≠ (TX4 b).2.1 := by decide +kernel
theorem tyX4_ok : ∀ k, k < 7 → parseFieldDescriptor (TX4 k).2.2.1 = some (tyX4 k) := by decide +kernel
abbrev cX4_init : ByteArray := prog_1_method_1_code
def yX4_init : MethodName := ⟨RX4, "<init>", "()V"⟩
abbrev cX4_input : ByteArray := prog_1_method_2_code
def yX4_input : MethodName := ⟨RX4, "input", "(I)I"⟩
abbrev cX4_gate : ByteArray := prog_1_method_3_code
def yX4_gate : MethodName := ⟨RX4, "gate", "(IIIIII)I"⟩
abbrev cX4_register : ByteArray := prog_1_method_4_code
def yX4_register : MethodName := ⟨RX4, "register", "(IIIII)I"⟩
abbrev cX4_lines : ByteArray := prog_1_method_7_code
def yX4_lines : MethodName := ⟨RX4, "lines", "()I"⟩
abbrev cX4_flaws : ByteArray := prog_1_method_8_code
def yX4_flaws : MethodName := ⟨RX4, "flaws", "()I"⟩
abbrev cX4_ofFlaw : ByteArray := prog_1_method_9_code
def yX4_ofFlaw : MethodName := ⟨RX4, "ofFlaw", "(II)I"⟩
abbrev cX4_arrival : ByteArray := prog_1_method_10_code
def yX4_arrival : MethodName := ⟨RX4, "arrival", "(I)I"⟩
abbrev cX4_longest : ByteArray := prog_1_method_11_code
def yX4_longest : MethodName := ⟨RX4, "longest", "()I"⟩
abbrev cX4_way : ByteArray := prog_1_method_12_code
def yX4_way : MethodName := ⟨RX4, "way", "(I)I"⟩
abbrev cX4_users : ByteArray := prog_1_method_13_code
def yX4_users : MethodName := ⟨RX4, "users", "(I)I"⟩
abbrev cX4_start : ByteArray := prog_1_method_14_code
def yX4_start : MethodName := ⟨RX4, "start", "()I"⟩
abbrev cX4_set : ByteArray := prog_1_method_15_code
def yX4_set : MethodName := ⟨RX4, "set", "(II)I"⟩
abbrev cX4_pass : ByteArray := prog_1_method_16_code
def yX4_pass : MethodName := ⟨RX4, "pass", "(I)I"⟩
abbrev cX4_settle : ByteArray := prog_1_method_17_code
def yX4_settle : MethodName := ⟨RX4, "settle", "()I"⟩
abbrev cX4_isRunning : ByteArray := prog_1_method_18_code
def yX4_isRunning : MethodName := ⟨RX4, "isRunning", "()Z"⟩
abbrev cX4_told : ByteArray := prog_1_method_19_code
def yX4_told : MethodName := ⟨RX4, "told", "(I)I"⟩
abbrev cX4_ofWire : ByteArray := prog_1_method_20_code
def yX4_ofWire : MethodName := ⟨RX4, "ofWire", "(II)I"⟩
abbrev cX4_pending : ByteArray := prog_1_method_21_code
def yX4_pending : MethodName := ⟨RX4, "pending", "(I)I"⟩
abbrev cX4_hazards : ByteArray := prog_1_method_22_code
def yX4_hazards : MethodName := ⟨RX4, "hazards", "()I"⟩
abbrev cX4_ofHazard : ByteArray := prog_1_method_23_code
def yX4_ofHazard : MethodName := ⟨RX4, "ofHazard", "(II)I"⟩
abbrev cX4_wouldBe : ByteArray := prog_1_method_24_code
def yX4_wouldBe : MethodName := ⟨RX4, "wouldBe", "(III)I"⟩
abbrev cX4_settlesIn : ByteArray := prog_1_method_26_code
def yX4_settlesIn : MethodName := ⟨RX4, "settlesIn", "()I"⟩
abbrev cX4_longestWith : ByteArray := prog_1_method_27_code
def yX4_longestWith : MethodName := ⟨RX4, "longestWith", "(II)I"⟩
abbrev cX4_digest : ByteArray := prog_1_method_29_code
def yX4_digest : MethodName := ⟨RX4, "digest", "()J"⟩
abbrev cX4_digestOfTimes : ByteArray := prog_1_method_30_code
def yX4_digestOfTimes : MethodName := ⟨RX4, "digestOfTimes", "(J)J"⟩
abbrev cX4_digestOfCircuit : ByteArray := prog_1_method_31_code
def yX4_digestOfCircuit : MethodName := ⟨RX4, "digestOfCircuit", "(J)J"⟩
abbrev cX4_digestOfWires : ByteArray := prog_1_method_32_code
def yX4_digestOfWires : MethodName := ⟨RX4, "digestOfWires", "(J)J"⟩
abbrev cX4_digestOfRun : ByteArray := prog_1_method_33_code
def yX4_digestOfRun : MethodName := ⟨RX4, "digestOfRun", "(J)J"⟩
abbrev cX4_addLine : ByteArray := prog_1_method_34_code
def yX4_addLine : MethodName := ⟨RX4, "addLine", "(IIIIII)I"⟩
abbrev cX4_isWire : ByteArray := prog_1_method_35_code
def yX4_isWire : MethodName := ⟨RX4, "isWire", "(I)Z"⟩
abbrev cX4_isWithin : ByteArray := prog_1_method_36_code
def yX4_isWithin : MethodName := ⟨RX4, "isWithin", "(II)Z"⟩
abbrev cX4_checkWire : ByteArray := prog_1_method_37_code
def yX4_checkWire : MethodName := ⟨RX4, "checkWire", "(I)V"⟩
abbrev cX4_checkDelay : ByteArray := prog_1_method_38_code
def yX4_checkDelay : MethodName := ⟨RX4, "checkDelay", "(I)V"⟩
abbrev cX4_checkRoom : ByteArray := prog_1_method_39_code
def yX4_checkRoom : MethodName := ⟨RX4, "checkRoom", "()V"⟩
abbrev cX4_checkLine : ByteArray := prog_1_method_40_code
def yX4_checkLine : MethodName := ⟨RX4, "checkLine", "(I)V"⟩
abbrev cX4_checkHasDelay : ByteArray := prog_1_method_41_code
def yX4_checkHasDelay : MethodName := ⟨RX4, "checkHasDelay", "(I)V"⟩
abbrev cX4_checkRunning : ByteArray := prog_1_method_42_code
def yX4_checkRunning : MethodName := ⟨RX4, "checkRunning", "()V"⟩
abbrev cX4_checkSetting : ByteArray := prog_1_method_43_code
def yX4_checkSetting : MethodName := ⟨RX4, "checkSetting", "(II)V"⟩
def RX5 : String := "FoundryNineLaw$Bench"
def TX5 : u_T := fun k => match k with
  | 0 => ("FoundryNineLaw$Bench", "m", "LFoundryNine;", true)
  | 1 => ("FoundryNineLaw$Bench", "s", "[I", true)
  | 2 => ("FoundryNineLaw$Bench", "draws", "I", false)
  | 3 => ("FoundryNineLaw$Bench", "lines", "I", false)
  | 4 => ("FoundryNineLaw$Bench", "line", "[[I", true)
  | 5 => ("FoundryNineLaw$Bench", "isRunning", "Z", false)
  | 6 => ("FoundryNineLaw$Bench", "time", "I", false)
  | 7 => ("FoundryNineLaw$Bench", "swallowed", "I", false)
  | 8 => ("FoundryNineLaw$Bench", "restless", "I", false)
  | 9 => ("FoundryNineLaw$Bench", "changes", "I", false)
  | 10 => ("FoundryNineLaw$Bench", "wire", "[[I", false)
  | 11 => ("FoundryNineLaw$Bench", "pending", "[[I", false)
  | 12 => ("FoundryNineLaw$Bench", "rise", "[I", true)
  | _ => ("FoundryNineLaw$Bench", "hazards", "[[I", false)
def tyX5 : Nat → FieldType := fun k => match k with
  | 0 => .object "FoundryNine"
  | 1 => .array .int
  | 2 => .int
  | 3 => .int
  | 4 => .array (.array .int)
  | 5 => .boolean
  | 6 => .int
  | 7 => .int
  | 8 => .int
  | 9 => .int
  | 10 => .array (.array .int)
  | 11 => .array (.array .int)
  | 12 => .array .int
  | _ => .array (.array .int)
abbrev wsX50 : List Cond := u_ws RX5 TX5 14
theorem nmX5 : ∀ a, a < 14 → ∀ b, b < 14 → a ≠ b → (TX5 a).2.1 ≠ (TX5 b).2.1 := by decide +kernel
theorem tyX5_ok : ∀ k, k < 14 → parseFieldDescriptor (TX5 k).2.2.1 = some (tyX5 k) := by decide +kernel
abbrev cX5_init : ByteArray := prog_7_method_1_code
def yX5_init : MethodName := ⟨RX5, "<init>", "([II)V"⟩
abbrev cX5_draw : ByteArray := prog_7_method_2_code
def yX5_draw : MethodName := ⟨RX5, "draw", "(I)I"⟩
abbrev cX5_with : ByteArray := prog_7_method_3_code
def yX5_with : MethodName := ⟨RX5, "with", "([[II[I)[[I"⟩
abbrev cX5_without : ByteArray := prog_7_method_4_code
def yX5_without : MethodName := ⟨RX5, "without", "([[II)[[I"⟩
abbrev cX5_clear : ByteArray := prog_7_method_5_code
def yX5_clear : MethodName := ⟨RX5, "clear", "()V"⟩
abbrev cX5_put : ByteArray := prog_7_method_6_code
def yX5_put : MethodName := ⟨RX5, "put", "(IIIIII)Z"⟩
abbrev cX5_found : ByteArray := prog_7_method_7_code
def yX5_found : MethodName := ⟨RX5, "found", "(I)Z"⟩
abbrev cX5_from : ByteArray := prog_7_method_8_code
def yX5_from : MethodName := ⟨RX5, "from", "(II)I"⟩
abbrev cX5_isGate : ByteArray := prog_7_method_9_code
def yX5_isGate : MethodName := ⟨RX5, "isGate", "(I)Z"⟩
abbrev cX5_uses : ByteArray := prog_7_method_10_code
def yX5_uses : MethodName := ⟨RX5, "uses", "(II)Z"⟩
abbrev cX5_driver : ByteArray := prog_7_method_11_code
def yX5_driver : MethodName := ⟨RX5, "driver", "(I)I"⟩
abbrev cX5_users : ByteArray := prog_7_method_12_code
def yX5_users : MethodName := ⟨RX5, "users", "(I)I"⟩
abbrev cX5_leads : ByteArray := prog_7_method_13_code
def yX5_leads : MethodName := ⟨RX5, "leads", "(II[Z)Z"⟩
abbrev cX5_isRing : ByteArray := prog_7_method_14_code
def yX5_isRing : MethodName := ⟨RX5, "isRing", "(I)Z"⟩
abbrev cX5_flaws : ByteArray := prog_7_method_15_code
def yX5_flaws : MethodName := ⟨RX5, "flaws", "()[I"⟩
abbrev cX5_mayRun : ByteArray := prog_7_method_16_code
def yX5_mayRun : MethodName := ⟨RX5, "mayRun", "()Z"⟩
abbrev cX5_value : ByteArray := prog_7_method_18_code
def yX5_value : MethodName := ⟨RX5, "value", "(I)I"⟩
abbrev cX5_reckon : ByteArray := prog_7_method_19_code
def yX5_reckon : MethodName := ⟨RX5, "reckon", "(I)I"⟩
abbrev cX5_pendingOf : ByteArray := prog_7_method_20_code
def yX5_pendingOf : MethodName := ⟨RX5, "pendingOf", "(I)I"⟩
abbrev cX5_drop : ByteArray := prog_7_method_21_code
def yX5_drop : MethodName := ⟨RX5, "drop", "(I)V"⟩
abbrev cX5_pend : ByteArray := prog_7_method_22_code
def yX5_pend : MethodName := ⟨RX5, "pend", "(II)V"⟩
abbrev cX5_note : ByteArray := prog_7_method_23_code
def yX5_note : MethodName := ⟨RX5, "note", "(II)V"⟩
abbrev cX5_change : ByteArray := prog_7_method_24_code
def yX5_change : MethodName := ⟨RX5, "change", "(II)V"⟩
abbrev cX5_ask : ByteArray := prog_7_method_25_code
def yX5_ask : MethodName := ⟨RX5, "ask", "(III)V"⟩
abbrev cX5_started : ByteArray := prog_7_method_29_code
def yX5_started : MethodName := ⟨RX5, "started", "()I"⟩
abbrev cX5_start : ByteArray := prog_7_method_31_code
def yX5_start : MethodName := ⟨RX5, "start", "()Z"⟩
def RX6 : String := "FoundryNineModel"
def TX6 : u_T := fun k => match k with
  | _ => ("", "", "", false)
def tyX6 : Nat → FieldType := fun k => match k with
  | _ => .int
abbrev wsX60 : List Cond := u_ws RX6 TX6 0
theorem nmX6 : ∀ a, a < 0 → ∀ b, b < 0 → a ≠ b → (TX6 a).2.1 ≠ (TX6 b).2.1 := by decide +kernel
theorem tyX6_ok : ∀ k, k < 0 → parseFieldDescriptor (TX6 k).2.2.1 = some (tyX6 k) := by decide +kernel
def RJx145de : String := "java/io/Serializable"
def TJx145de : u_T := fun k => match k with
  | _ => ("", "", "", false)
def tyJx145de : Nat → FieldType := fun k => match k with
  | _ => .int
def RJ6 : String := "java/lang/Integer"
def TJ6 : u_T := fun k => match k with
  | _ => ("", "", "", false)
def tyJ6 : Nat → FieldType := fun k => match k with
  | _ => .int
abbrev cJ6_bitCount_0f7a4 : ByteArray := prog_13_method_49_code
def yJ6_bitCount_0f7a4 : MethodName := ⟨RJ6, "bitCount", "(I)I"⟩
def RJ9 : String := "java/lang/Math"
def TJ9 : u_T := fun k => match k with
  | _ => ("", "", "", false)
def tyJ9 : Nat → FieldType := fun k => match k with
  | _ => .int
abbrev cJ9_max_7cf53 : ByteArray := prog_14_method_65_code
def yJ9_max_7cf53 : MethodName := ⟨RJ9, "max", "(II)I"⟩
def RJ0 : String := "java/lang/String"
def TJ0 : u_T := fun k => match k with
  | _ => ("", "", "", false)
def tyJ0 : Nat → FieldType := fun k => match k with
  | _ => .int
def RJ10 : String := "java/lang/System"
def TJ10 : u_T := fun k => match k with
  | _ => ("", "", "", false)
def tyJ10 : Nat → FieldType := fun k => match k with
  | _ => .int
def RJ7 : String := "java/util/Arrays"
def TJ7 : u_T := fun k => match k with
  | _ => ("", "", "", false)
def tyJ7 : Nat → FieldType := fun k => match k with
  | _ => .int
abbrev cJ7_fill_53178 : ByteArray := prog_19_method_103_code
def yJ7_fill_53178 : MethodName := ⟨RJ7, "fill", "([II)V"⟩
def RL : String := "FoundryNineLaw"
abbrev cL_below : ByteArray := method_2_code
def yL_below : MethodName := ⟨RL, "below", "(II)I"⟩
abbrev cL_cell : ByteArray := method_3_code
def yL_cell : MethodName := ⟨RL, "cell", "([II)I"⟩
abbrev cL_law : ByteArray := code
def yL_law : MethodName := ⟨RL, "law", "([I)Z"⟩
abbrev vwCl : List vw_C := [(RX0, TX0, 1), (RX1, TX1, 12), (RX2, TX2, 6), (RX3, TX3, 18), (RX4, TX4, 7), (RX5, TX5, 14)]
end
section
/-! AW: a layer of the verifier's own over the kit's rows. A heap of cells by small numbers (ids), a world of all of them at once, one judgement AW at a program point, one contract AM a method. Terms stay free of addresses. -/
abbrev Mt : Type := MethodName × ByteArray × Nat × Option FieldType × List (Nat × Nat × Nat × Nat)
abbrev Out : Type := Option Value ⊕ String
abbrev Ce : Type := (FieldType × vp_A) ⊕ (Nat × List Value)
abbrev Hp : Type := Nat → Ce
abbrev Po : Type := Out → Hp → Nat → Prop
abbrev Gz : Type := State → (Nat → Prop) → (Nat → Nat) → Prop
def aw_cv (ad : Nat → Nat) (v : Value) : Value := match v with
  | .ref i => .ref (ad i)
  | w => w
def aw_ok (k : Nat) (v : Value) : Prop := match v with
  | .ref i => i < k
  | _ => True
/-- the contents of an array, its references by their addresses -/
def aw_ca (ad : Nat → Nat) (a : vp_A) : vp_A := (a.1, match a.2 with
  | .inl f => .inl f
  | .inr (.inl f) => .inr (.inl f)
  | .inr (.inr (.inl f)) => .inr (.inr (.inl f))
  | .inr (.inr (.inr (.inl f))) => .inr (.inr (.inr (.inl f)))
  | .inr (.inr (.inr (.inr f))) => .inr (.inr (.inr (.inr fun j => (f j).map ad))))
def aw_oka (k : Nat) (a : vp_A) : Prop := match a.2 with
  | .inr (.inr (.inr (.inr f))) => ∀ j i, f j = some i → i < k
  | _ => True
def aw_ce (cT : FieldType → ClassId) (ad : Nat → Nat) (c : Ce) : va_E := match c with
  | .inl x => .inl (cT x.1, aw_ca ad x.2)
  | .inr o => .inr (o.1, o.2.map (aw_cv ad))
def aw_okc (k : Nat) (c : Ce) : Prop := match c with
  | .inl x => aw_oka k x.2
  | .inr o => ∀ v ∈ o.2, aw_ok k v
def aw_ws (cT : FieldType → ClassId) (ad : Nat → Nat) (h : Hp) (k : Nat) : va_W := (List.range (k - 1)).map fun i => (ad (i + 1), aw_ce cT ad (h (i + 1)))
def aw_tys (cT : FieldType → ClassId) : List (ClassId × FieldType) := [(cT .int, .int), (cT .boolean, .boolean), (cT .long, .long), (cT (.array .int), .array .int)]
abbrev aw_cl : List vw_C := [(RX0, TX0, 1), (RX1, TX1, 12), (RX2, TX2, 6), (RX3, TX3, 18), (RX4, TX4, 7), (RX5, TX5, 14)]
def aw_Wo (D : va_G) (cT : FieldType → ClassId) (A : Nat → Prop) (ad : Nat → Nat) (h : Hp) (k : Nat) (H : Heap) (U : State) : Prop :=
  va_P D aw_cl (aw_ws cT ad h k) H ∧ va_D A (aw_ws cT ad h k) ∧ va_K D aw_cl (aw_tys cT) U ∧ 0 < k ∧ ∀ i, 0 < i → i < k → aw_okc k (h i)
def aw_nest (w : Cond) : Bool := match w with
  | .fieldLinkNest .. => true
  | .methodLinkNest .. => true
  | _ => false
def aw_okw (w : Cond) : Bool := goodWord w || aw_nest w || (w.onTables && w.faceAtom)
def aw_str : List (String × Nat × String) := lw_tbl.filterMap fun w => match w with
  | .stringRef o i t => some (o, i, t)
  | _ => none
def aw_exc : List String := ["java/lang/IllegalArgumentException", "java/lang/IllegalStateException", "java/lang/IndexOutOfBoundsException"]
/-- rows of rows of ints are made by anewarray -/
def aw_AO (U : State) : Prop := (Cond.arrayOver (.array .int)).before #[] U = true
theorem aw_AO.moved {u U : State} (hvm : u.vm.Alike U.vm) (h : aw_AO u) : aw_AO U := by
  obtain ⟨comp, c, k, h1, h2, h3, h4, h5⟩ := arrayOverA_spec h
  obtain ⟨k', hk', he⟩ := hvm.2.2 _ _ h3
  have hi : (U.vm.classes.findIdx? fun (x : Class) => match x.kind with | .array component _ => component == comp | _ => false) = some c := by
    have q1 := va_idx_bare U.vm comp
    have q2 := va_idx_bare u.vm comp
    have e : U.vm.bare = u.vm.bare := by first | exact hvm.bare_eq | exact hvm.bare_eq.symm
    rw [e] at q1
    exact q1.symm.trans (q2.trans h2)
  have hkind : k'.kind = .array comp (.array .int) := by rw [he]; exact h4
  have f1 : U.vm.findClass (FieldType.array .int).toString = some comp := by rw [hvm.findClass]; exact h1
  have f2 : U.vm.findClass ("[" ++ (FieldType.array .int).toString) = some c := by rw [hvm.findClass]; exact h5
  unfold aw_AO Cond.before Cond.holds
  simp only [Cond.value]
  rw [f1, Option.bind_some]
  refine (congrArg (fun o : Option Nat => (o.bind (fun c => (U.vm.classes[c]?).map fun (k : Class) => match k.kind with | .array _ ty => decide (ty = FieldType.array .int) && decide (U.vm.findClass ("[" ++ (FieldType.array .int).toString) = some c) | _ => false) == some true)) hi).trans ?_
  simp [hk', hkind, f2]
def aw_GF (A : Nat → Prop) (U : State) : Prop :=
  (∀ w ∈ lw_tbl, aw_okw w = true → w.before #[] U = true) ∧ (∀ q ∈ aw_str, ∃ a, vk_R q.1 q.2.1 q.2.2 a U) ∧ (∀ x ∈ aw_exc, ∀ y ∈ aw_exc, x ≠ y → va_Nc x y U) ∧
  vx_Zq Bundle.tN "UNASSIGNED_STACK" Bundle.steD A U U.heap ∧ vx_Zq Bundle.tN "SUPPRESSED_SENTINEL" Bundle.listD A U U.heap ∧ aw_AO U
def aw_cw (μ : Mt) : Cond := match μ.2.2.2.2 with
  | [] => .code μ.1 μ.2.1 μ.2.2.1 μ.2.2.2.1
  | hh => .codeWith μ.1 μ.2.1 μ.2.2.1 μ.2.2.2.1 hh
def aw_Cx (Z : Gz) (μ : Mt) (l : Launch) (p : Program) (s : State) (m : MethodId) (args : Array Value) (meth : Method) (c : Code) (ad0 : Nat → Nat) (A : Nat → Prop) : Prop :=
  l.stackTraces = false ∧ p.tables.exec = Jvm.exec ∧ c.code = μ.2.1 ∧ c.maxLocals = μ.2.2.1 ∧ meth.sig.returnType = μ.2.2.2.1 ∧ meth.locks = false ∧ meth.name = μ.1.name ∧
  s.vm.findClass μ.1.cls = some m.cls ∧ c.exceptionTable.toList = tableOf μ.2.2.2.2 ∧ aw_GF A s ∧ (∀ q, s.heap.size ≤ q → A q) ∧ Z s A ad0
def aw_Lv (nL : Nat) (ad : Nat → Nat) (k : Nat) (ls : Array Slot) (L : List Value) : Prop :=
  ls.size = nL ∧ lv_wf ls ∧ ∀ (i : Nat) (v : Value), L[i]? = some v → v ≠ .null → ls[i]? = some (.val (aw_cv ad v)) ∧ aw_ok k v
def aw_Qc (D : va_G) (cT : FieldType → ClassId) (A : Nat → Prop) (ad0 : Nat → Nat) (k0 : Nat) (Q : Po) : Array Value → State → Outcome → State → Prop := fun _ st oc t =>
  (∃ (v : Option Value) (h' : Hp) (k' : Nat) (ad' : Nat → Nat), oc = .returned (v.map (aw_cv ad')) ∧ Q (.inl v) h' k' ∧ (∀ i, i < k0 → ad' i = ad0 i) ∧ k0 ≤ k' ∧ (∀ w, v = some w → aw_ok k' w) ∧ aw_Wo D cT A ad' h' k' t.heap t) ∧ va_F A st t
def aw_Xc (D : va_G) (cT : FieldType → ClassId) (A : Nat → Prop) (ad0 : Nat → Nat) (k0 : Nat) (Q : Po) : String → State → State → Prop := fun E st t =>
  (∃ (h' : Hp) (k' : Nat) (ad' : Nat → Nat), Q (.inr E) h' k' ∧ (∀ i, i < k0 → ad' i = ad0 i) ∧ k0 ≤ k' ∧ aw_Wo D cT A ad' h' k' t.heap t) ∧ va_F A st t
def aw_R (d mc ms : Nat) : Room := { frames := d + 20, cells := mc, slots := ms, locals := 41 * d + 852 }
/-- at pc of the method μ, with locals L, operands S, the heap h of the ids below k, cs cells of ss slots made so far: the method comes to an end with Q -/
def AW (Z : Gz) (μ : Mt) (d k0 mc ms : Nat) (Q : Po) (pc : Nat) (L S : List Value) (h : Hp) (k cs ss : Nat) : Prop :=
  ∀ (l : Launch) (D : va_G) (cT : FieldType → ClassId) (p : Program) (e : Env) (s : State) (m : MethodId) (args : Array Value) (below : List Frame) (meth : Method) (c : Code) (ad0 ad : Nat → Nat) (A : Nat → Prop) (H : Heap) (locs : List Loc) (ls : Array Slot),
    aw_Cx Z μ l p s m args meth c ad0 A → (∀ i, i < k0 → ad i = ad0 i) → k0 ≤ k → va_S A s.heap H locs → aw_Wo D cT A ad h k H s → aw_Lv μ.2.2.1 ad k ls L → (∀ v ∈ S, aw_ok k v) →
    W p l e (aw_R d mc ms) s m args below meth c H locs cs ss (vx_MQ below (aw_Qc D cT A ad0 k0 Q) (aw_Xc D cT A ad0 k0 Q) args s mc ms A) (F0 m pc ls (S.map (aw_cv ad)))
def aw_Z0 : Gz := fun _ _ _ => True
/-- the contract of the method μ at these arguments and this heap: it ends with Q, at most mc cells of ms slots are new -/
def AM (μ : Mt) (d : Nat) (as : List Value) (h : Hp) (k mc ms : Nat) (Q : Po) : Prop :=
  ∀ (l : Launch) (D : va_G) (cT : FieldType → ClassId) (ad : Nat → Nat) (sz : Nat), l.stackTraces = false →
    vx_Met l μ.1 [aw_cw μ] (aw_R d mc ms) (va_Pc (as.map (aw_cv ad)) (fun U => U.heap.size = sz ∧ (∀ v ∈ as, aw_ok k v) ∧ aw_Wo D cT (va_A (aw_ws cT ad h k) sz) ad h k U.heap U ∧ aw_GF (va_A (aw_ws cT ad h k) sz) U))
      (aw_Qc D cT (va_A (aw_ws cT ad h k) sz) ad k Q) (aw_Xc D cT (va_A (aw_ws cT ad h k) sz) ad k Q) mc ms (va_A (aw_ws cT ad h k) sz)
/-! words -/
theorem aw_stable {w : Cond} (hw : aw_okw w = true) {a a' : Array Value} {s U : State} (hW : s.WarmedH U.vm) (h : w.before a s = true) : w.before a' U = true := by
  simp only [aw_okw, Bool.or_eq_true, Bool.and_eq_true] at hw
  rcases hw with (hw | hw) | ⟨hw, hf⟩
  · exact word_at hW (good_of_word hw) h
  · cases w
    case fieldLinkNest => exact va_tabs rfl (rfl : (s.setVm U.vm).vm = U.vm) (Cond.fieldLinkNest_warmed (args := a) hW h)
    case methodLinkNest => exact va_tabs rfl (rfl : (s.setVm U.vm).vm = U.vm) (Cond.methodLinkNest_warmed (args := a) hW h)
    all_goals exact absurd hw (by simp [aw_nest])
  · exact va_tabs hw (rfl : (s.setVm U.vm).vm = U.vm) (Cond.faceAtom_setVm hW.alike w hf h)
theorem aw_GF.moved {A B : Nat → Prop} {s U : State} (h : aw_GF A s) (hW : s.WarmedH U.vm) (hq : ∀ a : Nat, a < s.heap.size → ¬ A a → U.heap[a]? = s.heap[a]?) (hAB : ∀ q, B q → A q) : aw_GF B U := by
  obtain ⟨h1, h2, h3, h4, h5, h6⟩ := h
  exact ⟨fun w hw ho => aw_stable ho hW (h1 w hw ho), fun q hq => by obtain ⟨a, ha⟩ := h2 q hq; exact ⟨a, ha.warm hW⟩, fun x hx y hy hxy => (h3 x hx y hy hxy).moved hW.alike,
    vx_Zq.moved hW.alike ((h4.kept hq).narrow hAB), vx_Zq.moved hW.alike ((h5.kept hq).narrow hAB), h6.moved hW.alike⟩
/-! values and cells under another map of addresses -/
theorem aw_cv_congr {ad ad' : Nat → Nat} {k : Nat} {v : Value} (h : aw_ok k v) (e : ∀ i, i < k → ad' i = ad i) : aw_cv ad' v = aw_cv ad v := by
  cases v <;> first | rfl | (show Value.ref _ = Value.ref _; rw [e _ h])
theorem aw_ok_le {k k' : Nat} {v : Value} (h : aw_ok k v) (hk : k ≤ k') : aw_ok k' v := by
  cases v <;> first | trivial | exact Nat.lt_of_lt_of_le h hk
theorem aw_oka_le {k k' : Nat} {a : vp_A} (h : aw_oka k a) (hk : k ≤ k') : aw_oka k' a := by
  obtain ⟨n, a⟩ := a
  rcases a with f | f | f | f | f
  · trivial
  · trivial
  · trivial
  · trivial
  · exact fun j i e => Nat.lt_of_lt_of_le (h j i e) hk
theorem aw_ca_congr {ad ad' : Nat → Nat} {k : Nat} {a : vp_A} (h : aw_oka k a) (e : ∀ i, i < k → ad' i = ad i) : aw_ca ad' a = aw_ca ad a := by
  obtain ⟨n, a⟩ := a
  rcases a with f | f | f | f | f
  · rfl
  · rfl
  · rfl
  · rfl
  · have : (fun j => (f j).map ad') = fun j => (f j).map ad := by
      funext j
      cases hj : f j with
      | none => rfl
      | some i => simp only [Option.map_some, e i (h j i hj)]
    show ((n, .inr (.inr (.inr (.inr fun j => (f j).map ad')))) : vp_A) = (n, .inr (.inr (.inr (.inr fun j => (f j).map ad))))
    rw [this]
theorem aw_okc_le {k k' : Nat} {c : Ce} (h : aw_okc k c) (hk : k ≤ k') : aw_okc k' c := by
  rcases c with c | c
  · exact aw_oka_le h hk
  · exact fun v hv => aw_ok_le (h v hv) hk
theorem aw_ce_congr {cT : FieldType → ClassId} {ad ad' : Nat → Nat} {k : Nat} {c : Ce} (h : aw_okc k c) (e : ∀ i, i < k → ad' i = ad i) : aw_ce cT ad' c = aw_ce cT ad c := by
  rcases c with c | c
  · show Sum.inl (cT c.1, aw_ca ad' c.2) = Sum.inl (cT c.1, aw_ca ad c.2)
    rw [aw_ca_congr h e]
  · show Sum.inr _ = Sum.inr _
    rw [List.map_congr_left fun v hv => aw_cv_congr (h v hv) e]
theorem aw_cat (ad : Nat → Nat) (v : Value) : (aw_cv ad v).category = v.category := by cases v <;> rfl
theorem aw_ws_len (cT : FieldType → ClassId) (ad : Nat → Nat) (h : Hp) (k : Nat) : (aw_ws cT ad h k).length = k - 1 := by simp [aw_ws]
theorem aw_ws_at (cT : FieldType → ClassId) (ad : Nat → Nat) (h : Hp) {k i : Nat} (h0 : 0 < i) (hi : i < k) : (aw_ws cT ad h k)[i - 1]? = some (ad i, aw_ce cT ad (h i)) := by
  have e : i - 1 + 1 = i := Nat.sub_add_cancel h0
  simp only [aw_ws, List.getElem?_map]
  rw [List.getElem?_range (by omega)]
  simp [e]
theorem aw_ws_out {cT : FieldType → ClassId} {ad : Nat → Nat} {h : Hp} {k j : Nat} {q : Nat × va_E} (hq : (aw_ws cT ad h k)[j]? = some q) : j + 1 < k ∧ q = (ad (j + 1), aw_ce cT ad (h (j + 1))) := by
  have hl : j < k - 1 := by
    have := (List.getElem?_eq_some_iff.mp hq).1
    rwa [aw_ws_len] at this
  have h2 := aw_ws_at cT ad h (k := k) (i := j + 1) (Nat.succ_pos j) (by omega)
  rw [Nat.add_sub_cancel, hq] at h2
  exact ⟨by omega, Option.some.inj h2⟩
theorem aw_ws_set (cT : FieldType → ClassId) (ad : Nat → Nat) (h : Hp) {k i : Nat} (h0 : 0 < i) (hi : i < k) (e : Ce) : (aw_ws cT ad h k).set (i - 1) (ad i, aw_ce cT ad e) = aw_ws cT ad (va_up h i e) k := by
  apply List.ext_getElem?
  intro j
  by_cases hj : j + 1 < k
  · have h2 := aw_ws_at cT ad (va_up h i e) (k := k) (i := j + 1) (Nat.succ_pos j) hj
    rw [Nat.add_sub_cancel] at h2
    rw [h2]
    by_cases hji : j + 1 = i
    · have e1 : i - 1 = j := by omega
      rw [e1, List.getElem?_set_self (by rw [aw_ws_len]; omega)]
      subst hji
      simp [va_up]
    · rw [List.getElem?_set_ne (by omega)]
      have h3 := aw_ws_at cT ad h (k := k) (i := j + 1) (Nat.succ_pos j) hj
      rw [Nat.add_sub_cancel] at h3
      rw [h3]
      simp [va_up, hji]
  · rw [List.getElem?_eq_none (by rw [List.length_set, aw_ws_len]; omega), List.getElem?_eq_none (by rw [aw_ws_len]; omega)]
theorem aw_ws_push (cT : FieldType → ClassId) (ad : Nat → Nat) (h : Hp) {k : Nat} (h0 : 0 < k) (hok : ∀ i, 0 < i → i < k → aw_okc k (h i)) (q : Nat) (e : Ce) (he : aw_okc k e) :
    aw_ws cT (va_up ad k q) (va_up h k e) (k + 1) = aw_ws cT ad h k ++ [(q, aw_ce cT ad e)] := by
  have hc : ∀ i, i < k → va_up ad k q i = ad i := fun i hi => by simp [va_up, Nat.ne_of_lt hi]
  apply List.ext_getElem?
  intro j
  by_cases hj : j + 1 < k
  · have h2 := aw_ws_at cT (va_up ad k q) (va_up h k e) (k := k + 1) (i := j + 1) (Nat.succ_pos j) (by omega)
    have h3 := aw_ws_at cT ad h (k := k) (i := j + 1) (Nat.succ_pos j) hj
    rw [Nat.add_sub_cancel] at h2 h3
    rw [h2, List.getElem?_append_left (by rw [aw_ws_len]; omega), h3, hc _ hj]
    have e1 : va_up h k e (j + 1) = h (j + 1) := by simp [va_up, Nat.ne_of_lt hj]
    rw [e1, aw_ce_congr (hok _ (Nat.succ_pos j) hj) hc]
  · by_cases hj2 : j + 1 = k
    · have h2 := aw_ws_at cT (va_up ad k q) (va_up h k e) (k := k + 1) (i := j + 1) (Nat.succ_pos j) (by omega)
      rw [Nat.add_sub_cancel] at h2
      rw [h2, List.getElem?_append_right (by rw [aw_ws_len]; omega), aw_ws_len]
      have e0 : j - (k - 1) = 0 := by omega
      rw [e0]
      subst hj2
      simp only [va_up, if_true, List.getElem?_cons_zero]
      rw [← aw_ce_congr he hc]
    · rw [List.getElem?_eq_none (by rw [aw_ws_len]; omega), List.getElem?_eq_none (by rw [List.length_append, aw_ws_len]; simp; omega)]
theorem aw_ws_kept {cT : FieldType → ClassId} {ad ad' : Nat → Nat} {h : Hp} {k : Nat} (hok : ∀ i, 0 < i → i < k → aw_okc k (h i)) (e : ∀ i, i < k → ad' i = ad i) : aw_ws cT ad' h k = aw_ws cT ad h k := by
  apply List.ext_getElem?
  intro j
  by_cases hj : j + 1 < k
  · have h2 := aw_ws_at cT ad' h (k := k) (i := j + 1) (Nat.succ_pos j) hj
    have h3 := aw_ws_at cT ad h (k := k) (i := j + 1) (Nat.succ_pos j) hj
    rw [Nat.add_sub_cancel] at h2 h3
    rw [h2, h3, e _ hj, aw_ce_congr (hok _ (Nat.succ_pos j) hj) e]
  · rw [List.getElem?_eq_none (by rw [aw_ws_len]; omega), List.getElem?_eq_none (by rw [aw_ws_len]; omega)]
/-! into a method's body, out of it -/
def aw_loc (vs : List Value) : List Value := match vs with
  | [] => []
  | v :: vs => if v.category = 2 then v :: .null :: aw_loc vs else v :: aw_loc vs
theorem aw_loc_in (ad : Nat → Nat) (n : Nat) : ∀ (vs : List Value) (b i : Nat) (v : Value), (aw_loc vs ++ List.replicate n .null)[i]? = some v → v ≠ .null → v ∈ vs ∧ (b + i, aw_cv ad v) ∈ lv_args b (vs.map (aw_cv ad))
  | [], b, i, v, h, hv => by
    rw [aw_loc, List.nil_append] at h
    have := List.mem_of_getElem? h
    exact absurd (List.eq_of_mem_replicate this) hv
  | w :: vs, b, i, v, h, hv => by
    have hc := aw_cat ad w
    by_cases h2 : w.category = 2
    · rw [aw_loc, if_pos h2] at h
      simp only [List.map_cons, lv_args, hc, if_pos h2]
      match i, h with
      | 0, h =>
        simp only [List.cons_append, List.getElem?_cons_zero, Option.some.injEq] at h
        subst h
        exact ⟨List.mem_cons_self, List.mem_cons_self⟩
      | 1, h =>
        simp only [List.cons_append, List.getElem?_cons_succ, List.getElem?_cons_zero, Option.some.injEq] at h
        exact absurd h.symm hv
      | i + 2, h =>
        simp only [List.cons_append, List.getElem?_cons_succ] at h
        obtain ⟨h3, h4⟩ := aw_loc_in ad n vs (b + 2) i v h hv
        exact ⟨List.mem_cons_of_mem _ h3, List.mem_cons_of_mem _ (by rw [show b + (i + 2) = b + 2 + i by omega]; exact h4)⟩
    · rw [aw_loc, if_neg h2] at h
      simp only [List.map_cons, lv_args, hc, if_neg h2]
      match i, h with
      | 0, h =>
        simp only [List.cons_append, List.getElem?_cons_zero, Option.some.injEq] at h
        subst h
        exact ⟨List.mem_cons_self, List.mem_cons_self⟩
      | i + 1, h =>
        simp only [List.cons_append, List.getElem?_cons_succ] at h
        obtain ⟨h3, h4⟩ := aw_loc_in ad n vs (b + 1) i v h hv
        exact ⟨List.mem_cons_of_mem _ h3, List.mem_cons_of_mem _ (by rw [show b + (i + 1) = b + 1 + i by omega]; exact h4)⟩
theorem aw_lg_len (ad : Nat → Nat) : ∀ vs : List Value, (lg_sl (vs.map (aw_cv ad))).length = (aw_loc vs).length
  | [] => rfl
  | w :: vs => by
    have hc := aw_cat ad w
    have ih := aw_lg_len ad vs
    by_cases h2 : w.category = 2 <;> simp [lg_sl, aw_loc, hc, h2] at ih ⊢ <;> omega
theorem aw_entry {ad : Nat → Nat} {k nL n : Nat} {as L : List Value} (hn : (aw_loc as).length + n = nL) (hL : aw_loc as ++ List.replicate n .null = L) (hok : ∀ v ∈ as, aw_ok k v) :
    aw_Lv nL ad k ((lg_sl (as.map (aw_cv ad)) ++ List.replicate (nL - (lg_sl (as.map (aw_cv ad))).length) Slot.unset).toArray) L := by
  have h := lv_entry (as.map (aw_cv ad)) (n := nL) (by rw [aw_lg_len]; omega)
  refine ⟨h.1, h.2.1, fun i v hi hv => ?_⟩
  rw [← hL] at hi
  obtain ⟨h3, h4⟩ := aw_loc_in ad n as 0 i v hi hv
  rw [Nat.zero_add] at h4
  exact ⟨h.2.2 _ h4, hok v h3⟩
theorem aw_self {D : va_G} {cT : FieldType → ClassId} {A : Nat → Prop} {ad : Nat → Nat} {h : Hp} {k : Nat} {H : Heap} {U : State} (w : aw_Wo D cT A ad h k H U) {sz : Nat} : aw_Wo D cT (va_A (aw_ws cT ad h k) sz) ad h k H U := ⟨w.1, w.2.1.self, w.2.2.1, w.2.2.2⟩
set_option maxHeartbeats 4000000 in
theorem AM.intro {μ : Mt} {d n : Nat} {as L : List Value} {h : Hp} {k mc ms : Nat} {Q : Po} (hy : plainName μ.1.cls = true) (hh : μ.2.2.2.2 = []) (hn : (aw_loc as).length + n = μ.2.2.1) (hL : aw_loc as ++ List.replicate n .null = L)
    (K : AW aw_Z0 μ d k mc ms Q 0 L [] h k 0 0) : AM μ d as h k mc ms Q := by
  intro l D cT ad sz hl
  have hcw : aw_cw μ = .code μ.1 μ.2.1 μ.2.2.1 μ.2.2.2.1 := by unfold aw_cw; rw [hh]
  refine vx_ofW (cc := μ.2.1) (maxL := μ.2.2.1) (ret := μ.2.2.2.1) (ws' := []) hy (by rw [hcw]) ?_
  intro p e s m args below meth c s₁ B hml ht hv
  obtain ⟨rfl, hsz, hok, hw, hg⟩ := hv
  subst hsz
  have hnm := (name_of_methodNamed B.named B.method).1
  rw [lg_entry_eq]
  refine K l D cT p e s m _ below meth c ad ad _ s.heap [] _ ⟨hl, B.exec, B.bytes, hml, B.returns, B.notSynchronized, hnm, findClass_of_methodNamed B.named, ?_, hg, fun q hq => Or.inr hq, trivial⟩ (fun _ _ => rfl) (Nat.le_refl _) va_S.rf hw (aw_entry hn hL hok) (fun v hv => nomatch hv)
  rw [hh]
  cases he : c.exceptionTable.toList with
  | nil => rfl
  | cons x y => exact absurd (ht x (by rw [he]; exact List.mem_cons_self)) id
section Rows
variable {Z : Gz} {μ : Mt} {d k0 mc ms : Nat} {Q : Po} {pc : Nat} {L S : List Value} {h : Hp} {k cs ss : Nat}
/-- a row that leaves heap and locals -/
theorem AW.pure {pc' : Nat} {S' : List Value} (hok : (∀ v ∈ S, aw_ok k v) → (∀ (i : Nat) (v : Value), L[i]? = some v → v ≠ .null → aw_ok k v) → ∀ v ∈ S', aw_ok k v)
    (hW : ∀ (l : Launch) (p : Program) (e : Env) (R : Room) (s : State) (m : MethodId) (args : Array Value) (below : List Frame) (meth : Method) (c : Code) (H : Heap) (locs : List Loc) (F : State → Prop) (ls : Array Slot) (ad : Nat → Nat),
      p.tables.exec = Jvm.exec → c.code = μ.2.1 → s.vm.findClass μ.1.cls = some m.cls → (∀ w ∈ lw_tbl, aw_okw w = true → w.before args s = true) → aw_Lv μ.2.2.1 ad k ls L →
      W p l e R s m args below meth c H locs cs ss F (F0 m pc' ls (S'.map (aw_cv ad))) → W p l e R s m args below meth c H locs cs ss F (F0 m pc ls (S.map (aw_cv ad))))
    (K : AW Z μ d k0 mc ms Q pc' L S' h k cs ss) : AW Z μ d k0 mc ms Q pc L S h k cs ss := by
  intro l D cT p e s m args below meth c ad0 ad A H locs ls hC ha hk hS hw hl hs
  refine hW l p e _ s m args below meth c H locs _ ls ad hC.2.1 hC.2.2.1 hC.2.2.2.2.2.2.2.1 (fun w h1 h2 => aw_stable h2 (State.WarmedH.refl s) (hC.2.2.2.2.2.2.2.2.2.1.1 w h1 h2)) hl ?_
  exact K l D cT p e s m args below meth c ad0 ad A H locs ls hC ha hk hS hw hl (hok hs fun i v h1 h2 => (hl.2.2 i v h1 h2).2)
theorem aw_ok_cons {v : Value} (h1 : aw_ok k v) (h2 : ∀ w ∈ S, aw_ok k w) : ∀ w ∈ v :: S, aw_ok k w := fun w hw => by
  rcases List.mem_cons.mp hw with rfl | hw
  · exact h1
  · exact h2 w hw
theorem aw_okI {v : Int32} : aw_ok k (.int v) := trivial
theorem aw_okJ {v : Int64} : aw_ok k (.long v) := trivial
theorem aw_okD {v : UInt64} : aw_ok k (.double v) := trivial
theorem aw_ok_tail {v : Value} (h : ∀ w ∈ v :: S, aw_ok k w) : ∀ w ∈ S, aw_ok k w := fun w hw => h w (List.mem_cons_of_mem _ hw)
theorem AW.iconst {n : Int} {v : Int32} (hd : decode μ.2.1 pc = .ok (.iconst n, 1)) (hv : Int32.ofInt n = v) (K : AW Z μ d k0 mc ms Q (pc + 1) L (.int v :: S) h k cs ss) : AW Z μ d k0 mc ms Q pc L S h k cs ss :=
  AW.pure (fun h _ => aw_ok_cons aw_okI h) (fun _ _ _ _ _ _ _ _ _ _ _ _ _ _ _ hx hb _ _ _ q => lv_iconst hx hb hd hv q) K
theorem AW.bipush {n : Int} {v : Int32} (hd : decode μ.2.1 pc = .ok (.bipush n, 2)) (hv : (Int8.ofInt n).toInt32 = v) (K : AW Z μ d k0 mc ms Q (pc + 2) L (.int v :: S) h k cs ss) : AW Z μ d k0 mc ms Q pc L S h k cs ss :=
  AW.pure (fun h _ => aw_ok_cons aw_okI h) (fun _ _ _ _ _ _ _ _ _ _ _ _ _ _ _ hx hb _ _ _ q => lv_bipush hx hb hd hv q) K
theorem AW.sipush {n : Int} {v : Int32} (hd : decode μ.2.1 pc = .ok (.sipush n, 3)) (hv : (Int16.ofInt n).toInt32 = v) (K : AW Z μ d k0 mc ms Q (pc + 3) L (.int v :: S) h k cs ss) : AW Z μ d k0 mc ms Q pc L S h k cs ss :=
  AW.pure (fun h _ => aw_ok_cons aw_okI h) (fun _ _ _ _ _ _ _ _ _ _ _ _ _ _ _ hx hb _ _ _ q => lv_sipush hx hb hd hv q) K
theorem AW.iload_n {x : Fin 4} {i : Nat} {v : Int32} (hd : decode μ.2.1 pc = .ok (.iload_n x, 1)) (hi : (x : Nat) = i) (hl : L[i]? = some (.int v)) (K : AW Z μ d k0 mc ms Q (pc + 1) L (.int v :: S) h k cs ss) : AW Z μ d k0 mc ms Q pc L S h k cs ss :=
  AW.pure (fun h _ => aw_ok_cons aw_okI h) (fun _ _ _ _ _ _ _ _ _ _ _ _ _ _ _ hx hb _ _ hL q => lv_iload_n hx hb hd hi (hL.2.2 _ _ hl (fun e => nomatch e)).1 q) K
theorem AW.iload {i : Nat} {v : Int32} (hd : decode μ.2.1 pc = .ok (.iload i, 2)) (hl : L[i]? = some (.int v)) (K : AW Z μ d k0 mc ms Q (pc + 2) L (.int v :: S) h k cs ss) : AW Z μ d k0 mc ms Q pc L S h k cs ss :=
  AW.pure (fun h _ => aw_ok_cons aw_okI h) (fun _ _ _ _ _ _ _ _ _ _ _ _ _ _ _ hx hb _ _ hL q => lv_iload hx hb hd (hL.2.2 _ _ hl (fun e => nomatch e)).1 q) K
theorem AW.lload_n {x : Fin 4} {i : Nat} {v : Int64} (hd : decode μ.2.1 pc = .ok (.lload_n x, 1)) (hi : (x : Nat) = i) (hl : L[i]? = some (.long v)) (K : AW Z μ d k0 mc ms Q (pc + 1) L (.long v :: S) h k cs ss) : AW Z μ d k0 mc ms Q pc L S h k cs ss :=
  AW.pure (fun h _ => aw_ok_cons aw_okJ h) (fun _ _ _ _ _ _ _ _ _ _ _ _ _ _ _ hx hb _ _ hL q => lv_lload_n hx hb hd hi (hL.2.2 _ _ hl (fun e => nomatch e)).1 q) K
theorem AW.dload {i : Nat} {v : UInt64} (hd : decode μ.2.1 pc = .ok (.dload i, 2)) (hl : L[i]? = some (.double v)) (K : AW Z μ d k0 mc ms Q (pc + 2) L (.double v :: S) h k cs ss) : AW Z μ d k0 mc ms Q pc L S h k cs ss :=
  AW.pure (fun h _ => aw_ok_cons aw_okD h) (fun _ _ _ _ _ _ _ _ _ _ _ _ _ _ _ hx hb _ _ hL q => lv_dload hx hb hd (hL.2.2 _ _ hl (fun e => nomatch e)).1 q) K
theorem AW.aload_n {x : Fin 4} {i : Nat} {v : Nat} (hd : decode μ.2.1 pc = .ok (.aload_n x, 1)) (hi : (x : Nat) = i) (hl : L[i]? = some (.ref v)) (K : AW Z μ d k0 mc ms Q (pc + 1) L (.ref v :: S) h k cs ss) : AW Z μ d k0 mc ms Q pc L S h k cs ss :=
  AW.pure (fun h hL => aw_ok_cons (hL _ _ hl (fun e => nomatch e)) h) (fun _ _ _ _ _ _ _ _ _ _ _ _ _ _ _ hx hb _ _ hL q => lv_aload_n hx hb hd hi (hL.2.2 _ _ hl (fun e => nomatch e)).1 q) K
theorem AW.aload {i : Nat} {v : Nat} (hd : decode μ.2.1 pc = .ok (.aload i, 2)) (hl : L[i]? = some (.ref v)) (K : AW Z μ d k0 mc ms Q (pc + 2) L (.ref v :: S) h k cs ss) : AW Z μ d k0 mc ms Q pc L S h k cs ss :=
  AW.pure (fun h hL => aw_ok_cons (hL _ _ hl (fun e => nomatch e)) h) (fun _ _ _ _ _ _ _ _ _ _ _ _ _ _ _ hx hb _ _ hL q => lv_aload hx hb hd (hL.2.2 _ _ hl (fun e => nomatch e)).1 q) K
theorem AW.iadd {x y : Int32} (hd : decode μ.2.1 pc = .ok (.iadd, 1)) (K : AW Z μ d k0 mc ms Q (pc + 1) L (.int (x + y) :: S) h k cs ss) : AW Z μ d k0 mc ms Q pc L (.int y :: .int x :: S) h k cs ss :=
  AW.pure (fun h _ => aw_ok_cons aw_okI (aw_ok_tail (aw_ok_tail h))) (fun _ _ _ _ _ _ _ _ _ _ _ _ _ _ _ hx hb _ _ _ q => lv_iadd hx hb hd q) K
theorem AW.isub {x y : Int32} (hd : decode μ.2.1 pc = .ok (.isub, 1)) (K : AW Z μ d k0 mc ms Q (pc + 1) L (.int (x - y) :: S) h k cs ss) : AW Z μ d k0 mc ms Q pc L (.int y :: .int x :: S) h k cs ss :=
  AW.pure (fun h _ => aw_ok_cons aw_okI (aw_ok_tail (aw_ok_tail h))) (fun _ _ _ _ _ _ _ _ _ _ _ _ _ _ _ hx hb _ _ _ q => lv_isub hx hb hd q) K
theorem AW.imul {x y : Int32} (hd : decode μ.2.1 pc = .ok (.imul, 1)) (K : AW Z μ d k0 mc ms Q (pc + 1) L (.int (x * y) :: S) h k cs ss) : AW Z μ d k0 mc ms Q pc L (.int y :: .int x :: S) h k cs ss :=
  AW.pure (fun h _ => aw_ok_cons aw_okI (aw_ok_tail (aw_ok_tail h))) (fun _ _ _ _ _ _ _ _ _ _ _ _ _ _ _ hx hb _ _ _ q => lv_imul hx hb hd q) K
theorem AW.iand {x y : Int32} (hd : decode μ.2.1 pc = .ok (.iand, 1)) (K : AW Z μ d k0 mc ms Q (pc + 1) L (.int (x &&& y) :: S) h k cs ss) : AW Z μ d k0 mc ms Q pc L (.int y :: .int x :: S) h k cs ss :=
  AW.pure (fun h _ => aw_ok_cons aw_okI (aw_ok_tail (aw_ok_tail h))) (fun _ _ _ _ _ _ _ _ _ _ _ _ _ _ _ hx hb _ _ _ q => lv_iand hx hb hd q) K
theorem AW.ior {x y : Int32} (hd : decode μ.2.1 pc = .ok (.ior, 1)) (K : AW Z μ d k0 mc ms Q (pc + 1) L (.int (x ||| y) :: S) h k cs ss) : AW Z μ d k0 mc ms Q pc L (.int y :: .int x :: S) h k cs ss :=
  AW.pure (fun h _ => aw_ok_cons aw_okI (aw_ok_tail (aw_ok_tail h))) (fun _ _ _ _ _ _ _ _ _ _ _ _ _ _ _ hx hb _ _ _ q => lv_ior hx hb hd q) K
theorem AW.ishl {x y : Int32} (hd : decode μ.2.1 pc = .ok (.ishl, 1)) (K : AW Z μ d k0 mc ms Q (pc + 1) L (.int (x <<< (y &&& 31)) :: S) h k cs ss) : AW Z μ d k0 mc ms Q pc L (.int y :: .int x :: S) h k cs ss :=
  AW.pure (fun h _ => aw_ok_cons aw_okI (aw_ok_tail (aw_ok_tail h))) (fun _ _ _ _ _ _ _ _ _ _ _ _ _ _ _ hx hb _ _ _ q => lv_ishl hx hb hd q) K
theorem AW.iushr {x y : Int32} (hd : decode μ.2.1 pc = .ok (.iushr, 1)) (K : AW Z μ d k0 mc ms Q (pc + 1) L (.int ((x.toUInt32 >>> (y.toUInt32 &&& Int32.toUInt32 31)).toInt32) :: S) h k cs ss) : AW Z μ d k0 mc ms Q pc L (.int y :: .int x :: S) h k cs ss :=
  AW.pure (fun h _ => aw_ok_cons aw_okI (aw_ok_tail (aw_ok_tail h))) (fun _ _ _ _ _ _ _ _ _ _ _ _ _ _ _ hx hb _ _ _ q => lv_iushr hx hb hd rfl q) K
theorem AW.ladd {x y : Int64} (hd : decode μ.2.1 pc = .ok (.ladd, 1)) (K : AW Z μ d k0 mc ms Q (pc + 1) L (.long (x + y) :: S) h k cs ss) : AW Z μ d k0 mc ms Q pc L (.long y :: .long x :: S) h k cs ss :=
  AW.pure (fun h _ => aw_ok_cons aw_okJ (aw_ok_tail (aw_ok_tail h))) (fun _ _ _ _ _ _ _ _ _ _ _ _ _ _ _ hx hb _ _ _ q => lv_ladd hx hb hd q) K
theorem AW.lmul {x y : Int64} (hd : decode μ.2.1 pc = .ok (.lmul, 1)) (K : AW Z μ d k0 mc ms Q (pc + 1) L (.long (x * y) :: S) h k cs ss) : AW Z μ d k0 mc ms Q pc L (.long y :: .long x :: S) h k cs ss :=
  AW.pure (fun h _ => aw_ok_cons aw_okJ (aw_ok_tail (aw_ok_tail h))) (fun _ _ _ _ _ _ _ _ _ _ _ _ _ _ _ hx hb _ _ _ q => lv_lmul hx hb hd q) K
theorem AW.i2l {x : Int32} (hd : decode μ.2.1 pc = .ok (.i2l, 1)) (K : AW Z μ d k0 mc ms Q (pc + 1) L (.long x.toInt64 :: S) h k cs ss) : AW Z μ d k0 mc ms Q pc L (.int x :: S) h k cs ss :=
  AW.pure (fun h _ => aw_ok_cons aw_okJ (aw_ok_tail h)) (fun _ _ _ _ _ _ _ _ _ _ _ _ _ _ _ hx hb _ _ _ q => lv_i2l hx hb hd rfl q) K
theorem AW.lcmp {x y : Int64} (hd : decode μ.2.1 pc = .ok (.lcmp, 1)) (K : AW Z μ d k0 mc ms Q (pc + 1) L (.int (lg_cmp x y) :: S) h k cs ss) : AW Z μ d k0 mc ms Q pc L (.long y :: .long x :: S) h k cs ss :=
  AW.pure (fun h _ => aw_ok_cons aw_okI (aw_ok_tail (aw_ok_tail h))) (fun _ _ _ _ _ _ _ _ _ _ _ _ _ _ _ hx hb _ _ _ q => W.lcmp hx hb hd q) K
theorem AW.dup {v : Value} (hd : decode μ.2.1 pc = .ok (.dup, 1)) (hc : v.category = 1) (K : AW Z μ d k0 mc ms Q (pc + 1) L (v :: v :: S) h k cs ss) : AW Z μ d k0 mc ms Q pc L (v :: S) h k cs ss :=
  AW.pure (fun h _ => aw_ok_cons (h v List.mem_cons_self) h) (fun _ _ _ _ _ _ _ _ _ _ _ _ _ _ ad hx hb _ _ _ q => lv_dup hx hb hd (by rw [aw_cat]; exact hc) q) K
theorem AW.pop {v : Value} (hd : decode μ.2.1 pc = .ok (.pop, 1)) (hc : v.category = 1) (K : AW Z μ d k0 mc ms Q (pc + 1) L S h k cs ss) : AW Z μ d k0 mc ms Q pc L (v :: S) h k cs ss :=
  AW.pure (fun h _ => aw_ok_tail h) (fun _ _ _ _ _ _ _ _ _ _ _ _ _ _ ad hx hb _ _ _ q => lv_pop hx hb hd (by rw [aw_cat]; exact hc) q) K
theorem AW.dup_x1 {v w : Value} (hd : decode μ.2.1 pc = .ok (.dup_x1, 1)) (hc : v.category = 1) (hc2 : w.category = 1) (K : AW Z μ d k0 mc ms Q (pc + 1) L (v :: w :: v :: S) h k cs ss) : AW Z μ d k0 mc ms Q pc L (v :: w :: S) h k cs ss :=
  AW.pure (fun h _ => aw_ok_cons (h v List.mem_cons_self) (aw_ok_cons (h w (List.mem_cons_of_mem _ List.mem_cons_self)) (aw_ok_cons (h v List.mem_cons_self) (aw_ok_tail (aw_ok_tail h))))) (fun _ _ _ _ _ _ _ _ _ _ _ _ _ _ ad hx hb _ _ _ q => lv_dup_x1 hx hb hd (by rw [aw_cat]; exact hc) (by rw [aw_cat]; exact hc2) q) K
theorem AW.dup_x2 {v w x : Value} (hd : decode μ.2.1 pc = .ok (.dup_x2, 1)) (hc : v.category = 1) (hc2 : w.category = 1) (hc3 : x.category = 1) (K : AW Z μ d k0 mc ms Q (pc + 1) L (v :: w :: x :: v :: S) h k cs ss) : AW Z μ d k0 mc ms Q pc L (v :: w :: x :: S) h k cs ss :=
  AW.pure (fun h _ => aw_ok_cons (h v List.mem_cons_self) (aw_ok_cons (h w (List.mem_cons_of_mem _ List.mem_cons_self)) (aw_ok_cons (h x (List.mem_cons_of_mem _ (List.mem_cons_of_mem _ List.mem_cons_self))) (aw_ok_cons (h v List.mem_cons_self) (aw_ok_tail (aw_ok_tail (aw_ok_tail h))))))) (fun _ _ _ _ _ _ _ _ _ _ _ _ _ _ ad hx hb _ _ _ q => lv_dup_x2 hx hb hd (by rw [aw_cat]; exact hc) (by rw [aw_cat]; exact hc2) (by rw [aw_cat]; exact hc3) q) K
theorem AW.dup2 {v w : Value} (hd : decode μ.2.1 pc = .ok (.dup2, 1)) (hc : v.category = 1) (hc2 : w.category = 1) (K : AW Z μ d k0 mc ms Q (pc + 1) L (v :: w :: v :: w :: S) h k cs ss) : AW Z μ d k0 mc ms Q pc L (v :: w :: S) h k cs ss :=
  AW.pure (fun h _ => aw_ok_cons (h v List.mem_cons_self) (aw_ok_cons (h w (List.mem_cons_of_mem _ List.mem_cons_self)) h)) (fun _ _ _ _ _ _ _ _ _ _ _ _ _ _ ad hx hb _ _ _ q => lv_dup2_11 hx hb hd (by rw [aw_cat]; exact hc) (by rw [aw_cat]; exact hc2) q) K
theorem AW.goto {off : Int} {tgt : Nat} (hd : decode μ.2.1 pc = .ok (.goto off, 3)) (ht : (pc : Int) + off = (tgt : Int)) (K : AW Z μ d k0 mc ms Q tgt L S h k cs ss) : AW Z μ d k0 mc ms Q pc L S h k cs ss :=
  AW.pure (fun h _ => h) (fun _ _ _ _ _ _ _ _ _ _ _ _ _ _ ad hx hb _ _ _ q => lv_goto hx hb hd ht q) K
end Rows
end
section
/-! AW: branches, switches, stores, heap, ends -/
section Rows2
variable {Z : Gz} {μ : Mt} {d k0 mc ms : Nat} {Q : Po} {pc : Nat} {L S : List Value} {h : Hp} {k cs ss : Nat}
theorem AW.if_eq {x : Int32} {off : Int} {tgt : Nat} (hd : decode μ.2.1 pc = .ok (.ifCond .eq off, 3)) (ht : (pc : Int) + off = (tgt : Int)) (kt : x = 0 → AW Z μ d k0 mc ms Q tgt L S h k cs ss) (kf : ¬ x = 0 → AW Z μ d k0 mc ms Q (pc + 3) L S h k cs ss) : AW Z μ d k0 mc ms Q pc L (.int x :: S) h k cs ss := by
  intro l D cT p e s m args below meth c ad0 ad A H locs ls hC ha hk hS hw hl hs
  exact lv_if_eq hC.2.1 hC.2.2.1 hd ht (fun q => kt q l D cT p e s m args below meth c ad0 ad A H locs ls hC ha hk hS hw hl (aw_ok_tail hs)) (fun q => kf q l D cT p e s m args below meth c ad0 ad A H locs ls hC ha hk hS hw hl (aw_ok_tail hs))
theorem AW.icmp_eq {x y : Int32} {off : Int} {tgt : Nat} (hd : decode μ.2.1 pc = .ok (.if_icmp .eq off, 3)) (ht : (pc : Int) + off = (tgt : Int)) (kt : x = y → AW Z μ d k0 mc ms Q tgt L S h k cs ss) (kf : ¬ x = y → AW Z μ d k0 mc ms Q (pc + 3) L S h k cs ss) : AW Z μ d k0 mc ms Q pc L (.int y :: .int x :: S) h k cs ss := by
  intro l D cT p e s m args below meth c ad0 ad A H locs ls hC ha hk hS hw hl hs
  exact lv_icmp_eq hC.2.1 hC.2.2.1 hd ht (fun q => kt q l D cT p e s m args below meth c ad0 ad A H locs ls hC ha hk hS hw hl (aw_ok_tail (aw_ok_tail hs))) (fun q => kf q l D cT p e s m args below meth c ad0 ad A H locs ls hC ha hk hS hw hl (aw_ok_tail (aw_ok_tail hs)))
theorem AW.if_ne {x : Int32} {off : Int} {tgt : Nat} (hd : decode μ.2.1 pc = .ok (.ifCond .ne off, 3)) (ht : (pc : Int) + off = (tgt : Int)) (kt : ¬ x = 0 → AW Z μ d k0 mc ms Q tgt L S h k cs ss) (kf : x = 0 → AW Z μ d k0 mc ms Q (pc + 3) L S h k cs ss) : AW Z μ d k0 mc ms Q pc L (.int x :: S) h k cs ss := by
  intro l D cT p e s m args below meth c ad0 ad A H locs ls hC ha hk hS hw hl hs
  exact lv_if_ne hC.2.1 hC.2.2.1 hd ht (fun q => kt q l D cT p e s m args below meth c ad0 ad A H locs ls hC ha hk hS hw hl (aw_ok_tail hs)) (fun q => kf q l D cT p e s m args below meth c ad0 ad A H locs ls hC ha hk hS hw hl (aw_ok_tail hs))
theorem AW.icmp_ne {x y : Int32} {off : Int} {tgt : Nat} (hd : decode μ.2.1 pc = .ok (.if_icmp .ne off, 3)) (ht : (pc : Int) + off = (tgt : Int)) (kt : ¬ x = y → AW Z μ d k0 mc ms Q tgt L S h k cs ss) (kf : x = y → AW Z μ d k0 mc ms Q (pc + 3) L S h k cs ss) : AW Z μ d k0 mc ms Q pc L (.int y :: .int x :: S) h k cs ss := by
  intro l D cT p e s m args below meth c ad0 ad A H locs ls hC ha hk hS hw hl hs
  exact lv_icmp_ne hC.2.1 hC.2.2.1 hd ht (fun q => kt q l D cT p e s m args below meth c ad0 ad A H locs ls hC ha hk hS hw hl (aw_ok_tail (aw_ok_tail hs))) (fun q => kf q l D cT p e s m args below meth c ad0 ad A H locs ls hC ha hk hS hw hl (aw_ok_tail (aw_ok_tail hs)))
theorem AW.if_lt {x : Int32} {off : Int} {tgt : Nat} (hd : decode μ.2.1 pc = .ok (.ifCond .lt off, 3)) (ht : (pc : Int) + off = (tgt : Int)) (kt : x < 0 → AW Z μ d k0 mc ms Q tgt L S h k cs ss) (kf : ¬ x < 0 → AW Z μ d k0 mc ms Q (pc + 3) L S h k cs ss) : AW Z μ d k0 mc ms Q pc L (.int x :: S) h k cs ss := by
  intro l D cT p e s m args below meth c ad0 ad A H locs ls hC ha hk hS hw hl hs
  exact lv_if_lt hC.2.1 hC.2.2.1 hd ht (fun q => kt q l D cT p e s m args below meth c ad0 ad A H locs ls hC ha hk hS hw hl (aw_ok_tail hs)) (fun q => kf q l D cT p e s m args below meth c ad0 ad A H locs ls hC ha hk hS hw hl (aw_ok_tail hs))
theorem AW.icmp_lt {x y : Int32} {off : Int} {tgt : Nat} (hd : decode μ.2.1 pc = .ok (.if_icmp .lt off, 3)) (ht : (pc : Int) + off = (tgt : Int)) (kt : x < y → AW Z μ d k0 mc ms Q tgt L S h k cs ss) (kf : ¬ x < y → AW Z μ d k0 mc ms Q (pc + 3) L S h k cs ss) : AW Z μ d k0 mc ms Q pc L (.int y :: .int x :: S) h k cs ss := by
  intro l D cT p e s m args below meth c ad0 ad A H locs ls hC ha hk hS hw hl hs
  exact lv_icmp_lt hC.2.1 hC.2.2.1 hd ht (fun q => kt q l D cT p e s m args below meth c ad0 ad A H locs ls hC ha hk hS hw hl (aw_ok_tail (aw_ok_tail hs))) (fun q => kf q l D cT p e s m args below meth c ad0 ad A H locs ls hC ha hk hS hw hl (aw_ok_tail (aw_ok_tail hs)))
theorem AW.if_ge {x : Int32} {off : Int} {tgt : Nat} (hd : decode μ.2.1 pc = .ok (.ifCond .ge off, 3)) (ht : (pc : Int) + off = (tgt : Int)) (kt : 0 ≤ x → AW Z μ d k0 mc ms Q tgt L S h k cs ss) (kf : ¬ 0 ≤ x → AW Z μ d k0 mc ms Q (pc + 3) L S h k cs ss) : AW Z μ d k0 mc ms Q pc L (.int x :: S) h k cs ss := by
  intro l D cT p e s m args below meth c ad0 ad A H locs ls hC ha hk hS hw hl hs
  exact lv_if_ge hC.2.1 hC.2.2.1 hd ht (fun q => kt q l D cT p e s m args below meth c ad0 ad A H locs ls hC ha hk hS hw hl (aw_ok_tail hs)) (fun q => kf q l D cT p e s m args below meth c ad0 ad A H locs ls hC ha hk hS hw hl (aw_ok_tail hs))
theorem AW.icmp_ge {x y : Int32} {off : Int} {tgt : Nat} (hd : decode μ.2.1 pc = .ok (.if_icmp .ge off, 3)) (ht : (pc : Int) + off = (tgt : Int)) (kt : y ≤ x → AW Z μ d k0 mc ms Q tgt L S h k cs ss) (kf : ¬ y ≤ x → AW Z μ d k0 mc ms Q (pc + 3) L S h k cs ss) : AW Z μ d k0 mc ms Q pc L (.int y :: .int x :: S) h k cs ss := by
  intro l D cT p e s m args below meth c ad0 ad A H locs ls hC ha hk hS hw hl hs
  exact lv_icmp_ge hC.2.1 hC.2.2.1 hd ht (fun q => kt q l D cT p e s m args below meth c ad0 ad A H locs ls hC ha hk hS hw hl (aw_ok_tail (aw_ok_tail hs))) (fun q => kf q l D cT p e s m args below meth c ad0 ad A H locs ls hC ha hk hS hw hl (aw_ok_tail (aw_ok_tail hs)))
theorem AW.if_gt {x : Int32} {off : Int} {tgt : Nat} (hd : decode μ.2.1 pc = .ok (.ifCond .gt off, 3)) (ht : (pc : Int) + off = (tgt : Int)) (kt : 0 < x → AW Z μ d k0 mc ms Q tgt L S h k cs ss) (kf : ¬ 0 < x → AW Z μ d k0 mc ms Q (pc + 3) L S h k cs ss) : AW Z μ d k0 mc ms Q pc L (.int x :: S) h k cs ss := by
  intro l D cT p e s m args below meth c ad0 ad A H locs ls hC ha hk hS hw hl hs
  exact lv_if_gt hC.2.1 hC.2.2.1 hd ht (fun q => kt q l D cT p e s m args below meth c ad0 ad A H locs ls hC ha hk hS hw hl (aw_ok_tail hs)) (fun q => kf q l D cT p e s m args below meth c ad0 ad A H locs ls hC ha hk hS hw hl (aw_ok_tail hs))
theorem AW.icmp_gt {x y : Int32} {off : Int} {tgt : Nat} (hd : decode μ.2.1 pc = .ok (.if_icmp .gt off, 3)) (ht : (pc : Int) + off = (tgt : Int)) (kt : y < x → AW Z μ d k0 mc ms Q tgt L S h k cs ss) (kf : ¬ y < x → AW Z μ d k0 mc ms Q (pc + 3) L S h k cs ss) : AW Z μ d k0 mc ms Q pc L (.int y :: .int x :: S) h k cs ss := by
  intro l D cT p e s m args below meth c ad0 ad A H locs ls hC ha hk hS hw hl hs
  exact lv_icmp_gt hC.2.1 hC.2.2.1 hd ht (fun q => kt q l D cT p e s m args below meth c ad0 ad A H locs ls hC ha hk hS hw hl (aw_ok_tail (aw_ok_tail hs))) (fun q => kf q l D cT p e s m args below meth c ad0 ad A H locs ls hC ha hk hS hw hl (aw_ok_tail (aw_ok_tail hs)))
theorem AW.if_le {x : Int32} {off : Int} {tgt : Nat} (hd : decode μ.2.1 pc = .ok (.ifCond .le off, 3)) (ht : (pc : Int) + off = (tgt : Int)) (kt : x ≤ 0 → AW Z μ d k0 mc ms Q tgt L S h k cs ss) (kf : ¬ x ≤ 0 → AW Z μ d k0 mc ms Q (pc + 3) L S h k cs ss) : AW Z μ d k0 mc ms Q pc L (.int x :: S) h k cs ss := by
  intro l D cT p e s m args below meth c ad0 ad A H locs ls hC ha hk hS hw hl hs
  exact lv_if_le hC.2.1 hC.2.2.1 hd ht (fun q => kt q l D cT p e s m args below meth c ad0 ad A H locs ls hC ha hk hS hw hl (aw_ok_tail hs)) (fun q => kf q l D cT p e s m args below meth c ad0 ad A H locs ls hC ha hk hS hw hl (aw_ok_tail hs))
theorem AW.icmp_le {x y : Int32} {off : Int} {tgt : Nat} (hd : decode μ.2.1 pc = .ok (.if_icmp .le off, 3)) (ht : (pc : Int) + off = (tgt : Int)) (kt : x ≤ y → AW Z μ d k0 mc ms Q tgt L S h k cs ss) (kf : ¬ x ≤ y → AW Z μ d k0 mc ms Q (pc + 3) L S h k cs ss) : AW Z μ d k0 mc ms Q pc L (.int y :: .int x :: S) h k cs ss := by
  intro l D cT p e s m args below meth c ad0 ad A H locs ls hC ha hk hS hw hl hs
  exact lv_icmp_le hC.2.1 hC.2.2.1 hd ht (fun q => kt q l D cT p e s m args below meth c ad0 ad A H locs ls hC ha hk hS hw hl (aw_ok_tail (aw_ok_tail hs))) (fun q => kf q l D cT p e s m args below meth c ad0 ad A H locs ls hC ha hk hS hw hl (aw_ok_tail (aw_ok_tail hs)))
theorem AW.tableIn {dflt lo hi : Int} {offs : Array Int} {len : Nat} {x : Int32} {off : Int} {tgt : Nat} (hd : decode μ.2.1 pc = .ok (.tableswitch dflt lo hi offs, len)) (h1 : ¬ x.toInt < lo) (h2 : ¬ hi < x.toInt) (ho : offs[(x.toInt - lo).toNat]? = some off) (ht : (pc : Int) + off = (tgt : Int)) (K : AW Z μ d k0 mc ms Q tgt L S h k cs ss) : AW Z μ d k0 mc ms Q pc L (.int x :: S) h k cs ss :=
  AW.pure (fun h _ => aw_ok_tail h) (fun _ _ _ _ _ _ _ _ _ _ _ _ _ _ ad hx hb _ _ _ q => lv_tableIn hx hb hd h1 h2 ho ht q) K
theorem AW.tableOut {dflt lo hi : Int} {offs : Array Int} {len : Nat} {x : Int32} {tgt : Nat} (hd : decode μ.2.1 pc = .ok (.tableswitch dflt lo hi offs, len)) (h1 : x.toInt < lo ∨ hi < x.toInt) (ht : (pc : Int) + dflt = (tgt : Int)) (K : AW Z μ d k0 mc ms Q tgt L S h k cs ss) : AW Z μ d k0 mc ms Q pc L (.int x :: S) h k cs ss :=
  AW.pure (fun h _ => aw_ok_tail h) (fun _ _ _ _ _ _ _ _ _ _ _ _ _ _ ad hx hb _ _ _ q => lv_tableOut hx hb hd h1 ht q) K
theorem AW.ldc {index : Nat} {v : Int32} (hd : decode μ.2.1 pc = .ok (.ldc index, 2)) (hc : Cond.constant μ.1.cls index v ∈ lw_tbl) (K : AW Z μ d k0 mc ms Q (pc + 2) L (.int v :: S) h k cs ss) : AW Z μ d k0 mc ms Q pc L S h k cs ss :=
  AW.pure (fun h _ => aw_ok_cons aw_okI h) (fun _ _ _ _ _ _ _ _ _ _ _ _ _ _ ad hx hb ho ht _ q => lv_ldc hx hb ho (ht _ hc rfl) hd q) K
theorem AW.ldc2 {index : Nat} {v : Int64} (hd : decode μ.2.1 pc = .ok (.ldc2_w index, 3)) (hc : Cond.constantLong μ.1.cls index v ∈ lw_tbl) (K : AW Z μ d k0 mc ms Q (pc + 3) L (.long v :: S) h k cs ss) : AW Z μ d k0 mc ms Q pc L S h k cs ss :=
  AW.pure (fun h _ => aw_ok_cons aw_okJ h) (fun _ _ _ _ _ _ _ _ _ _ _ _ _ _ ad hx hb ho ht _ q => lv_ldc2 hx hb ho (ht _ hc rfl) hd q) K
theorem AW.i2d {x : Int32} (hd : decode μ.2.1 pc = .ok (.i2d, 1)) (K : AW Z μ d k0 mc ms Q (pc + 1) L (.double (FP.i2d x) :: S) h k cs ss) : AW Z μ d k0 mc ms Q pc L (.int x :: S) h k cs ss :=
  AW.pure (fun h _ => aw_ok_cons aw_okD (aw_ok_tail h)) (fun _ _ _ _ _ _ _ _ _ _ _ _ _ _ _ hx hb _ _ _ q => lv_i2d hx hb hd q) K
theorem AW.ddiv {x y : UInt64} (hd : decode μ.2.1 pc = .ok (.ddiv, 1)) (hn : vf_n64 (FP.ddiv x y)) (K : AW Z μ d k0 mc ms Q (pc + 1) L (.double (FP.ddiv x y) :: S) h k cs ss) : AW Z μ d k0 mc ms Q pc L (.double y :: .double x :: S) h k cs ss :=
  AW.pure (fun h _ => aw_ok_cons aw_okD (aw_ok_tail (aw_ok_tail h))) (fun _ _ _ _ _ _ _ _ _ _ _ _ _ _ _ hx hb _ _ _ q => lv_ddiv hx hb hd hn q) K
theorem AW.dconst0 (hd : decode μ.2.1 pc = .ok (.dconst 0, 1)) (K : AW Z μ d k0 mc ms Q (pc + 1) L (.double FP.dconst0 :: S) h k cs ss) : AW Z μ d k0 mc ms Q pc L S h k cs ss :=
  AW.pure (fun h _ => aw_ok_cons aw_okD h) (fun _ _ _ _ _ _ _ _ _ _ _ _ _ _ _ hx hb _ _ _ q => lv_dconst0 hx hb hd q) K
theorem AW.dcmp {x y : UInt64} {op : CmpOp} (hd : decode μ.2.1 pc = .ok (.dcmp op, 1)) (K : AW Z μ d k0 mc ms Q (pc + 1) L (.int (Op.cmpValue (FP.dcmp x y) op) :: S) h k cs ss) : AW Z μ d k0 mc ms Q pc L (.double y :: .double x :: S) h k cs ss :=
  AW.pure (fun h _ => aw_ok_cons aw_okI (aw_ok_tail (aw_ok_tail h))) (fun _ _ _ _ _ _ _ _ _ _ _ _ _ _ _ hx hb _ _ _ q => lv_dcmp hx hb hd q) K
/-! stores into the locals -/
def aw_set (L : List Value) (i : Nat) (v : Value) : List Value := L.set i v
/-- no long or double begins right below i -/
def aw_low (L : List Value) (i : Nat) : Bool := match i with
  | 0 => true
  | j + 1 => match L[j]? with
    | some w => w.category == 1
    | none => true
def aw_pairs (ad : Nat → Nat) (L : List Value) : List (Nat × Value) := (List.range L.length).filterMap fun i => match (L[i]? : Option Value) with
  | some Value.null => none
  | some v => some (i, aw_cv ad v)
  | none => none
theorem aw_pairs_in {ad : Nat → Nat} {L : List Value} {i : Nat} {v : Value} (hi : L[i]? = some v) (hv : v ≠ .null) : (i, aw_cv ad v) ∈ aw_pairs ad L := by
  refine List.mem_filterMap.mpr ⟨i, List.mem_range.mpr (List.getElem?_eq_some_iff.mp hi).1, ?_⟩
  rw [hi]
  cases v <;> first | exact absurd rfl hv | rfl
theorem aw_Lv.has {nL : Nat} {ad : Nat → Nat} {k : Nat} {ls : Array Slot} {L : List Value} (h : aw_Lv nL ad k ls L) : lv_has ls nL (aw_pairs ad L) := by
  refine ⟨h.1, h.2.1, fun q hq => ?_⟩
  obtain ⟨i, -, hi⟩ := List.mem_filterMap.mp hq
  cases hL : L[i]? with
  | none => rw [hL] at hi; cases hi
  | some v =>
    rw [hL] at hi
    have hv : v ≠ .null := by intro e; rw [e] at hi; cases hi
    have he : q = (i, aw_cv ad v) := by cases v <;> first | exact absurd rfl hv | exact (Option.some.inj hi).symm
    rw [he]
    exact (h.2.2 i v hL hv).1
theorem aw_store1 {nL : Nat} {ad : Nat → Nat} {k : Nat} {ls ls' : Array Slot} {L L' : List Value} {i : Nat} {v : Value} (h : aw_Lv nL ad k ls L) (hok : aw_ok k v) (hlow : aw_low L i = true) (hL : L.set i v = L')
    (h' : lv_has ls' nL ((i, aw_cv ad v) :: (aw_pairs ad L).filter (fun q => !(q.1 == i) && !(q.1 + 1 == i && q.2.category == 2)))) : aw_Lv nL ad k ls' L' := by
  subst hL
  refine ⟨h'.1, h'.2.1, fun j w hj hw => ?_⟩
  by_cases hji : j = i
  · subst hji
    rw [List.getElem?_set_self (by
      have := (List.getElem?_eq_some_iff.mp hj).1
      rwa [List.length_set] at this)] at hj
    cases hj
    exact ⟨h'.2.2 _ List.mem_cons_self, hok⟩
  · rw [List.getElem?_set_ne (Ne.symm hji)] at hj
    refine ⟨h'.2.2 (j, aw_cv ad w) (List.mem_cons_of_mem _ (List.mem_filter.mpr ⟨aw_pairs_in hj hw, ?_⟩)), (h.2.2 j w hj hw).2⟩
    have e1 : (j == i) = false := by simp [hji]
    have e2 : (j + 1 == i && (aw_cv ad w).category == 2) = false := by
      by_cases e : j + 1 = i
      · subst e
        simp only [aw_low, hj] at hlow
        rw [aw_cat]
        have : w.category = 1 := by simpa using hlow
        simp [this]
      · simp [e]
    simp [e1, e2]
theorem aw_store2 {nL : Nat} {ad : Nat → Nat} {k : Nat} {ls ls' : Array Slot} {L L' : List Value} {i : Nat} {v : Value} (h : aw_Lv nL ad k ls L) (hok : aw_ok k v) (hlow : aw_low L i = true) (hL : (L.set i v).set (i + 1) .null = L')
    (h' : lv_has ls' nL ((i, aw_cv ad v) :: (aw_pairs ad L).filter (fun q => !(q.1 == i) && (!(q.1 == i + 1) && !(q.1 + 1 == i && q.2.category == 2))))) : aw_Lv nL ad k ls' L' := by
  subst hL
  refine ⟨h'.1, h'.2.1, fun j w hj hw => ?_⟩
  by_cases hj2 : j = i + 1
  · subst hj2
    rw [List.getElem?_set_self (by
      have := (List.getElem?_eq_some_iff.mp hj).1
      rwa [List.length_set] at this)] at hj
    cases hj
    exact absurd rfl hw
  · rw [List.getElem?_set_ne (Ne.symm hj2)] at hj
    by_cases hji : j = i
    · subst hji
      rw [List.getElem?_set_self (by
        have := (List.getElem?_eq_some_iff.mp hj).1
        rwa [List.length_set] at this)] at hj
      cases hj
      exact ⟨h'.2.2 _ List.mem_cons_self, hok⟩
    · rw [List.getElem?_set_ne (Ne.symm hji)] at hj
      refine ⟨h'.2.2 (j, aw_cv ad w) (List.mem_cons_of_mem _ (List.mem_filter.mpr ⟨aw_pairs_in hj hw, ?_⟩)), (h.2.2 j w hj hw).2⟩
      have e1 : (j == i) = false := by simp [hji]
      have e3 : (j == i + 1) = false := by simp [hj2]
      have e2 : (j + 1 == i && (aw_cv ad w).category == 2) = false := by
        by_cases e : j + 1 = i
        · subst e
          simp only [aw_low, hj] at hlow
          rw [aw_cat]
          have : w.category = 1 := by simpa using hlow
          simp [this]
        · simp [e]
      simp [e1, e2, e3]

theorem AW.istore_n {x : Fin 4} {i : Nat} {v : Int32} {L' : List Value} (hd : decode μ.2.1 pc = .ok (.istore_n x, 1)) (hi : (x : Nat) = i) (hn : i < μ.2.2.1) (hlow : aw_low L i = true) (hL : L.set i (.int v) = L') (K : AW Z μ d k0 mc ms Q (pc + 1) L' S h k cs ss) : AW Z μ d k0 mc ms Q pc L (.int v :: S) h k cs ss := by
  intro l D cT p e s m args below meth c ad0 ad A H locs ls hC ha hk hS hw hl hs
  refine lv_istore_n (nL := μ.2.2.1) (lv := aw_pairs ad L) hC.2.1 hC.2.2.1 hd hi hl.has hn rfl (fun ls' h' => ?_)
  exact K l D cT p e s m args below meth c ad0 ad A H locs ls' hC ha hk hS hw (aw_store1 hl (aw_okI) hlow hL h') (aw_ok_tail hs)
theorem AW.istore {i : Nat} {v : Int32} {L' : List Value} (hd : decode μ.2.1 pc = .ok (.istore i, 2)) (hn : i < μ.2.2.1) (hlow : aw_low L i = true) (hL : L.set i (.int v) = L') (K : AW Z μ d k0 mc ms Q (pc + 2) L' S h k cs ss) : AW Z μ d k0 mc ms Q pc L (.int v :: S) h k cs ss := by
  intro l D cT p e s m args below meth c ad0 ad A H locs ls hC ha hk hS hw hl hs
  refine lv_istore (nL := μ.2.2.1) (lv := aw_pairs ad L) hC.2.1 hC.2.2.1 hd hl.has hn rfl (fun ls' h' => ?_)
  exact K l D cT p e s m args below meth c ad0 ad A H locs ls' hC ha hk hS hw (aw_store1 hl (aw_okI) hlow hL h') (aw_ok_tail hs)
theorem AW.astore_n {x : Fin 4} {i : Nat} {v : Nat} {L' : List Value} (hd : decode μ.2.1 pc = .ok (.astore_n x, 1)) (hi : (x : Nat) = i) (hn : i < μ.2.2.1) (hlow : aw_low L i = true) (hL : L.set i (.ref v) = L') (K : AW Z μ d k0 mc ms Q (pc + 1) L' S h k cs ss) : AW Z μ d k0 mc ms Q pc L (.ref v :: S) h k cs ss := by
  intro l D cT p e s m args below meth c ad0 ad A H locs ls hC ha hk hS hw hl hs
  refine lv_astore_n (nL := μ.2.2.1) (lv := aw_pairs ad L) hC.2.1 hC.2.2.1 hd hi hl.has hn rfl (fun ls' h' => ?_)
  exact K l D cT p e s m args below meth c ad0 ad A H locs ls' hC ha hk hS hw (aw_store1 hl (hs _ List.mem_cons_self) hlow hL h') (aw_ok_tail hs)
theorem AW.astore {i : Nat} {v : Nat} {L' : List Value} (hd : decode μ.2.1 pc = .ok (.astore i, 2)) (hn : i < μ.2.2.1) (hlow : aw_low L i = true) (hL : L.set i (.ref v) = L') (K : AW Z μ d k0 mc ms Q (pc + 2) L' S h k cs ss) : AW Z μ d k0 mc ms Q pc L (.ref v :: S) h k cs ss := by
  intro l D cT p e s m args below meth c ad0 ad A H locs ls hC ha hk hS hw hl hs
  refine lv_astore (nL := μ.2.2.1) (lv := aw_pairs ad L) hC.2.1 hC.2.2.1 hd hl.has hn rfl (fun ls' h' => ?_)
  exact K l D cT p e s m args below meth c ad0 ad A H locs ls' hC ha hk hS hw (aw_store1 hl (hs _ List.mem_cons_self) hlow hL h') (aw_ok_tail hs)
theorem AW.lstore_n {x : Fin 4} {i : Nat} {v : Int64} {L' : List Value} (hd : decode μ.2.1 pc = .ok (.lstore_n x, 1)) (hi : (x : Nat) = i) (hn : i + 1 < μ.2.2.1) (hlow : aw_low L i = true) (hL : (L.set i (.long v)).set (i + 1) .null = L') (K : AW Z μ d k0 mc ms Q (pc + 1) L' S h k cs ss) : AW Z μ d k0 mc ms Q pc L (.long v :: S) h k cs ss := by
  intro l D cT p e s m args below meth c ad0 ad A H locs ls hC ha hk hS hw hl hs
  refine lv_lstore_n (nL := μ.2.2.1) (lv := aw_pairs ad L) hC.2.1 hC.2.2.1 hd hi hl.has hn rfl (fun ls' h' => ?_)
  exact K l D cT p e s m args below meth c ad0 ad A H locs ls' hC ha hk hS hw (aw_store2 hl (aw_okJ) hlow hL h') (aw_ok_tail hs)
theorem AW.dstore {i : Nat} {v : UInt64} {L' : List Value} (hd : decode μ.2.1 pc = .ok (.dstore i, 2)) (hn : i + 1 < μ.2.2.1) (hlow : aw_low L i = true) (hL : (L.set i (.double v)).set (i + 1) .null = L') (K : AW Z μ d k0 mc ms Q (pc + 2) L' S h k cs ss) : AW Z μ d k0 mc ms Q pc L (.double v :: S) h k cs ss := by
  intro l D cT p e s m args below meth c ad0 ad A H locs ls hC ha hk hS hw hl hs
  refine lv_dstore (nL := μ.2.2.1) (lv := aw_pairs ad L) hC.2.1 hC.2.2.1 hd hl.has hn rfl (fun ls' h' => ?_)
  exact K l D cT p e s m args below meth c ad0 ad A H locs ls' hC ha hk hS hw (aw_store2 hl (aw_okD) hlow hL h') (aw_ok_tail hs)
theorem AW.iinc {i : Nat} {n : Int} {x v : Int32} {L' : List Value} (hd : decode μ.2.1 pc = .ok (.iinc i n, 3)) (hx : L[i]? = some (.int x)) (hv : x + Int32.ofInt n = v) (hn : i < μ.2.2.1) (hlow : aw_low L i = true) (hL : L.set i (.int v) = L') (K : AW Z μ d k0 mc ms Q (pc + 3) L' S h k cs ss) : AW Z μ d k0 mc ms Q pc L S h k cs ss := by
  intro l D cT p e s m args below meth c ad0 ad A H locs ls hC ha hk hS hw hl hs
  obtain ⟨j, hj⟩ := List.getElem?_of_mem (aw_pairs_in (ad := ad) hx (fun e => nomatch e))
  refine lv_iinc (nL := μ.2.2.1) (lv := aw_pairs ad L) hC.2.1 hC.2.2.1 hd hl.has (k := j) hj hv hn rfl (fun ls' h' => ?_)
  exact K l D cT p e s m args below meth c ad0 ad A H locs ls' hC ha hk hS hw (aw_store1 hl aw_okI hlow hL h') hs
/-! ends -/
theorem AW.iret {v : Int32} {ty : FieldType} (hd : decode μ.2.1 pc = .ok (.ireturn, 1)) (hr : μ.2.2.2.1 = some ty) (hn : narrow ty (.int v) = .int v) (hc : cs ≤ mc) (hs2 : ss ≤ ms) (q : Q (.inl (some (.int v))) h k) : AW Z μ d k0 mc ms Q pc L [.int v] h k cs ss := by
  intro l D cT p e s m args below meth c ad0 ad A H locs ls hC ha hk hS hw hl hs
  obtain ⟨h1, hx, hb, h4, h5, h6, h7, h8, h9, h10, h11, h12⟩ := hC
  refine vx_ret (W.widen hc hs2 (W.zret hx hb (h5.trans hr) hn (fun t ht hW => ⟨⟨some (.int v), h, k, ad, rfl, q, ha, hk, fun w e => by cases e; trivial, ?_⟩, hS.F ht⟩) hS.2.2 hd h6))
  rw [ht]
  exact ⟨hw.1, hw.2.1, hw.2.2.1.moved hW.alike, hw.2.2.2⟩
theorem AW.lret {v : Int64} (hd : decode μ.2.1 pc = .ok (.lreturn, 1)) (hr : μ.2.2.2.1 = some .long) (hc : cs ≤ mc) (hs2 : ss ≤ ms) (q : Q (.inl (some (.long v))) h k) : AW Z μ d k0 mc ms Q pc L [.long v] h k cs ss := by
  intro l D cT p e s m args below meth c ad0 ad A H locs ls hC ha hk hS hw hl hs
  obtain ⟨h1, hx, hb, h4, h5, h6, h7, h8, h9, h10, h11, h12⟩ := hC
  refine vx_ret (W.widen hc hs2 (W.lret hx hb (h5.trans hr) (fun t ht hW => ⟨⟨some (.long v), h, k, ad, rfl, q, ha, hk, fun w e => by cases e; trivial, ?_⟩, hS.F ht⟩) hS.2.2 hd h6))
  rw [ht]
  exact ⟨hw.1, hw.2.1, hw.2.2.1.moved hW.alike, hw.2.2.2⟩
theorem AW.dret {v : UInt64} (hd : decode μ.2.1 pc = .ok (.dreturn, 1)) (hr : μ.2.2.2.1 = some .double) (hc : cs ≤ mc) (hs2 : ss ≤ ms) (q : Q (.inl (some (.double v))) h k) : AW Z μ d k0 mc ms Q pc L [.double v] h k cs ss := by
  intro l D cT p e s m args below meth c ad0 ad A H locs ls hC ha hk hS hw hl hs
  obtain ⟨h1, hx, hb, h4, h5, h6, h7, h8, h9, h10, h11, h12⟩ := hC
  refine vx_ret (W.widen hc hs2 (W.dret hx hb (h5.trans hr) (fun t ht hW => ⟨⟨some (.double v), h, k, ad, rfl, q, ha, hk, fun w e => by cases e; trivial, ?_⟩, hS.F ht⟩) hS.2.2 hd h6))
  rw [ht]
  exact ⟨hw.1, hw.2.1, hw.2.2.1.moved hW.alike, hw.2.2.2⟩
theorem AW.aret {v : Nat} {ty : FieldType} (hd : decode μ.2.1 pc = .ok (.areturn, 1)) (hr : μ.2.2.2.1 = some (.array ty)) (hc : cs ≤ mc) (hs2 : ss ≤ ms) (q : Q (.inl (some (.ref v))) h k) : AW Z μ d k0 mc ms Q pc L [.ref v] h k cs ss := by
  intro l D cT p e s m args below meth c ad0 ad A H locs ls hC ha hk hS hw hl hs
  obtain ⟨h1, hx, hb, h4, h5, h6, h7, h8, h9, h10, h11, h12⟩ := hC
  refine vx_ret (W.widen hc hs2 (W.aret hx hb (h5.trans hr) (Or.inr ⟨_, rfl⟩) (Or.inr ⟨_, rfl⟩) (fun t ht hW => ⟨⟨some (.ref v), h, k, ad, rfl, q, ha, hk, fun w e => by cases e; exact hs _ List.mem_cons_self, ?_⟩, hS.F ht⟩) hS.2.2 hd h6))
  rw [ht]
  exact ⟨hw.1, hw.2.1, hw.2.2.1.moved hW.alike, hw.2.2.2⟩
theorem AW.vret (hd : decode μ.2.1 pc = .ok (.return_, 1)) (hr : μ.2.2.2.1 = none) (hc : cs ≤ mc) (hs2 : ss ≤ ms) (q : Q (.inl none) h k) : AW Z μ d k0 mc ms Q pc L [] h k cs ss := by
  intro l D cT p e s m args below meth c ad0 ad A H locs ls hC ha hk hS hw hl hs
  obtain ⟨h1, hx, hb, h4, h5, h6, h7, h8, h9, h10, h11, h12⟩ := hC
  refine vx_ret (W.widen hc hs2 (W.vret hx hb (h5.trans hr) (fun t ht hW => ⟨⟨none, h, k, ad, rfl, q, ha, hk, (fun w e => nomatch e), ?_⟩, hS.F ht⟩) hS.2.2 hd h6))
  rw [ht]
  exact ⟨hw.1, hw.2.1, hw.2.2.1.moved hW.alike, hw.2.2.2⟩
theorem AW.widen {cs' ss' : Nat} (h1 : cs ≤ cs') (h2 : ss ≤ ss') (K : AW Z μ d k0 mc ms Q pc L S h k cs' ss') : AW Z μ d k0 mc ms Q pc L S h k cs ss := by
  intro l D cT p e s m args below meth c ad0 ad A H locs ls hC ha hk hS hw hl hs
  exact W.widen h1 h2 (K l D cT p e s m args below meth c ad0 ad A H locs ls hC ha hk hS hw hl hs)
/-- fewer locals known -/
theorem AW.locals {L' : List Value} (hL : ∀ (i : Nat) (v : Value), L'[i]? = some v → v ≠ .null → L[i]? = some v) (K : AW Z μ d k0 mc ms Q pc L' S h k cs ss) : AW Z μ d k0 mc ms Q pc L S h k cs ss := by
  intro l D cT p e s m args below meth c ad0 ad A H locs ls hC ha hk hS hw hl hs
  exact K l D cT p e s m args below meth c ad0 ad A H locs ls hC ha hk hS hw ⟨hl.1, hl.2.1, fun i v h1 h2 => hl.2.2 i v (hL i v h1 h2) h2⟩ hs
end Rows2
end
section
/-! AW: the heap -/
def aw_ty (ci : Nat) : Nat → FieldType := match ci with
  | 0 => tyX0
  | 1 => tyX1
  | 2 => tyX2
  | 3 => tyX3
  | 4 => tyX4
  | _ => tyX5
theorem aw_cw0 : ∀ w ∈ u_ws RX0 TX0 1, w ∈ lw_tbl ∧ aw_okw w = true := by decide +kernel
theorem aw_cw1 : ∀ w ∈ u_ws RX1 TX1 12, w ∈ lw_tbl ∧ aw_okw w = true := by decide +kernel
theorem aw_cw2 : ∀ w ∈ u_ws RX2 TX2 6, w ∈ lw_tbl ∧ aw_okw w = true := by decide +kernel
theorem aw_cw3 : ∀ w ∈ u_ws RX3 TX3 18, w ∈ lw_tbl ∧ aw_okw w = true := by decide +kernel
theorem aw_cw4 : ∀ w ∈ u_ws RX4 TX4 7, w ∈ lw_tbl ∧ aw_okw w = true := by decide +kernel
theorem aw_cw5 : ∀ w ∈ u_ws RX5 TX5 14, w ∈ lw_tbl ∧ aw_okw w = true := by decide +kernel
theorem aw_cls {ci : Nat} {C : String} {T : u_T} {N : Nat} (h : aw_cl[ci]? = some (C, T, N)) :
    (∀ w ∈ u_ws C T N, w ∈ lw_tbl ∧ aw_okw w = true) ∧ (∀ k, k < N → parseFieldDescriptor (T k).2.2.1 = some (aw_ty ci k)) ∧ (∀ a, a < N → ∀ b, b < N → a ≠ b → (T a).2.1 ≠ (T b).2.1) := by
  match ci, h with
  | 0, h => cases h; exact ⟨aw_cw0, tyX0_ok, nmX0⟩
  | 1, h => cases h; exact ⟨aw_cw1, tyX1_ok, nmX1⟩
  | 2, h => cases h; exact ⟨aw_cw2, tyX2_ok, nmX2⟩
  | 3, h => cases h; exact ⟨aw_cw3, tyX3_ok, nmX3⟩
  | 4, h => cases h; exact ⟨aw_cw4, tyX4_ok, nmX4⟩
  | 5, h => cases h; exact ⟨aw_cw5, tyX5_ok, nmX5⟩
  | n + 6, h => simp at h
theorem aw_hts {A : Nat → Prop} {s : State} (h : aw_GF A s) {args : Array Value} {w : Cond} (hw : w ∈ lw_tbl) (ho : aw_okw w = true) : w.before args s = true := aw_stable ho (State.WarmedH.refl s) (h.1 w hw ho)
theorem aw_at_obj {cT : FieldType → ClassId} {ad : Nat → Nat} {h : Hp} {k i ci : Nat} {fs : List Value} (h0 : 0 < i) (hi : i < k) (hh : h i = .inr (ci, fs)) : (aw_ws cT ad h k)[i - 1]? = some (ad i, .inr (ci, fs.map (aw_cv ad))) := by
  rw [aw_ws_at cT ad h h0 hi, hh]; rfl
theorem aw_at_arr {cT : FieldType → ClassId} {ad : Nat → Nat} {h : Hp} {k i : Nat} {ty : FieldType} {a : vp_A} (h0 : 0 < i) (hi : i < k) (hh : h i = .inl (ty, a)) : (aw_ws cT ad h k)[i - 1]? = some (ad i, .inl (cT ty, aw_ca ad a)) := by
  rw [aw_ws_at cT ad h h0 hi, hh]; rfl
theorem aw_Wo_set {D : va_G} {cT : FieldType → ClassId} {A : Nat → Prop} {ad : Nat → Nat} {h : Hp} {k i : Nat} {H H1 : Heap} {U : State} {e : Ce} (hw : aw_Wo D cT A ad h k H U) (h0 : 0 < i) (hi : i < k) (he : aw_okc k e)
    (hP : va_P D aw_cl ((aw_ws cT ad h k).set (i - 1) (ad i, aw_ce cT ad e)) H1) (hD : va_D A ((aw_ws cT ad h k).set (i - 1) (ad i, aw_ce cT ad e))) : aw_Wo D cT A ad (va_up h i e) k H1 U := by
  rw [aw_ws_set cT ad h h0 hi] at hP hD
  refine ⟨hP, hD, hw.2.2.1, hw.2.2.2.1, fun j j0 jk => ?_⟩
  by_cases hj : j = i
  · subst hj; simp only [va_up, if_true]; exact he
  · simp only [va_up, hj, if_false]; exact hw.2.2.2.2 j j0 jk
section Rows3
variable {Z : Gz} {μ : Mt} {d k0 mc ms : Nat} {Q : Po} {pc : Nat} {L S : List Value} {h : Hp} {k cs ss : Nat}
theorem AW.get {i ci index f N : Nat} {C ref : String} {T : u_T} {fs : List Value} {v : Value} (hd : decode μ.2.1 pc = .ok (.getfield index, 3)) (hw : Cond.fieldLink μ.1.cls index ref (T f).2.1 (T f).2.2.1 ∈ lw_tbl) (hc : aw_cl[ci]? = some (C, T, N)) (hf : f < N) (hr : ref = (T f).1)
    (h0 : 0 < i) (hh : h i = .inr (ci, fs)) (hv : fs[f]? = some v) (K : AW Z μ d k0 mc ms Q (pc + 3) L (v :: S) h k cs ss) : AW Z μ d k0 mc ms Q pc L (.ref i :: S) h k cs ss := by
  intro l D cT p e s m args below meth c ad0 ad A H locs ls hC ha hk hS hw2 hl hs
  have hi : i < k := hs _ List.mem_cons_self
  obtain ⟨c1, c2, c3⟩ := aw_cls hc
  refine va_get (own := μ.1.cls) (ref := ref) (v := aw_cv ad v) hC.2.1 hC.2.2.1 (Ts := u_ws C T N) (fun w h => aw_hts hC.2.2.2.2.2.2.2.2.2.1 (c1 w h).1 (c1 w h).2) (fun _ h => h) hC.2.2.2.2.2.2.2.1 hw2.2.2.1 hw2.1 (i - 1) (aw_at_obj h0 hi hh) hc f hf (aw_hts hC.2.2.2.2.2.2.2.2.2.1 hw rfl) (fun x hx => by rw [hr]; exact hx) (by rw [List.getElem?_map, hv]; rfl) hd ?_
  have hok : aw_ok k v := by
    have := hw2.2.2.2.2 i h0 hi
    rw [hh] at this
    exact this v (List.mem_of_getElem? hv)
  exact K l D cT p e s m args below meth c ad0 ad A H locs ls hC ha hk hS hw2 hl (aw_ok_cons hok (aw_ok_tail hs))
theorem AW.getN {i ci index f N : Nat} {C ref host : String} {T : u_T} {fs : List Value} {v : Value} (hd : decode μ.2.1 pc = .ok (.getfield index, 3)) (hw : Cond.fieldLinkNest μ.1.cls index ref (T f).2.1 (T f).2.2.1 host ∈ lw_tbl) (hc : aw_cl[ci]? = some (C, T, N)) (hf : f < N) (hr : ref = (T f).1)
    (h0 : 0 < i) (hh : h i = .inr (ci, fs)) (hv : fs[f]? = some v) (K : AW Z μ d k0 mc ms Q (pc + 3) L (v :: S) h k cs ss) : AW Z μ d k0 mc ms Q pc L (.ref i :: S) h k cs ss := by
  intro l D cT p e s m args below meth c ad0 ad A H locs ls hC ha hk hS hw2 hl hs
  have hi : i < k := hs _ List.mem_cons_self
  obtain ⟨c1, c2, c3⟩ := aw_cls hc
  refine va_getN (own := μ.1.cls) (ref := ref) (host := host) (v := aw_cv ad v) hC.2.1 hC.2.2.1 (Ts := u_ws C T N) (fun w h => aw_hts hC.2.2.2.2.2.2.2.2.2.1 (c1 w h).1 (c1 w h).2) (fun _ h => h) hC.2.2.2.2.2.2.2.1 hw2.2.2.1 hw2.1 (i - 1) (aw_at_obj h0 hi hh) hc f hf (aw_hts hC.2.2.2.2.2.2.2.2.2.1 hw rfl) (fun x hx => by rw [hr]; exact hx) (by rw [List.getElem?_map, hv]; rfl) hd ?_
  have hok : aw_ok k v := by
    have := hw2.2.2.2.2 i h0 hi
    rw [hh] at this
    exact this v (List.mem_of_getElem? hv)
  exact K l D cT p e s m args below meth c ad0 ad A H locs ls hC ha hk hS hw2 hl (aw_ok_cons hok (aw_ok_tail hs))
theorem aw_okc_set {ci f : Nat} {fs : List Value} {v : Value} (h : aw_okc k (.inr (ci, fs))) (hv : aw_ok k v) : aw_okc k (.inr (ci, fs.set f v)) := fun w hw => by
  rcases List.mem_or_eq_of_mem_set hw with h1 | h1
  · exact h w h1
  · rw [h1]; exact hv
theorem AW.put {i ci index f N : Nat} {C ref : String} {T : u_T} {fs fs' : List Value} {v : Value} (hd : decode μ.2.1 pc = .ok (.putfield index, 3)) (hw : Cond.fieldLink μ.1.cls index ref (T f).2.1 (T f).2.2.1 ∈ lw_tbl) (hc : aw_cl[ci]? = some (C, T, N)) (hf : f < N) (hr : ref = (T f).1)
    (h0 : 0 < i) (hh : h i = .inr (ci, fs)) (hl2 : f < fs.length) (hfin : (T f).2.2.2 = false) (hn : ∀ ad : Nat → Nat, narrow (aw_ty ci f) (aw_cv ad v) = aw_cv ad v ∧ fits (aw_ty ci f) (aw_cv ad v) = true) (hs' : fs.set f v = fs')
    (K : AW Z μ d k0 mc ms Q (pc + 3) L S (va_up h i (.inr (ci, fs'))) k cs ss) : AW Z μ d k0 mc ms Q pc L (v :: .ref i :: S) h k cs ss := by
  subst hs'
  intro l D cT p e s m args below meth c ad0 ad A H locs ls hC ha hk hS hw2 hl hs
  have hi : i < k := hs _ (List.mem_cons_of_mem _ List.mem_cons_self)
  obtain ⟨c1, c2, c3⟩ := aw_cls hc
  refine va_put (own := μ.1.cls) (ref := ref) (v := aw_cv ad v) (ty := aw_ty ci f) hC.2.1 hC.2.2.1 (Ts := u_ws C T N) (fun w h => aw_hts hC.2.2.2.2.2.2.2.2.2.1 (c1 w h).1 (c1 w h).2) (fun _ h => h) (aw_ty ci) c2 c3 hC.2.2.2.2.2.2.2.1 hw2.2.2.1 hw2.1 hw2.2.1 hS (i - 1) (aw_at_obj h0 hi hh) hc f hf (aw_hts hC.2.2.2.2.2.2.2.2.2.1 hw rfl) (fun x hx => by rw [hr]; exact hx) hfin (c2 f hf) (hn ad).1 (hn ad).2 (by rw [List.length_map]; exact hl2) hd (fun H1 locs1 hP hD hS1 => ?_)
  have e1 : (ad i, (Sum.inr (ci, (fs.map (aw_cv ad)).set f (aw_cv ad v)) : va_E)) = (ad i, aw_ce cT ad (.inr (ci, fs.set f v))) := by
    show _ = (ad i, Sum.inr (ci, (fs.set f v).map (aw_cv ad)))
    rw [List.map_set]
  rw [e1] at hP hD
  have hoi := hw2.2.2.2.2 i h0 hi
  rw [hh] at hoi
  exact K l D cT p e s m args below meth c ad0 ad A H1 locs1 ls hC ha hk hS1 (aw_Wo_set hw2 h0 hi (aw_okc_set hoi (hs _ List.mem_cons_self)) hP hD) hl (aw_ok_tail (aw_ok_tail hs))
theorem AW.putN {i ci index f N : Nat} {C ref host : String} {T : u_T} {fs fs' : List Value} {v : Value} (hd : decode μ.2.1 pc = .ok (.putfield index, 3)) (hw : Cond.fieldLinkNest μ.1.cls index ref (T f).2.1 (T f).2.2.1 host ∈ lw_tbl) (hc : aw_cl[ci]? = some (C, T, N)) (hf : f < N) (hr : ref = (T f).1)
    (h0 : 0 < i) (hh : h i = .inr (ci, fs)) (hl2 : f < fs.length) (hfin : (T f).2.2.2 = false) (hn : ∀ ad : Nat → Nat, narrow (aw_ty ci f) (aw_cv ad v) = aw_cv ad v ∧ fits (aw_ty ci f) (aw_cv ad v) = true) (hs' : fs.set f v = fs')
    (K : AW Z μ d k0 mc ms Q (pc + 3) L S (va_up h i (.inr (ci, fs'))) k cs ss) : AW Z μ d k0 mc ms Q pc L (v :: .ref i :: S) h k cs ss := by
  subst hs'
  intro l D cT p e s m args below meth c ad0 ad A H locs ls hC ha hk hS hw2 hl hs
  have hi : i < k := hs _ (List.mem_cons_of_mem _ List.mem_cons_self)
  obtain ⟨c1, c2, c3⟩ := aw_cls hc
  refine va_putN (own := μ.1.cls) (ref := ref) (host := host) (v := aw_cv ad v) (ty := aw_ty ci f) hC.2.1 hC.2.2.1 (Ts := u_ws C T N) (fun w h => aw_hts hC.2.2.2.2.2.2.2.2.2.1 (c1 w h).1 (c1 w h).2) (fun _ h => h) (aw_ty ci) c2 c3 hC.2.2.2.2.2.2.2.1 hw2.2.2.1 hw2.1 hw2.2.1 hS (i - 1) (aw_at_obj h0 hi hh) hc f hf (aw_hts hC.2.2.2.2.2.2.2.2.2.1 hw rfl) (fun x hx => by rw [hr]; exact hx) hfin (c2 f hf) (hn ad).1 (hn ad).2 (by rw [List.length_map]; exact hl2) hd (fun H1 locs1 hP hD hS1 => ?_)
  have e1 : (ad i, (Sum.inr (ci, (fs.map (aw_cv ad)).set f (aw_cv ad v)) : va_E)) = (ad i, aw_ce cT ad (.inr (ci, fs.set f v))) := by
    show _ = (ad i, Sum.inr (ci, (fs.set f v).map (aw_cv ad)))
    rw [List.map_set]
  rw [e1] at hP hD
  have hoi := hw2.2.2.2.2 i h0 hi
  rw [hh] at hoi
  exact K l D cT p e s m args below meth c ad0 ad A H1 locs1 ls hC ha hk hS1 (aw_Wo_set hw2 h0 hi (aw_okc_set hoi (hs _ List.mem_cons_self)) hP hD) hl (aw_ok_tail (aw_ok_tail hs))
theorem AW.putF {i ci index f N : Nat} {C ref : String} {T : u_T} {fs fs' : List Value} {v : Value} (hd : decode μ.2.1 pc = .ok (.putfield index, 3)) (hw : Cond.fieldLink μ.1.cls index ref (T f).2.1 (T f).2.2.1 ∈ lw_tbl) (hc : aw_cl[ci]? = some (C, T, N)) (hf : f < N) (hr : ref = (T f).1)
    (h0 : 0 < i) (hh : h i = .inr (ci, fs)) (hl2 : f < fs.length) (hfin : (T f).2.2.2 = true) (hin : μ.1.name = "<init>") (hown : (T f).1 = μ.1.cls) (hn : ∀ ad : Nat → Nat, narrow (aw_ty ci f) (aw_cv ad v) = aw_cv ad v ∧ fits (aw_ty ci f) (aw_cv ad v) = true) (hs' : fs.set f v = fs')
    (K : AW Z μ d k0 mc ms Q (pc + 3) L S (va_up h i (.inr (ci, fs'))) k cs ss) : AW Z μ d k0 mc ms Q pc L (v :: .ref i :: S) h k cs ss := by
  subst hs'
  intro l D cT p e s m args below meth c ad0 ad A H locs ls hC ha hk hS hw2 hl hs
  have hi : i < k := hs _ (List.mem_cons_of_mem _ List.mem_cons_self)
  obtain ⟨c1, c2, c3⟩ := aw_cls hc
  refine va_putF (own := μ.1.cls) (ref := ref) (v := aw_cv ad v) (ty := aw_ty ci f) hC.2.1 hC.2.2.1 (Ts := u_ws C T N) (fun w h => aw_hts hC.2.2.2.2.2.2.2.2.2.1 (c1 w h).1 (c1 w h).2) (fun _ h => h) (aw_ty ci) c2 c3 hC.2.2.2.2.2.2.2.1 hw2.2.2.1 hw2.1 hw2.2.1 hS (i - 1) (aw_at_obj h0 hi hh) hc f hf (aw_hts hC.2.2.2.2.2.2.2.2.2.1 hw rfl) (fun x hx => by rw [hr]; exact hx) hfin (hC.2.2.2.2.2.2.1.trans hin) hown (c2 f hf) (hn ad).1 (hn ad).2 (by rw [List.length_map]; exact hl2) hd (fun H1 locs1 hP hD hS1 => ?_)
  have e1 : (ad i, (Sum.inr (ci, (fs.map (aw_cv ad)).set f (aw_cv ad v)) : va_E)) = (ad i, aw_ce cT ad (.inr (ci, fs.set f v))) := by
    show _ = (ad i, Sum.inr (ci, (fs.set f v).map (aw_cv ad)))
    rw [List.map_set]
  rw [e1] at hP hD
  have hoi := hw2.2.2.2.2 i h0 hi
  rw [hh] at hoi
  exact K l D cT p e s m args below meth c ad0 ad A H1 locs1 ls hC ha hk hS1 (aw_Wo_set hw2 h0 hi (aw_okc_set hoi (hs _ List.mem_cons_self)) hP hD) hl (aw_ok_tail (aw_ok_tail hs))
theorem AW.iald {i n : Nat} {g : Nat → Int32} {x : Int32} (hd : decode μ.2.1 pc = .ok (.iaload, 1)) (h0 : 0 < i) (hh : h i = .inl (.int, n, .inl g)) (hin : vp_in x n) (K : AW Z μ d k0 mc ms Q (pc + 1) L (.int (g x.toNatClampNeg) :: S) h k cs ss) : AW Z μ d k0 mc ms Q pc L (.int x :: .ref i :: S) h k cs ss := by
  intro l D cT p e s m args below meth c ad0 ad A H locs ls hC ha hk hS hw2 hl hs
  have hi : i < k := hs _ (List.mem_cons_of_mem _ List.mem_cons_self)
  exact va_iald hC.2.1 hC.2.2.1 hw2.2.2.1 hw2.1 (i - 1) 0 (aw_at_arr h0 hi hh) rfl hin hd (K l D cT p e s m args below meth c ad0 ad A H locs ls hC ha hk hS hw2 hl (aw_ok_cons aw_okI (aw_ok_tail (aw_ok_tail hs))))
theorem AW.zald {i n : Nat} {g : Nat → Int32} {x : Int32} (hd : decode μ.2.1 pc = .ok (.baload, 1)) (h0 : 0 < i) (hh : h i = .inl (.boolean, n, .inl g)) (hin : vp_in x n) (K : AW Z μ d k0 mc ms Q (pc + 1) L (.int (g x.toNatClampNeg) :: S) h k cs ss) : AW Z μ d k0 mc ms Q pc L (.int x :: .ref i :: S) h k cs ss := by
  intro l D cT p e s m args below meth c ad0 ad A H locs ls hC ha hk hS hw2 hl hs
  have hi : i < k := hs _ (List.mem_cons_of_mem _ List.mem_cons_self)
  exact va_zald hC.2.1 hC.2.2.1 hw2.2.2.1 hw2.1 (i - 1) 1 (aw_at_arr h0 hi hh) rfl hin hd (K l D cT p e s m args below meth c ad0 ad A H locs ls hC ha hk hS hw2 hl (aw_ok_cons aw_okI (aw_ok_tail (aw_ok_tail hs))))
theorem AW.lald {i n : Nat} {g : Nat → Int64} {x : Int32} (hd : decode μ.2.1 pc = .ok (.laload, 1)) (h0 : 0 < i) (hh : h i = .inl (.long, n, .inr (.inl g))) (hin : vp_in x n) (K : AW Z μ d k0 mc ms Q (pc + 1) L (.long (g x.toNatClampNeg) :: S) h k cs ss) : AW Z μ d k0 mc ms Q pc L (.int x :: .ref i :: S) h k cs ss := by
  intro l D cT p e s m args below meth c ad0 ad A H locs ls hC ha hk hS hw2 hl hs
  have hi : i < k := hs _ (List.mem_cons_of_mem _ List.mem_cons_self)
  exact va_lald hC.2.1 hC.2.2.1 hw2.2.2.1 hw2.1 (i - 1) 2 (aw_at_arr h0 hi hh) rfl hin hd (K l D cT p e s m args below meth c ad0 ad A H locs ls hC ha hk hS hw2 hl (aw_ok_cons aw_okJ (aw_ok_tail (aw_ok_tail hs))))
theorem AW.iast {i n : Nat} {g : Nat → Int32} {x y : Int32} (hd : decode μ.2.1 pc = .ok (.iastore, 1)) (h0 : 0 < i) (hh : h i = .inl (.int, n, .inl g)) (hin : vp_in x n) (K : AW Z μ d k0 mc ms Q (pc + 1) L S (va_up h i (.inl (.int, n, .inl (upd g x.toNatClampNeg y)))) k cs ss) : AW Z μ d k0 mc ms Q pc L (.int y :: .int x :: .ref i :: S) h k cs ss := by
  intro l D cT p e s m args below meth c ad0 ad A H locs ls hC ha hk hS hw2 hl hs
  have hi : i < k := hs _ (List.mem_cons_of_mem _ (List.mem_cons_of_mem _ List.mem_cons_self))
  exact va_iast hC.2.1 hC.2.2.1 hw2.2.2.1 hw2.1 hw2.2.1 hS (i - 1) 0 (aw_at_arr h0 hi hh) rfl hin hd (fun H1 locs1 hP hD hS1 => K l D cT p e s m args below meth c ad0 ad A H1 locs1 ls hC ha hk hS1 (aw_Wo_set (e := .inl (.int, n, .inl (upd g x.toNatClampNeg y))) hw2 h0 hi trivial hP hD) hl (aw_ok_tail (aw_ok_tail (aw_ok_tail hs))))
theorem AW.zast {i n : Nat} {g : Nat → Int32} {x y : Int32} (hd : decode μ.2.1 pc = .ok (.bastore, 1)) (h0 : 0 < i) (hh : h i = .inl (.boolean, n, .inl g)) (hin : vp_in x n) (hy : vp_nar .boolean y = y) (K : AW Z μ d k0 mc ms Q (pc + 1) L S (va_up h i (.inl (.boolean, n, .inl (upd g x.toNatClampNeg y)))) k cs ss) : AW Z μ d k0 mc ms Q pc L (.int y :: .int x :: .ref i :: S) h k cs ss := by
  intro l D cT p e s m args below meth c ad0 ad A H locs ls hC ha hk hS hw2 hl hs
  have hi : i < k := hs _ (List.mem_cons_of_mem _ (List.mem_cons_of_mem _ List.mem_cons_self))
  refine va_zast hC.2.1 hC.2.2.1 hw2.2.2.1 hw2.1 hw2.2.1 hS (i - 1) 1 (aw_at_arr h0 hi hh) rfl hin hd (fun H1 locs1 hP hD hS1 => ?_)
  rw [hy] at hP hD
  exact K l D cT p e s m args below meth c ad0 ad A H1 locs1 ls hC ha hk hS1 (aw_Wo_set (e := .inl (.boolean, n, .inl (upd g x.toNatClampNeg y))) hw2 h0 hi trivial hP hD) hl (aw_ok_tail (aw_ok_tail (aw_ok_tail hs)))
theorem AW.last {i n : Nat} {g : Nat → Int64} {x : Int32} {y : Int64} (hd : decode μ.2.1 pc = .ok (.lastore, 1)) (h0 : 0 < i) (hh : h i = .inl (.long, n, .inr (.inl g))) (hin : vp_in x n) (K : AW Z μ d k0 mc ms Q (pc + 1) L S (va_up h i (.inl (.long, n, .inr (.inl (vp_updL g x.toNatClampNeg y))))) k cs ss) : AW Z μ d k0 mc ms Q pc L (.long y :: .int x :: .ref i :: S) h k cs ss := by
  intro l D cT p e s m args below meth c ad0 ad A H locs ls hC ha hk hS hw2 hl hs
  have hi : i < k := hs _ (List.mem_cons_of_mem _ (List.mem_cons_of_mem _ List.mem_cons_self))
  exact va_last hC.2.1 hC.2.2.1 hw2.2.2.1 hw2.1 hw2.2.1 hS (i - 1) 2 (aw_at_arr h0 hi hh) rfl hin hd (fun H1 locs1 hP hD hS1 => K l D cT p e s m args below meth c ad0 ad A H1 locs1 ls hC ha hk hS1 (aw_Wo_set (e := .inl (.long, n, .inr (.inl (vp_updL g x.toNatClampNeg y)))) hw2 h0 hi trivial hP hD) hl (aw_ok_tail (aw_ok_tail (aw_ok_tail hs))))
theorem AW.alen {i n : Nat} {g : Nat → Int32} (hd : decode μ.2.1 pc = .ok (.arraylength, 1)) (h0 : 0 < i) (hh : h i = .inl (.int, n, .inl g)) (K : AW Z μ d k0 mc ms Q (pc + 1) L (.int (Int32.ofNat n) :: S) h k cs ss) : AW Z μ d k0 mc ms Q pc L (.ref i :: S) h k cs ss := by
  intro l D cT p e s m args below meth c ad0 ad A H locs ls hC ha hk hS hw2 hl hs
  have hi : i < k := hs _ List.mem_cons_self
  exact va_alen hC.2.1 hC.2.2.1 hw2.2.2.1 hw2.1 (i - 1) 0 (aw_at_arr h0 hi hh) (ty := .int) rfl rfl hd (K l D cT p e s m args below meth c ad0 ad A H locs ls hC ha hk hS hw2 hl (aw_ok_cons aw_okI (aw_ok_tail hs)))
/-- a new cell: the next id -/
theorem aw_Wo_push {D : va_G} {cT : FieldType → ClassId} {A : Nat → Prop} {ad : Nat → Nat} {q : Nat} {H H1 : Heap} {U : State} {e : Ce} (hw : aw_Wo D cT A ad h k H U) (he : aw_okc k e)
    (hP : va_P D aw_cl (aw_ws cT ad h k ++ [(q, aw_ce cT ad e)]) H1) (hD : va_D A (aw_ws cT ad h k ++ [(q, aw_ce cT ad e)])) : aw_Wo D cT A (va_up ad k q) (va_up h k e) (k + 1) H1 U := by
  rw [← aw_ws_push cT ad h hw.2.2.2.1 hw.2.2.2.2 q e he] at hP hD
  refine ⟨hP, hD, hw.2.2.1, Nat.succ_pos k, fun j j0 jk => ?_⟩
  by_cases hj : j = k
  · subst hj; simp only [va_up, if_true]; exact aw_okc_le he (Nat.le_succ _)
  · simp only [va_up, hj, if_false]; exact aw_okc_le (hw.2.2.2.2 j j0 (by omega)) (Nat.le_succ _)
theorem aw_push_cv {ad : Nat → Nat} {q : Nat} (hs : ∀ v ∈ S, aw_ok k v) : S.map (aw_cv (va_up ad k q)) = S.map (aw_cv ad) :=
  List.map_congr_left fun v hv => aw_cv_congr (hs v hv) fun i hi => by simp [va_up, Nat.ne_of_lt hi]
theorem aw_push_Lv {nL : Nat} {ad : Nat → Nat} {q : Nat} {ls : Array Slot} (hl : aw_Lv nL ad k ls L) : aw_Lv nL (va_up ad k q) (k + 1) ls L :=
  ⟨hl.1, hl.2.1, fun i v h1 h2 => ⟨by rw [aw_cv_congr (ad := ad) (hl.2.2 i v h1 h2).2 (fun j hj => by simp [va_up, Nat.ne_of_lt hj])]; exact (hl.2.2 i v h1 h2).1, aw_ok_le (hl.2.2 i v h1 h2).2 (Nat.le_succ _)⟩⟩
theorem AW.new {ci index N : Nat} {C : String} {T : u_T} {fs : List Value} (hd : decode μ.2.1 pc = .ok (.new index, 3)) (hw : Cond.classLink μ.1.cls index C ∈ lw_tbl) (hi1 : Cond.instantiable C N ∈ lw_tbl) (hi2 : Cond.initialized C ∈ lw_tbl) (hc : aw_cl[ci]? = some (C, T, N))
    (hfs : ∀ j, j < N → defaultValue (aw_ty ci j) = vp_V fs j) (hfr : ∀ v ∈ fs, ∀ i, v ≠ .ref i) (hcs : cs + 1 ≤ mc) (hss : ss + N ≤ ms)
    (K : AW Z μ d k0 mc ms Q (pc + 3) L (.ref k :: S) (va_up h k (.inr (ci, fs))) (k + 1) (cs + 1) (ss + N)) : AW Z μ d k0 mc ms Q pc L S h k cs ss := by
  intro l D cT p e s m args below meth c ad0 ad A H locs ls hC ha hk hS hw2 hl hs
  obtain ⟨c1, c2, c3⟩ := aw_cls hc
  have hg := hC.2.2.2.2.2.2.2.2.2.1
  refine va_new (own := μ.1.cls) hC.2.1 hC.2.2.1 (Ts := u_ws C T N) (fun w h => aw_hts hg (c1 w h).1 (c1 w h).2) (fun _ h => h) (aw_ty ci) c2 hC.2.2.2.2.2.2.2.1 (aw_hts hg hw rfl) (aw_hts hg hi1 rfl) (aw_hts hg hi2 rfl) hw2.2.2.1 hw2.1 hw2.2.1 hS hC.2.2.2.2.2.2.2.2.2.2.1 hc hfs hcs hss hd (fun q H1 hP hD hS1 => ?_)
  have hrefl : fs.map (aw_cv ad) = fs := by
    have : fs.map (aw_cv ad) = fs.map id := List.map_congr_left fun v hv => by
      cases v <;> first | rfl | exact absurd rfl (hfr _ hv _)
    rw [this, List.map_id]
  have he : aw_okc k (.inr (ci, fs)) := fun v hv => by
    cases v <;> first | trivial | exact absurd rfl (hfr _ hv _)
  have e1 : (q, (Sum.inr (ci, fs) : va_E)) = (q, aw_ce cT ad (.inr (ci, fs))) := by
    show _ = (q, Sum.inr (ci, fs.map (aw_cv ad)))
    rw [hrefl]
  rw [e1] at hP hD
  have hK := K l D cT p e s m args below meth c ad0 (va_up ad k q) A H1 locs ls hC (fun i hi => by simp only [va_up, Nat.ne_of_lt (Nat.lt_of_lt_of_le hi hk), if_false]; exact ha i hi) (Nat.le_succ_of_le hk) hS1 (aw_Wo_push hw2 he hP hD) (aw_push_Lv hl) (aw_ok_cons (Nat.lt_succ_self k) (fun v hv => aw_ok_le (hs v hv) (Nat.le_succ _)))
  rw [List.map_cons, aw_push_cv hs] at hK
  have e2 : aw_cv (va_up ad k q) (.ref k) = .ref q := by simp [aw_cv, va_up]
  rw [e2] at hK
  exact hK
theorem aw_tyv (cT : FieldType → ClassId) {D : va_G} {U : State} (hK : va_K D aw_cl (aw_tys cT) U) {ty : FieldType} (hty : ty = .int ∨ ty = .boolean ∨ ty = .long) {cA : ClassId} (h : va_RA U cA ty) : cA = cT ty := by
  rcases hty with rfl | rfl | rfl
  · exact Option.some.inj (h.symm.trans (hK.2 0 _ rfl).2)
  · exact Option.some.inj (h.symm.trans (hK.2 1 _ rfl).2)
  · exact Option.some.inj (h.symm.trans (hK.2 2 _ rfl).2)
theorem AW.newa {atype : ArrayType} {ty : FieldType} {n : Int32} {N : Nat} {a0 : vp_A} (hd : decode μ.2.1 pc = .ok (.newarray atype, 2)) (hty : newarray.typeOf atype = ty) (ht3 : ty = .int ∨ ty = .boolean ∨ ty = .long) (hw : Cond.arrayClass ty ∈ lw_tbl) (ha0 : ∀ cA : ClassId, vp_cell cA a0 = arrV cA N (fun _ => defaultValue ty))
    (hn : ¬ n < 0) (hN : n.toNatClampNeg = N) (hb : N * componentBytes ty ≤ 536870912) (hcs : cs + 1 ≤ mc) (hss : ss + N ≤ ms)
    (K : AW Z μ d k0 mc ms Q (pc + 2) L (.ref k :: S) (va_up h k (.inl (ty, a0))) (k + 1) (cs + 1) (ss + N)) (hca : ∀ ad, aw_ca ad a0 = a0 := by intro; rfl) (hoa : ∀ k, aw_oka k a0 := by intro; trivial) : AW Z μ d k0 mc ms Q pc L (.int n :: S) h k cs ss := by
  intro l D cT p e s m args below meth c ad0 ad A H locs ls hC ha hk hS hw2 hl hs
  have hg := hC.2.2.2.2.2.2.2.2.2.1
  refine va_newa hC.2.1 hC.2.2.1 (by rw [hty]; exact aw_hts hg hw rfl) hty hw2.2.2.1 hw2.1 hw2.2.1 hS hC.2.2.2.2.2.2.2.2.2.2.1 ha0 hn hN hb hcs hss hd (fun q cA H1 hK1 hP hD hS1 => ?_)
  have hcA : cA = cT ty := aw_tyv cT hw2.2.2.1 ht3 (hK1.2 4 (cA, ty) rfl).2
  subst hcA
  have e9 : (q, (Sum.inl (cT ty, a0) : va_E)) = (q, aw_ce cT ad (.inl (ty, a0))) := by
    show _ = (q, Sum.inl (cT ty, aw_ca ad a0))
    rw [hca]
  rw [e9] at hP hD
  have hK := K l D cT p e s m args below meth c ad0 (va_up ad k q) A H1 locs ls hC (fun i hi => by simp only [va_up, Nat.ne_of_lt (Nat.lt_of_lt_of_le hi hk), if_false]; exact ha i hi) (Nat.le_succ_of_le hk) hS1 (aw_Wo_push (e := .inl (ty, a0)) hw2 (hoa k) hP hD) (aw_push_Lv hl) (aw_ok_cons (Nat.lt_succ_self k) (fun v hv => aw_ok_le (aw_ok_tail hs v hv) (Nat.le_succ _)))
  rw [List.map_cons, aw_push_cv (aw_ok_tail hs)] at hK
  have e2 : aw_cv (va_up ad k q) (.ref k) = .ref q := by simp [aw_cv, va_up]
  rw [e2] at hK
  exact hK
end Rows3
end
section
/-! AW: calls -/
/-- the callee's start, out of the caller's world -/
theorem aw_free {D : va_G} {cT : FieldType → ClassId} {A : Nat → Prop} {ad : Nat → Nat} {h : Hp} {k : Nat} {H H0 : Heap} {U : State} {locs : List Loc} (hw : aw_Wo D cT A ad h k H U) (hS : va_S A H0 H locs) (hA : ∀ q, H0.size ≤ q → A q) : ∀ q, va_A (aw_ws cT ad h k) H.size q → A q := by
  intro q hq
  rcases hq with ⟨j, e, hj⟩ | hq
  · exact hw.2.1.2 j _ hj
  · exact hA q (Nat.le_trans hS.1 hq)
def aw_Pc (D : va_G) (cT : FieldType → ClassId) (ad : Nat → Nat) (as : List Value) (h : Hp) (k sz : Nat) : Array Value → State → Prop :=
  va_Pc (as.map (aw_cv ad)) (fun U => U.heap.size = sz ∧ (∀ v ∈ as, aw_ok k v) ∧ aw_Wo D cT (va_A (aw_ws cT ad h k) sz) ad h k U.heap U ∧ aw_GF (va_A (aw_ws cT ad h k) sz) U)
theorem aw_blind {D : va_G} {cT : FieldType → ClassId} {ad : Nat → Nat} {as : List Value} {h : Hp} {k sz : Nat} : FrameBlind (aw_Pc D cT ad as h k sz) := by
  intro a U g mk q
  obtain ⟨q0, q1, q2, q3, q4⟩ := q
  exact ⟨q0, q1, q2, ⟨q3.1, q3.2.1, va_K.moved (u := U) (U := U.calling g mk a) (Vm.Alike.refl U.vm) q3.2.2.1, q3.2.2.2⟩, aw_GF.moved (s := U) (U := U.calling g mk a) q4 (State.WarmedH.refl U) (fun _ _ _ => rfl) (fun _ z => z)⟩
theorem aw_pre {D : va_G} {cT : FieldType → ClassId} {A : Nat → Prop} {ad : Nat → Nat} {as : List Value} {h : Hp} {k : Nat} {H : Heap} {s : State} {locs : List Loc} (hw : aw_Wo D cT A ad h k H s) (hS : va_S A s.heap H locs) (hA : ∀ q, s.heap.size ≤ q → A q) (hg : aw_GF A s) (hok : ∀ v ∈ as, aw_ok k v) :
    ∀ U : State, U.heap = H → s.WarmedH U.vm → aw_Pc D cT ad as h k H.size (as.map (aw_cv ad)).toArray U := by
  intro U hU hW
  subst hU
  exact ⟨rfl, rfl, hok, ⟨hw.1, hw.2.1.self, hw.2.2.1.moved hW.alike, hw.2.2.2⟩, hg.moved hW (fun a h1 h2 => hS.2.1 a h1 h2) (aw_free hw hS hA)⟩
/-- behind the callee: the world is the caller's again -/
theorem aw_back {D : va_G} {cT : FieldType → ClassId} {A A1 : Nat → Prop} {ad : Nat → Nat} {h : Hp} {k : Nat} {H : Heap} {s t : State} (hw : aw_Wo D cT A1 ad h k H t) (hvm : s.vm.Alike t.vm) (hA : ∀ q, A1 q → A q) : aw_Wo D cT A ad h k H s :=
  ⟨hw.1, hw.2.1.weaken (fun _ _ _ z => hA _ z), hw.2.2.1.moved hvm.symm, hw.2.2.2⟩
theorem aw_Lv_to {nL : Nat} {ad ad' : Nat → Nat} {k k' : Nat} {ls : Array Slot} {L : List Value} (hl : aw_Lv nL ad k ls L) (e : ∀ i, i < k → ad' i = ad i) (hk : k ≤ k') : aw_Lv nL ad' k' ls L :=
  ⟨hl.1, hl.2.1, fun i v h1 h2 => ⟨by rw [aw_cv_congr (ad := ad) (hl.2.2 i v h1 h2).2 e]; exact (hl.2.2 i v h1 h2).1, aw_ok_le (hl.2.2 i v h1 h2).2 hk⟩⟩
theorem aw_map_to {ad ad' : Nat → Nat} {k : Nat} {S : List Value} (hs : ∀ v ∈ S, aw_ok k v) (e : ∀ i, i < k → ad' i = ad i) : S.map (aw_cv ad') = S.map (aw_cv ad) := List.map_congr_left fun v hv => aw_cv_congr (hs v hv) e
section Rows4
variable {Z : Gz} {μ : Mt} {d k0 mc ms : Nat} {Q : Po} {pc : Nat} {L S : List Value} {h : Hp} {k cs ss : Nat}
/-- at pc, with an exception of the class E thrown -/
def AX (Z : Gz) (μ : Mt) (d k0 mc ms : Nat) (Q : Po) (E : String) (pc : Nat) (L : List Value) (h : Hp) (k cs ss : Nat) : Prop :=
  ∀ (l : Launch) (D : va_G) (cT : FieldType → ClassId) (p : Program) (e : Env) (s : State) (m : MethodId) (args : Array Value) (below : List Frame) (meth : Method) (c : Code) (ad0 ad : Nat → Nat) (A : Nat → Prop) (H : Heap) (locs : List Loc) (ls : Array Slot) (q : Nat) (ce : Cell) (st : List Value),
    aw_Cx Z μ l p s m args meth c ad0 A → (∀ i, i < k0 → ad i = ad0 i) → k0 ≤ k → va_S A s.heap H locs → aw_Wo D cT A ad h k H s → aw_Lv μ.2.2.1 ad k ls L → H[q]? = some ce → ce.vm = .none → s.vm.findClass E = some ce.cls →
    vx_W p l e (aw_R d mc ms) s m args below meth c H locs cs ss (vx_MQ below (aw_Qc D cT A ad0 k0 Q) (aw_Xc D cT A ad0 k0 Q) args s mc ms A) (F0 m pc ls st) q
theorem AX.out {E : String} (hh : μ.2.2.2.2 = []) (hc : cs ≤ mc) (hs2 : ss ≤ ms) (q : Q (.inr E) h k) : AX Z μ d k0 mc ms Q E pc L h k cs ss := by
  intro l D cT p e s m args below meth c ad0 ad A H locs ls q9 ce st hC ha hk hS hw hl hq hv hcl
  obtain ⟨h1, hx, hb, h4, h5, h6, h7, h8, h9, h10, h11, h12⟩ := hC
  refine vx_out (fun x hx => ?_) h6 hq hv hcl (fun t ht hvm => ⟨⟨h, k, ad, q, ha, hk, ?_⟩, hS.F ht⟩) hS.2.2 hc hs2
  · rw [h9, hh] at hx; cases hx
  · rw [ht]; exact ⟨hw.1, hw.2.1, hw.2.2.1.moved hvm, hw.2.2.2⟩
theorem AX.catch_n {E name : String} {x : Nat × Nat × Nat × Nat} {pre suf : List (Nat × Nat × Nat × Nat)} {n : Fin 4} {i : Nat} {L' : List Value} (hh : μ.2.2.2.2 = pre ++ x :: suf) (hE : E ∈ aw_exc)
    (hpre : ∀ z ∈ pre, z.2.2.2 ≠ 0 ∧ ∃ nm ∈ aw_exc, nm ≠ E ∧ Cond.classLink μ.1.cls z.2.2.2 nm ∈ lw_tbl) (h1 : x.1 ≤ pc) (h2 : pc < x.2.1) (h3 : x.2.2.2 ≠ 0) (hlink : Cond.classLink μ.1.cls x.2.2.2 name ∈ lw_tbl) (hcast : Cond.castable E name ∈ lw_tbl)
    (hd : decode μ.2.1 x.2.2.1 = .ok (.astore_n n, 1)) (hi : (n : Nat) = i) (hn : i < μ.2.2.1) (hlow : aw_low L i = true) (hL : L.set i .null = L')
    (K : AW Z μ d k0 mc ms Q (x.2.2.1 + 1) L' [] h k cs ss) : AX Z μ d k0 mc ms Q E pc L h k cs ss := by
  intro l D cT p e s m args below meth c ad0 ad A H locs ls q9 ce st hC ha hk hS hw hl hq hv hcl
  have hg := hC.2.2.2.2.2.2.2.2.2.1
  have hown := hC.2.2.2.2.2.2.2.1
  refine vx_catch (own := μ.1.cls) (name := name) (E := E) (ce := ce) hown (tableOf pre) ⟨x.1, x.2.1, x.2.2.1, x.2.2.2⟩ (tableOf suf) ?_ (fun z hz => ?_) ?_ h3 (aw_hts hg hlink rfl) (aw_hts hg hcast rfl) hq hv hcl ?_
  · rw [hC.2.2.2.2.2.2.2.2.1, hh]
    simp [tableOf]
  · obtain ⟨y, hy, rfl⟩ := List.mem_map.mp hz
    obtain ⟨g1, nm, g2, g3, g4⟩ := hpre y hy
    exact Or.inr ⟨g1, nm, aw_hts hg g4 rfl, hg.2.2.1 E hE nm g2 (Ne.symm g3)⟩
  · simp [covers, h1, h2]
  · refine lv_astore_n (nL := μ.2.2.1) (lv := aw_pairs ad L) hC.2.1 hC.2.2.1 hd hi hl.has hn rfl (fun ls' h' => ?_)
    refine K l D cT p e s m args below meth c ad0 ad A H locs ls' hC ha hk hS hw ?_ (fun v hv => nomatch hv)
    subst hL
    have h'' : lv_has ls' μ.2.2.1 ((i, aw_cv (fun _ => q9) (.ref 0)) :: (aw_pairs ad L).filter (fun q => !(q.1 == i) && !(q.1 + 1 == i && q.2.category == 2))) := h'
    refine ⟨h'.1, h'.2.1, fun j w hj hw' => ?_⟩
    by_cases hji : j = i
    · subst hji
      rw [List.getElem?_set_self (by
        have := (List.getElem?_eq_some_iff.mp hj).1
        rwa [List.length_set] at this)] at hj
      cases hj
      exact absurd rfl hw'
    · rw [List.getElem?_set_ne (Ne.symm hji)] at hj
      refine ⟨h'.2.2 (j, aw_cv ad w) (List.mem_cons_of_mem _ (List.mem_filter.mpr ⟨aw_pairs_in hj hw', ?_⟩)), (hl.2.2 j w hj hw').2⟩
      have e1 : (j == i) = false := by simp [hji]
      have e2 : (j + 1 == i && (aw_cv ad w).category == 2) = false := by
        by_cases e : j + 1 = i
        · subst e
          simp only [aw_low, hj] at hlow
          rw [aw_cat]
          have : w.category = 1 := by simpa using hlow
          simp [this]
        · simp [e]
      simp [e1, e2]
/-- a call that has run, consumed -/
theorem aw_run {l : Launch} {D : va_G} {cT : FieldType → ClassId} {p : Program} {e : Env} {s : State} {m : MethodId} {args : Array Value} {below : List Frame} {meth : Method} {c : Code} {ad0 ad : Nat → Nat} {A : Nat → Prop} {H : Heap} {locs : List Loc} {ls : Array Slot} {a : Array Value} {S' st0 : List Value} {mc' ms' : Nat} {R : Po}
    (hr : vx_Run p l e (aw_R d mc ms) s m args below meth c H locs cs ss mc' ms' (F0 m pc ls st0) (S'.map (aw_cv ad)) (aw_Qc D cT (va_A (aw_ws cT ad h k) H.size) ad k R a) (aw_Xc D cT (va_A (aw_ws cT ad h k) H.size) ad k R) (va_A (aw_ws cT ad h k) H.size))
    (hC : aw_Cx Z μ l p s m args meth c ad0 A) (ha : ∀ i, i < k0 → ad i = ad0 i) (hk : k0 ≤ k) (hS : va_S A s.heap H locs) (hw : aw_Wo D cT A ad h k H s) (hl : aw_Lv μ.2.2.1 ad k ls L) (hs : ∀ v ∈ S', aw_ok k v)
    (K : ∀ (v : Option Value) (h' : Hp) (k' : Nat), R (.inl v) h' k' → AW Z μ d k0 mc ms Q (pc + 3) L (v.toList ++ S') h' k' (cs + mc') (ss + ms'))
    (KX : ∀ (E : String) (h' : Hp) (k' : Nat), R (.inr E) h' k' → AX Z μ d k0 mc ms Q E pc L h' k' (cs + mc') (ss + ms')) :
    W p l e (aw_R d mc ms) s m args below meth c H locs cs ss (vx_MQ below (aw_Qc D cT A ad0 k0 Q) (aw_Xc D cT A ad0 k0 Q) args s mc ms A) (F0 m pc ls st0) := by
  have hF := aw_free hw hS hC.2.2.2.2.2.2.2.2.2.2.1
  intro T hT X
  rcases hr T hT X with ⟨v, st₀, t, T', Lc, h0, X', hL, e1, e2, ⟨⟨v', h', k', ad', ev, hR, g1, g2, g3, g4⟩, hFr⟩, st⟩ | ⟨q, st₀, t, T', Lc, E, ce, h0, X', hL, e1, e2, ⟨⟨h', k', ad', hR, g1, g2, g4⟩, hFr⟩, hce, hcv, hcl, st⟩
  · cases ev
    obtain ⟨k1, k2, k3⟩ := vx_keep h0 e1 hS (fun q _ z => hF q z) hF hL hFr
    rw [← e1] at g4
    have hvm : s.vm.Alike t.vm := by rw [← e2]; exact X'.warmed.alike
    have hW := K v' h' k' hR l D cT p e s m args below meth c ad0 ad' A T'.heap (locs ++ Lc) ls hC (fun i hi => (g1 i (Nat.lt_of_lt_of_le hi hk)).trans (ha i hi)) (Nat.le_trans hk g2) k3 (aw_back g4 hvm hF) (aw_Lv_to hl g1 g2) (fun w hw9 => by
      rcases List.mem_append.mp hw9 with z | z
      · exact g3 w (Option.mem_toList.mp z)
      · exact aw_ok_le (hs w z) g2)
    rw [List.map_append, aw_map_to hs g1] at hW
    have e5 : v'.toList.map (aw_cv ad') = (v'.map (aw_cv ad')).toList := by cases v' <;> rfl
    rw [e5] at hW
    obtain ⟨t2, a1, b1⟩ := hW T' rfl X'
    exact ⟨t2, st t2 a1, b1⟩
  · obtain ⟨k1, k2, k3⟩ := vx_keep h0 e1 hS (fun q _ z => hF q z) hF hL hFr
    rw [← e1] at g4
    have hvm : s.vm.Alike t.vm := by rw [← e2]; exact X'.warmed.alike
    obtain ⟨t2, a1, b1⟩ := KX E h' k' hR l D cT p e s m args below meth c ad0 ad' A T'.heap (locs ++ Lc) ls q ce (S'.map (aw_cv ad)) hC (fun i hi => (g1 i (Nat.lt_of_lt_of_le hi hk)).trans (ha i hi)) (Nat.le_trans hk g2) k3 (aw_back g4 hvm hF) (aw_Lv_to hl g1 g2) (by rw [e1]; exact hce) hcv hcl T' rfl X'
    exact ⟨t2, st.trans a1, b1⟩
/-- what the tables say of a method that is called: no handlers, its code, its class, so many parameters -/
def aw_mok (μ' : Mt) (n : Nat) : Prop := μ'.2.2.2.2 = [] ∧ aw_cw μ' ∈ lw_tbl ∧ Cond.initialized μ'.1.cls ∈ lw_tbl ∧ (μ'.1.cls ≠ "java/lang/invoke/MethodHandle" ∧ μ'.1.cls ≠ "java/lang/invoke/VarHandle") ∧ (parseMethodDescriptor μ'.1.desc).map (fun d => d.parameters.length) = some n ∧ μ'.2.2.1 ≤ 22
theorem aw_callB {μ' : Mt} {d' n index mc' ms' : Nat} {s : State} {args : Array Value} {A : Nat → Prop} (hm : aw_mok μ' n) (hg : aw_GF A s) (hd : d' + 1 ≤ d) (hlink : (Cond.methodLink μ.1.cls index μ'.1).before args s = true) :
    CallB (aw_R d mc ms) s args μ.1.cls index μ'.1 μ'.2.1 μ'.2.2.1 μ'.2.2.2.1 [aw_cw μ'] (aw_R d' mc' ms') mc' ms' n := by
  obtain ⟨m1, m2, m3, m4, m5, m6⟩ := hm
  have hcw : aw_cw μ' = .code μ'.1 μ'.2.1 μ'.2.2.1 μ'.2.2.2.1 := by unfold aw_cw; rw [m1]
  refine ⟨rfl, rfl, ?_, ?_, fun w hw a' U hW => ?_, ?_, ?_, aw_hts hg m3 rfl, m4, fun sig h => ?_, hlink⟩
  · show d' + 20 + 1 ≤ d + 20; omega
  · show 8 + (μ'.2.2.1 + 11) + (41 * d' + 852) ≤ 41 * d + 852; omega
  · rw [List.mem_singleton] at hw
    rw [hw]
    exact aw_stable (by rw [hcw]; rfl) hW (hg.1 _ m2 (by rw [hcw]; rfl))
  · rw [hcw]; exact List.mem_singleton.mpr rfl
  · rw [← hcw]; exact aw_hts hg m2 (by rw [hcw]; rfl)
  · rw [h] at m5; exact (Option.some.inj m5).symm
theorem aw_stW {S' : List Value} {ad : Nat → Nat} {m : MethodId} {ls : Array Slot} {st0 : List Value} (h : (S'.map fun v => v.category).sum ≤ 8) : 2 * (F0 m pc ls st0).monitorRoom + ((S'.map (aw_cv ad)).map fun v => v.category).sum ≤ 8 := by
  have e : ((S'.map (aw_cv ad)).map fun v => v.category) = S'.map fun v => v.category := by
    rw [List.map_map]
    exact List.map_congr_left fun v _ => aw_cat ad v
  rw [e]
  exact lv_room h
theorem aw_rev {as S' : List Value} {ad : Nat → Nat} (hS : S = as.reverse ++ S') : S.map (aw_cv ad) = (as.map (aw_cv ad)).reverse ++ S'.map (aw_cv ad) := by
  rw [hS, List.map_append, List.map_reverse]
theorem AW.callS {μ' : Mt} {d' mc' ms' index n : Nat} {as S' : List Value} {R : Po} (hd : decode μ.2.1 pc = .ok (.invokestatic index, 3)) (hM : AM μ' d' as h k mc' ms' R) (hm : aw_mok μ' n) (hst : Cond.static μ'.1 ∈ lw_tbl) (hlink : Cond.methodLink μ.1.cls index μ'.1 ∈ lw_tbl) (hn : as.length = n) (hd' : d' + 1 ≤ d) (hS2 : S = as.reverse ++ S') (hcat : (S'.map fun v => v.category).sum ≤ 8) (hcs : cs + mc' ≤ mc) (hss : ss + ms' ≤ ms)
    (K : ∀ (v : Option Value) (h' : Hp) (k' : Nat), R (.inl v) h' k' → AW Z μ d k0 mc ms Q (pc + 3) L (v.toList ++ S') h' k' (cs + mc') (ss + ms'))
    (KX : ∀ (E : String) (h' : Hp) (k' : Nat), R (.inr E) h' k' → AX Z μ d k0 mc ms Q E pc L h' k' (cs + mc') (ss + ms')) : AW Z μ d k0 mc ms Q pc L S h k cs ss := by
  intro l D cT p e s m args below meth c ad0 ad A H locs ls hC ha hk hS hw hl hs
  have hg := hC.2.2.2.2.2.2.2.2.2.1
  have hok : ∀ v ∈ as, aw_ok k v := fun v hv => hs v (by rw [hS2]; exact List.mem_append_left _ (List.mem_reverse.mpr hv))
  have hok2 : ∀ v ∈ S', aw_ok k v := fun v hv => hs v (by rw [hS2]; exact List.mem_append_right _ hv)
  have hr := vx_runS (e := e) (below := below) (meth := meth) (As := as.map (aw_cv ad)) (rest := S'.map (aw_cv ad)) (Ts := []) (locs := locs) (cells := cs) (slots := ss) (g := F0 m pc ls (S.map (aw_cv ad))) (nL := μ.2.2.1) ⟨hC.2.1, hC.2.2.1, hC.2.2.2.1, hC.2.2.2.2.2.2.2.1, fun w h => nomatch h⟩ (hM l D cT ad H.size hC.1) ⟨aw_callB (μ := μ) (d := d) (mc := mc) (ms := ms) (d' := d') (mc' := mc') (ms' := ms') hm hg hd' (aw_hts hg hlink rfl), aw_hts (args := args) hg hst rfl⟩ ⟨aw_blind, aw_pre hw hS hC.2.2.2.2.2.2.2.2.2.2.1 hg hok⟩
    rfl (by rw [List.length_map]; exact hn) hl.1 (aw_rev hS2) (aw_stW hcat) hd ⟨hcs, hss⟩
  exact aw_run hr hC ha hk hS hw hl hok2 K KX
theorem AW.callV {μ' : Mt} {d' mc' ms' index n i ci : Nat} {q : vw_C} {fs as S' : List Value} {R : Po} (hd : decode μ.2.1 pc = .ok (.invokevirtual index, 3)) (hM : AM μ' d' (.ref i :: as) h k mc' ms' R) (hm : aw_mok μ' n) (hin : Cond.instanceMethod μ'.1 ∈ lw_tbl) (hsel : Cond.selects μ'.1.cls μ'.1 μ'.1 ∈ lw_tbl) (hlink : Cond.methodLink μ.1.cls index μ'.1 ∈ lw_tbl)
    (h0 : 0 < i) (hh : h i = .inr (ci, fs)) (hc : aw_cl[ci]? = some q) (hq : q.1 = μ'.1.cls) (hn : as.length = n) (hd' : d' + 1 ≤ d) (hS2 : S = as.reverse ++ .ref i :: S') (hcat : (S'.map fun v => v.category).sum ≤ 8) (hcs : cs + mc' ≤ mc) (hss : ss + ms' ≤ ms)
    (K : ∀ (v : Option Value) (h' : Hp) (k' : Nat), R (.inl v) h' k' → AW Z μ d k0 mc ms Q (pc + 3) L (v.toList ++ S') h' k' (cs + mc') (ss + ms'))
    (KX : ∀ (E : String) (h' : Hp) (k' : Nat), R (.inr E) h' k' → AX Z μ d k0 mc ms Q E pc L h' k' (cs + mc') (ss + ms')) : AW Z μ d k0 mc ms Q pc L S h k cs ss := by
  intro l D cT p e s m args below meth c ad0 ad A H locs ls hC ha hk hS hw hl hs
  have hg := hC.2.2.2.2.2.2.2.2.2.1
  have hik : i < k := hs (.ref i) (by rw [hS2]; exact List.mem_append_right _ List.mem_cons_self)
  have hok : ∀ v ∈ Value.ref i :: as, aw_ok k v := fun v hv => by
    rcases List.mem_cons.mp hv with rfl | hv
    · exact hik
    · exact hs v (by rw [hS2]; exact List.mem_append_left _ (List.mem_reverse.mpr hv))
  have hok2 : ∀ v ∈ S', aw_ok k v := fun v hv => hs v (by rw [hS2]; exact List.mem_append_right _ (List.mem_cons_of_mem _ hv))
  have hr := vx_runV (e := e) (below := below) (meth := meth) (As := as.map (aw_cv ad)) (rest := S'.map (aw_cv ad)) (b := ad i) (C := μ'.1.cls) (Ts := []) (locs := locs) (cells := cs) (slots := ss) (g := F0 m pc ls (S.map (aw_cv ad))) (nL := μ.2.2.1) ⟨hC.2.1, hC.2.2.1, hC.2.2.2.1, hC.2.2.2.2.2.2.2.1, fun w h => nomatch h⟩ (hM l D cT ad H.size hC.1) ⟨aw_callB (μ := μ) (d := d) (mc := mc) (ms := ms) (d' := d') (mc' := mc') (ms' := ms') hm hg hd' (aw_hts hg hlink rfl), aw_hts (args := args) hg hin rfl, aw_hts hg hsel rfl⟩
    ⟨aw_blind, by rw [← hq]; exact va_recv hw.2.2.1 hw.1 hc (aw_at_obj h0 hik hh), aw_pre hw hS hC.2.2.2.2.2.2.2.2.2.2.1 hg hok⟩
    rfl (by rw [List.length_map]; exact hn) hl.1 (by show S.map _ = _; rw [hS2, List.map_append, List.map_reverse]; rfl) (aw_stW hcat) hd ⟨hcs, hss⟩
  exact aw_run hr hC ha hk hS hw hl hok2 K KX
/-- a callee that never throws -/
theorem aw_met {l : Launch} {y : MethodName} {ws : List Cond} {rm : Room} {Pc : Array Value → State → Prop} {Qc : Array Value → State → Outcome → State → Prop} {XC : String → State → State → Prop} {mc ms : Nat} {free : Addr → Prop} (hM : vx_Met l y ws rm Pc Qc XC mc ms free) (hX : ∀ E st t, ¬ XC E st t) : Met l y ws rm Pc Qc mc ms free := by
  intro p e ha hc hk s m args below hf happ hP hK
  obtain ⟨n, o, h1, h2, h3, h4⟩ := hM p e ha hc hk s m args below hf happ hP hK
  rcases h4 with h4 | ⟨q, rfl, E, ce, L, hx, -⟩
  · exact ⟨n, o, h1, h2, h3, h4⟩
  · exact absurd hx (hX _ _ _)
theorem aw_unrun {l : Launch} {p : Program} {e : Env} {R : Room} {s : State} {m : MethodId} {args : Array Value} {below : List Frame} {meth : Method} {c : Code} {H : Heap} {locs : List Loc} {cells slots mc ms : Nat} {g : JFrame} {rest : List Value} {Qa : State → Outcome → State → Prop} {XC : String → State → State → Prop} {free : Addr → Prop}
    (hr : va_Run p l e R s m args below meth c H locs cells slots mc ms g rest Qa free) : vx_Run p l e R s m args below meth c H locs cells slots mc ms g rest Qa XC free := fun T hT X => Or.inl (hr T hT X)
theorem AW.callI {μ' : Mt} {d' mc' ms' index n i : Nat} {as S' : List Value} {R : Po} (hd : decode μ.2.1 pc = .ok (.invokespecial index, 3)) (hM : AM μ' d' (.ref i :: as) h k mc' ms' R) (hm : aw_mok μ' n) (hin : Cond.instanceMethod μ'.1 ∈ lw_tbl) (hnm : μ'.1.name = "<init>") (hret : μ'.2.2.2.1 = none) (hlink : Cond.methodLink μ.1.cls index μ'.1 ∈ lw_tbl)
    (hn : as.length = n) (hd' : d' + 1 ≤ d) (hS2 : S = as.reverse ++ .ref i :: S') (hcat : (S'.map fun v => v.category).sum ≤ 8) (hcs : cs + mc' ≤ mc) (hss : ss + ms' ≤ ms) (hX : ∀ E h' k', ¬ R (.inr E) h' k')
    (K : ∀ (v : Option Value) (h' : Hp) (k' : Nat), R (.inl v) h' k' → AW Z μ d k0 mc ms Q (pc + 3) L (v.toList ++ S') h' k' (cs + mc') (ss + ms')) : AW Z μ d k0 mc ms Q pc L S h k cs ss := by
  intro l D cT p e s m args below meth c ad0 ad A H locs ls hC ha hk hS hw hl hs
  have hg := hC.2.2.2.2.2.2.2.2.2.1
  have hik : i < k := hs (.ref i) (by rw [hS2]; exact List.mem_append_right _ List.mem_cons_self)
  have hok : ∀ v ∈ Value.ref i :: as, aw_ok k v := fun v hv => by
    rcases List.mem_cons.mp hv with rfl | hv
    · exact hik
    · exact hs v (by rw [hS2]; exact List.mem_append_left _ (List.mem_reverse.mpr hv))
  have hok2 : ∀ v ∈ S', aw_ok k v := fun v hv => hs v (by rw [hS2]; exact List.mem_append_right _ (List.mem_cons_of_mem _ hv))
  have hMM := aw_met (hM l D cT ad H.size hC.1) (fun E st t hx => by obtain ⟨⟨h', k', ad', hx, -⟩, -⟩ := hx; exact hX _ _ _ hx)
  have hcb := aw_callB (μ := μ) (d := d) (mc := mc) (ms := ms) (d' := d') (mc' := mc') (ms' := ms') hm hg hd' (aw_hts (args := args) hg hlink rfl)
  rw [hret] at hcb
  have hr := va_runI (e := e) (below := below) (meth := meth) (As := as.map (aw_cv ad)) (rest := S'.map (aw_cv ad)) (b := ad i) (Ts := []) (locs := locs) (cells := cs) (slots := ss) (g := F0 m pc ls (S.map (aw_cv ad))) (nL := μ.2.2.1) ⟨hC.2.1, hC.2.2.1, hC.2.2.2.1, hC.2.2.2.2.2.2.2.1, fun w h => nomatch h⟩ hMM ⟨hcb, hnm, aw_hts hg hin rfl⟩
    ⟨aw_blind, aw_pre hw hS hC.2.2.2.2.2.2.2.2.2.2.1 hg hok⟩
    rfl (by rw [List.length_map]; exact hn) hl.1 (by show S.map _ = _; rw [hS2, List.map_append, List.map_reverse]; rfl) (aw_stW hcat) hd ⟨hcs, hss⟩
  exact aw_run (aw_unrun hr) hC ha hk hS hw hl hok2 K (fun E h' k' hx => absurd hx (hX _ _ _))
end Rows4
end
section
/-! AW: methods with handlers, nest mates, throws, Object.<init>, System.arraycopy -/
set_option maxHeartbeats 4000000 in
theorem AM.introH {μ : Mt} {d n : Nat} {as L : List Value} {h : Hp} {k mc ms : Nat} {Q : Po} (hy : plainName μ.1.cls = true) (hcw : aw_cw μ = .codeWith μ.1 μ.2.1 μ.2.2.1 μ.2.2.2.1 μ.2.2.2.2) (hn : (aw_loc as).length + n = μ.2.2.1) (hL : aw_loc as ++ List.replicate n .null = L)
    (K : AW aw_Z0 μ d k mc ms Q 0 L [] h k 0 0) : AM μ d as h k mc ms Q := by
  intro l D cT ad sz hl
  refine vx_ofWH (cc := μ.2.1) (maxL := μ.2.2.1) (ret := μ.2.2.2.1) (hh := μ.2.2.2.2) (ws' := []) hy (by rw [hcw]) ?_
  intro p e s m args below meth c s₁ B hml hv
  obtain ⟨rfl, hsz, hok, hw, hg⟩ := hv
  subst hsz
  have hnm := (name_of_methodNamed B.named B.method).1
  have htb := vx_table (x := μ.1) B (atoms_spec (ws := [aw_cw μ]) B.pre (.codeWith μ.1 μ.2.1 μ.2.2.1 μ.2.2.2.1 μ.2.2.2.2) (by rw [hcw]; exact List.mem_cons_self))
  rw [lg_entry_eq]
  exact K l D cT p e s m _ below meth c ad ad _ s.heap [] _ ⟨hl, B.exec, B.bytes, hml, B.returns, B.notSynchronized, hnm, findClass_of_methodNamed B.named, htb, hg, fun q hq => Or.inr hq, trivial⟩ (fun _ _ => rfl) (Nat.le_refl _) va_S.rf hw (aw_entry hn hL hok) (fun v hv => nomatch hv)
section Rows5
variable {Z : Gz} {μ : Mt} {d k0 mc ms : Nat} {Q : Po} {pc : Nat} {L S : List Value} {h : Hp} {k cs ss : Nat}
def aw_mokH (μ' : Mt) (n : Nat) : Prop := aw_cw μ' = .codeWith μ'.1 μ'.2.1 μ'.2.2.1 μ'.2.2.2.1 μ'.2.2.2.2 ∧ aw_cw μ' ∈ lw_tbl ∧ Cond.initialized μ'.1.cls ∈ lw_tbl ∧ (μ'.1.cls ≠ "java/lang/invoke/MethodHandle" ∧ μ'.1.cls ≠ "java/lang/invoke/VarHandle") ∧ (parseMethodDescriptor μ'.1.desc).map (fun d => d.parameters.length) = some n ∧ μ'.2.2.1 ≤ 22
theorem AW.callSH {μ' : Mt} {d' mc' ms' index n : Nat} {as S' : List Value} {R : Po} (hd : decode μ.2.1 pc = .ok (.invokestatic index, 3)) (hM : AM μ' d' as h k mc' ms' R) (hm : aw_mokH μ' n) (hst : Cond.static μ'.1 ∈ lw_tbl) (hlink : Cond.methodLink μ.1.cls index μ'.1 ∈ lw_tbl) (hn : as.length = n) (hd' : d' + 1 ≤ d) (hS2 : S = as.reverse ++ S') (hcat : (S'.map fun v => v.category).sum ≤ 8) (hcs : cs + mc' ≤ mc) (hss : ss + ms' ≤ ms)
    (K : ∀ (v : Option Value) (h' : Hp) (k' : Nat), R (.inl v) h' k' → AW Z μ d k0 mc ms Q (pc + 3) L (v.toList ++ S') h' k' (cs + mc') (ss + ms'))
    (KX : ∀ (E : String) (h' : Hp) (k' : Nat), R (.inr E) h' k' → AX Z μ d k0 mc ms Q E pc L h' k' (cs + mc') (ss + ms')) : AW Z μ d k0 mc ms Q pc L S h k cs ss := by
  intro l D cT p e s m args below meth c ad0 ad A H locs ls hC ha hk hS hw hl hs
  have hg := hC.2.2.2.2.2.2.2.2.2.1
  have hok : ∀ v ∈ as, aw_ok k v := fun v hv => hs v (by rw [hS2]; exact List.mem_append_left _ (List.mem_reverse.mpr hv))
  have hok2 : ∀ v ∈ S', aw_ok k v := fun v hv => hs v (by rw [hS2]; exact List.mem_append_right _ hv)
  obtain ⟨m1, m2, m3, m4, m5, m6⟩ := hm
  have hcw : vx_CSW (aw_R d mc ms) s args μ.1.cls index μ'.1 μ'.2.1 μ'.2.2.1 μ'.2.2.2.1 μ'.2.2.2.2 [aw_cw μ'] (aw_R d' mc' ms') mc' ms' n := by
    refine ⟨⟨rfl, rfl, ?_, ?_, fun w hw a' U hW => ?_, ?_⟩, ?_, aw_hts hg m3 rfl, m4, fun sig h => ?_, aw_hts hg hlink rfl, aw_hts hg hst rfl⟩
    · show d' + 20 + 1 ≤ d + 20; omega
    · show 8 + (μ'.2.2.1 + 11) + (41 * d' + 852) ≤ 41 * d + 852; omega
    · rw [List.mem_singleton] at hw
      rw [hw]
      exact aw_stable (by rw [m1]; rfl) hW (hg.1 _ m2 (by rw [m1]; rfl))
    · rw [m1]; exact List.mem_singleton.mpr rfl
    · rw [← m1]; exact aw_hts hg m2 (by rw [m1]; rfl)
    · rw [h] at m5; exact (Option.some.inj m5).symm
  have hr := vx_runSX (e := e) (below := below) (meth := meth) (As := as.map (aw_cv ad)) (rest := S'.map (aw_cv ad)) (Ts := []) (locs := locs) (cells := cs) (slots := ss) (g := F0 m pc ls (S.map (aw_cv ad))) (nL := μ.2.2.1) ⟨hC.2.1, hC.2.2.1, hC.2.2.2.1, hC.2.2.2.2.2.2.2.1, fun w h => nomatch h⟩ (hM l D cT ad H.size hC.1) hcw ⟨aw_blind, aw_pre hw hS hC.2.2.2.2.2.2.2.2.2.2.1 hg hok⟩
    rfl (by rw [List.length_map]; exact hn) hl.1 (aw_rev hS2) (aw_stW hcat) hd ⟨hcs, hss⟩
  exact aw_run hr hC ha hk hS hw hl hok2 K KX
theorem aw_callN {μ' : Mt} {d' n index mc' ms' : Nat} {host : String} {s : State} {args : Array Value} {A : Nat → Prop} (hm : aw_mok μ' n) (hg : aw_GF A s) (hd : d' + 1 ≤ d) (hlink : (Cond.methodLinkNest μ.1.cls index μ'.1 host).before args s = true) :
    va_CN (aw_R d mc ms) s args μ.1.cls index μ'.1 host μ'.2.1 μ'.2.2.1 μ'.2.2.2.1 [aw_cw μ'] (aw_R d' mc' ms') mc' ms' n := by
  obtain ⟨m1, m2, m3, m4, m5, m6⟩ := hm
  have hcw : aw_cw μ' = .code μ'.1 μ'.2.1 μ'.2.2.1 μ'.2.2.2.1 := by unfold aw_cw; rw [m1]
  refine ⟨⟨rfl, rfl, ?_, ?_, fun w hw a' U hW => ?_, ?_⟩, ?_, aw_hts hg m3 rfl, m4, fun sig h => ?_, hlink⟩
  · show d' + 20 + 1 ≤ d + 20; omega
  · show 8 + (μ'.2.2.1 + 11) + (41 * d' + 852) ≤ 41 * d + 852; omega
  · rw [List.mem_singleton] at hw
    rw [hw]
    exact aw_stable (by rw [hcw]; rfl) hW (hg.1 _ m2 (by rw [hcw]; rfl))
  · rw [hcw]; exact List.mem_singleton.mpr rfl
  · rw [← hcw]; exact aw_hts hg m2 (by rw [hcw]; rfl)
  · rw [h] at m5; exact (Option.some.inj m5).symm
theorem AW.callSN {μ' : Mt} {d' mc' ms' index n : Nat} {host : String} {as S' : List Value} {R : Po} (hd : decode μ.2.1 pc = .ok (.invokestatic index, 3)) (hM : AM μ' d' as h k mc' ms' R) (hm : aw_mok μ' n) (hst : Cond.static μ'.1 ∈ lw_tbl) (hlink : Cond.methodLinkNest μ.1.cls index μ'.1 host ∈ lw_tbl) (hn : as.length = n) (hd' : d' + 1 ≤ d) (hS2 : S = as.reverse ++ S') (hcat : (S'.map fun v => v.category).sum ≤ 8) (hcs : cs + mc' ≤ mc) (hss : ss + ms' ≤ ms) (hX : ∀ E h' k', ¬ R (.inr E) h' k')
    (K : ∀ (v : Option Value) (h' : Hp) (k' : Nat), R (.inl v) h' k' → AW Z μ d k0 mc ms Q (pc + 3) L (v.toList ++ S') h' k' (cs + mc') (ss + ms')) : AW Z μ d k0 mc ms Q pc L S h k cs ss := by
  intro l D cT p e s m args below meth c ad0 ad A H locs ls hC ha hk hS hw hl hs
  have hg := hC.2.2.2.2.2.2.2.2.2.1
  have hok : ∀ v ∈ as, aw_ok k v := fun v hv => hs v (by rw [hS2]; exact List.mem_append_left _ (List.mem_reverse.mpr hv))
  have hok2 : ∀ v ∈ S', aw_ok k v := fun v hv => hs v (by rw [hS2]; exact List.mem_append_right _ hv)
  have hMM := aw_met (hM l D cT ad H.size hC.1) (fun E st t hx => by obtain ⟨⟨h', k', ad', hx, -⟩, -⟩ := hx; exact hX _ _ _ hx)
  have hr := va_runSN (e := e) (below := below) (meth := meth) (As := as.map (aw_cv ad)) (rest := S'.map (aw_cv ad)) (Ts := []) (locs := locs) (cells := cs) (slots := ss) (g := F0 m pc ls (S.map (aw_cv ad))) (nL := μ.2.2.1) ⟨hC.2.1, hC.2.2.1, hC.2.2.2.1, hC.2.2.2.2.2.2.2.1, fun w h => nomatch h⟩ hMM ⟨aw_callN (μ := μ) (d := d) (mc := mc) (ms := ms) (d' := d') (mc' := mc') (ms' := ms') hm hg hd' (aw_hts (args := args) hg hlink rfl), aw_hts (args := args) hg hst rfl, trivial⟩ ⟨aw_blind, aw_pre hw hS hC.2.2.2.2.2.2.2.2.2.2.1 hg hok⟩
    rfl (by rw [List.length_map]; exact hn) hl.1 (aw_rev hS2) (aw_stW hcat) hd ⟨hcs, hss⟩
  exact aw_run (aw_unrun hr) hC ha hk hS hw hl hok2 K (fun E h' k' hx => absurd hx (hX _ _ _))
theorem AW.callIN {μ' : Mt} {d' mc' ms' index n i : Nat} {host : String} {as S' : List Value} {R : Po} (hd : decode μ.2.1 pc = .ok (.invokespecial index, 3)) (hM : AM μ' d' (.ref i :: as) h k mc' ms' R) (hm : aw_mok μ' n) (hin : Cond.instanceMethod μ'.1 ∈ lw_tbl) (hnm : μ'.1.name = "<init>") (hret : μ'.2.2.2.1 = none) (hlink : Cond.methodLinkNest μ.1.cls index μ'.1 host ∈ lw_tbl)
    (hn : as.length = n) (hd' : d' + 1 ≤ d) (hS2 : S = as.reverse ++ .ref i :: S') (hcat : (S'.map fun v => v.category).sum ≤ 8) (hcs : cs + mc' ≤ mc) (hss : ss + ms' ≤ ms) (hX : ∀ E h' k', ¬ R (.inr E) h' k')
    (K : ∀ (v : Option Value) (h' : Hp) (k' : Nat), R (.inl v) h' k' → AW Z μ d k0 mc ms Q (pc + 3) L (v.toList ++ S') h' k' (cs + mc') (ss + ms')) : AW Z μ d k0 mc ms Q pc L S h k cs ss := by
  intro l D cT p e s m args below meth c ad0 ad A H locs ls hC ha hk hS hw hl hs
  have hg := hC.2.2.2.2.2.2.2.2.2.1
  have hik : i < k := hs (.ref i) (by rw [hS2]; exact List.mem_append_right _ List.mem_cons_self)
  have hok : ∀ v ∈ Value.ref i :: as, aw_ok k v := fun v hv => by
    rcases List.mem_cons.mp hv with rfl | hv
    · exact hik
    · exact hs v (by rw [hS2]; exact List.mem_append_left _ (List.mem_reverse.mpr hv))
  have hok2 : ∀ v ∈ S', aw_ok k v := fun v hv => hs v (by rw [hS2]; exact List.mem_append_right _ (List.mem_cons_of_mem _ hv))
  have hMM := aw_met (hM l D cT ad H.size hC.1) (fun E st t hx => by obtain ⟨⟨h', k', ad', hx, -⟩, -⟩ := hx; exact hX _ _ _ hx)
  have hcb := aw_callN (μ := μ) (d := d) (mc := mc) (ms := ms) (d' := d') (mc' := mc') (ms' := ms') hm hg hd' (aw_hts (args := args) hg hlink rfl)
  rw [hret] at hcb
  have hr := va_runIN (e := e) (below := below) (meth := meth) (As := as.map (aw_cv ad)) (rest := S'.map (aw_cv ad)) (b := ad i) (Ts := []) (locs := locs) (cells := cs) (slots := ss) (g := F0 m pc ls (S.map (aw_cv ad))) (nL := μ.2.2.1) ⟨hC.2.1, hC.2.2.1, hC.2.2.2.1, hC.2.2.2.2.2.2.2.1, fun w h => nomatch h⟩ hMM ⟨hcb, hnm, aw_hts hg hin rfl⟩
    ⟨aw_blind, aw_pre hw hS hC.2.2.2.2.2.2.2.2.2.2.1 hg hok⟩
    rfl (by rw [List.length_map]; exact hn) hl.1 (by show S.map _ = _; rw [hS2, List.map_append, List.map_reverse]; rfl) (aw_stW hcat) hd ⟨hcs, hss⟩
  exact aw_run (aw_unrun hr) hC ha hk hS hw hl hok2 K (fun E h' k' hx => absurd hx (hX _ _ _))
theorem AW.objInit {i index : Nat} (hd : decode μ.2.1 pc = .ok (.invokespecial index, 3)) (hlink : Cond.methodLink μ.1.cls index objectInit ∈ lw_tbl) (hin : Cond.instanceMethod objectInit ∈ lw_tbl) (hcode : Cond.code objectInit ⟨#[0xb1]⟩ 1 none ∈ lw_tbl) (hcat : (S.map fun v => v.category).sum ≤ 8)
    (K : AW Z μ d k0 mc ms Q (pc + 3) L S h k cs ss) : AW Z μ d k0 mc ms Q pc L (.ref i :: S) h k cs ss := by
  intro l D cT p e s m args below meth c ad0 ad A H locs ls hC ha hk hS hw hl hs
  have hg := hC.2.2.2.2.2.2.2.2.2.1
  have h8 := aw_stW (m := m) (pc := pc) (ls := ls) (st0 := []) (ad := ad) hcat
  refine W.objInit hC.2.1 hC.2.2.1 hC.2.2.2.2.2.2.2.1 (aw_hts hg hlink rfl) (aw_hts hg hin rfl) (aw_hts hg hcode rfl) rfl (by rw [hC.2.2.2.1]; exact hl.1) rfl hd (by show 1 ≤ d + 20; omega) ?_ ?_
  · have h9 : 2 * (F0 m pc ls []).monitorRoom + ((S.map (aw_cv ad)).map fun v => v.category).sum ≤ 8 := h8
    show 2 * (F0 m pc ls []).monitorRoom + ((S.map (aw_cv ad)).map fun v => v.category).sum + 12 ≤ 41 * d + 852
    omega
  · exact K l D cT p e s m args below meth c ad0 ad A H locs ls hC ha hk hS hw hl (aw_ok_tail hs)
/-- 'throw new E("text")', E one of the three, in a method without handlers -/
theorem AW.throwS {E text : String} {names : List String} {ik is ic : Nat} (d0 : decode μ.2.1 pc = .ok (.new ik, 3)) (d3 : decode μ.2.1 (pc + 3) = .ok (.dup, 1)) (d4 : decode μ.2.1 (pc + 4) = .ok (.ldc is, 2)) (d6 : decode μ.2.1 (pc + 6) = .ok (.invokespecial ic, 3)) (d9 : decode μ.2.1 (pc + 9) = .ok (.athrow, 1))
    (hh : μ.2.2.2.2 = []) (hfit : Bundle.fit E = true) (hnames : ∀ n ∈ names, Bundle.fit n = true) (hlen : names.length = 2) (hk : Cond.classLink μ.1.cls ik E ∈ lw_tbl) (hini : Cond.initialized E ∈ lw_tbl) (hstr : (μ.1.cls, is, text) ∈ aw_str) (hat : ∀ w ∈ vx_atS μ.1.cls ic E names, w ∈ lw_tbl ∧ aw_okw w = true)
    (hgood : ∀ w ∈ Cond.classLink μ.1.cls ik E :: Cond.initialized E :: vx_atS μ.1.cls ic E names, vx_ot w = true) (hcat : (S.map fun v => v.category).sum ≤ 8) (hcs : cs + 1 ≤ mc) (hss : ss + 6 ≤ ms) (q : Q (.inr E) h k) : AW Z μ d k0 mc ms Q pc L S h k cs ss := by
  intro l D cT p e s m args below meth c ad0 ad A H locs ls hC ha hk2 hS hw hl hs
  have hg := hC.2.2.2.2.2.2.2.2.2.1
  obtain ⟨sa, hsa⟩ := hg.2.1 _ hstr
  have hcat2 : ((S.map (aw_cv ad)).map fun v => v.category).sum ≤ 8 := by
    have e : ((S.map (aw_cv ad)).map fun v => v.category) = S.map fun v => v.category := by
      rw [List.map_map]
      exact List.map_congr_left fun v _ => aw_cat ad v
    rw [e]; exact hcat
  refine vx_throwS (own := μ.1.cls) (cls := E) (names := names) (text := text) (sa := sa) (ik := ik) (is := is) (ic := ic) (A := A) hC.2.1 hC.2.2.1 hC.1 hC.2.2.2.2.2.2.2.1 hfit hnames (aw_hts hg hk rfl) (aw_hts hg hini rfl) hsa (fun w hw => aw_hts hg (hat w hw).1 (hat w hw).2) hgood hg.2.2.2.1 hg.2.2.2.2.1 hS (by rw [hC.2.2.2.1]; exact hl.1) d0 d3 d4 d6 d9 (fun x hx => ?_)
    (by show names.length + 3 < d + 20; omega) (by show _ + (13 * (names.length + 1) + 43) ≤ 41 * d + 852; omega) hcs hss hC.2.2.2.2.2.1 (fun t hvm hz ho => ⟨⟨h, k, ad, q, ha, hk2, ?_⟩, ?_⟩) hS.2.2 hcs hss
  · rw [hC.2.2.2.2.2.2.2.2.1, hh] at hx; cases hx
  · exact ⟨hw.1.kept (fun j x hx => ho x.1 ((hw.1 j x hx).lt)), hw.2.1, hw.2.2.1.moved hvm, hw.2.2.2⟩
  · exact ⟨Nat.le_trans hS.1 hz, fun x h1 h2 => (ho x (Nat.lt_of_lt_of_le h1 hS.1)).trans (hS.2.1 x h1 h2)⟩
theorem AW.copyi {i j n0 n1 index : Nat} {f g : Nat → Int32} {sp dp n : Int32} (hd : decode μ.2.1 pc = .ok (.invokestatic index, 3)) (hlink : Cond.methodLink μ.1.cls index arraycopyName ∈ lw_tbl) (hnat : Cond.native arraycopyName ∈ lw_tbl) (hst : Cond.static arraycopyName ∈ lw_tbl) (hini : Cond.initialized "java/lang/System" ∈ lw_tbl)
    (i0 : 0 < i) (j0 : 0 < j) (hi : h i = .inl (.int, n0, .inl f)) (hj : h j = .inl (.int, n1, .inl g)) (h1 : ¬ sp < 0) (h2 : ¬ dp < 0) (h3 : ¬ n < 0) (h4 : sp.toNatClampNeg + n.toNatClampNeg ≤ n0) (h5 : dp.toNatClampNeg + n.toNatClampNeg ≤ n1) (hcat : (S.map fun v => v.category).sum ≤ 8)
    (K : AW Z μ d k0 mc ms Q (pc + 3) L S (va_up h j (.inl (.int, n1, .inl (va_cpy f g sp.toNatClampNeg dp.toNatClampNeg n.toNatClampNeg)))) k cs ss) : AW Z μ d k0 mc ms Q pc L (.int n :: .int dp :: .ref j :: .int sp :: .ref i :: S) h k cs ss := by
  intro l D cT p e s m args below meth c ad0 ad A H locs ls hC ha hk hS hw hl hs
  have hg := hC.2.2.2.2.2.2.2.2.2.1
  have hjk : j < k := hs (.ref j) (by simp)
  have hik : i < k := hs (.ref i) (by simp)
  have hcat2 : ((S.map (aw_cv ad)).map fun v => v.category).sum ≤ 8 := by
    have e : ((S.map (aw_cv ad)).map fun v => v.category) = S.map fun v => v.category := by
      rw [List.map_map]
      exact List.map_congr_left fun v _ => aw_cat ad v
    rw [e]; exact hcat
  have hnw : nativeFrameWords "java/lang/System" "arraycopy" 5 + 11 ≤ 100 := by decide
  exact va_copyi hC.2.1 hC.2.2.1 (by rw [hC.2.2.2.1]; exact hl.1.symm) hC.2.2.2.2.2.2.2.1 (aw_hts hg hlink rfl) (aw_hts hg hnat rfl) (aw_hts hg hst rfl) (aw_hts hg hini rfl) hw.2.2.1 hw.1 hw.2.1 hS (i - 1) (j - 1) 0 0 (aw_at_arr i0 hik hi) (aw_at_arr j0 hjk hj) rfl rfl rfl h1 h2 h3 h4 h5 (fun _ _ => rfl)
    (by show 1 ≤ d + 20; omega) (by show _ + _ ≤ 41 * d + 852; omega) hd (fun H1 locs1 hP hD hS1 => K l D cT p e s m args below meth c ad0 ad A H1 locs1 ls hC ha hk hS1 (aw_Wo_set (e := .inl (.int, n1, .inl (va_cpy f g sp.toNatClampNeg dp.toNatClampNeg n.toNatClampNeg))) hw j0 hjk trivial hP hD) hl (aw_ok_tail (aw_ok_tail (aw_ok_tail (aw_ok_tail (aw_ok_tail hs))))))
end Rows5
end
section
/-! AW: rows of rows of ints, further instructions, calls of methods with handlers -/
abbrev qrow (n : Nat) (f : Nat → Option Nat) : Ce := .inl (.array .int, n, .inr (.inr (.inr (.inr f))))
abbrev irow (n : Nat) (g : Nat → Int32) : Ce := .inl (.int, n, .inl g)
theorem aw_q0 : Cond.arrayOver (.array .int) ∈ lw_tbl := by decide +kernel
theorem aw_asg (vm : Vm) (c : ClassId) : vm.assignable c c = true := by
  show vm.assignableAux (255 + 1) c c = true
  unfold Vm.assignableAux
  simp
theorem aw_AO.use {A : Array Value} {U : State} (h : aw_AO U) : (Cond.arrayOver (.array .int)).before A U = true := h
/-- what the tables say of the class of rows of rows -/
theorem aw_qk {A : Nat → Prop} {s : State} {D : va_G} {cT : FieldType → ClassId} (hg : aw_GF A s) (hK : va_K D aw_cl (aw_tys cT) s) : ∃ k kI : Class, s.vm.classes[cT (.array .int)]? = some k ∧ k.kind = .array (cT .int) (.array .int) ∧ s.vm.classes[cT .int]? = some kI := by
  obtain ⟨comp, c, k, h1, -, h3, h4, h5⟩ := arrayOverA_spec hg.2.2.2.2.2
  have e1 : c = cT (.array .int) := Option.some.inj (h5.symm.trans (hK.2 3 _ rfl).2)
  have e2 : comp = cT .int := Option.some.inj (h1.symm.trans (hK.2 0 _ rfl).2)
  subst e1; subst e2
  obtain ⟨kI, hI, -⟩ := Vm.findClass_spec h1
  exact ⟨k, kI, h3, h4, hI⟩
section Rows6
variable {Z : Gz} {μ : Mt} {d k0 mc ms : Nat} {Q : Po} {pc : Nat} {L S : List Value} {h : Hp} {k cs ss : Nat}
theorem AW.idiv {x y : Int32} (hd : decode μ.2.1 pc = .ok (.idiv, 1)) (hne : ¬ y = 0) (K : AW Z μ d k0 mc ms Q (pc + 1) L (.int (x / y) :: S) h k cs ss) : AW Z μ d k0 mc ms Q pc L (.int y :: .int x :: S) h k cs ss :=
  AW.pure (fun h _ => aw_ok_cons aw_okI (aw_ok_tail (aw_ok_tail h))) (fun _ _ _ _ _ _ _ _ _ _ _ _ _ _ _ hx hb _ _ _ q => lv_idiv hx hb hd hne q) K
theorem AW.irem {x y : Int32} (hd : decode μ.2.1 pc = .ok (.irem, 1)) (hne : ¬ y = 0) (K : AW Z μ d k0 mc ms Q (pc + 1) L (.int (x - x / y * y) :: S) h k cs ss) : AW Z μ d k0 mc ms Q pc L (.int y :: .int x :: S) h k cs ss :=
  AW.pure (fun h _ => aw_ok_cons aw_okI (aw_ok_tail (aw_ok_tail h))) (fun _ _ _ _ _ _ _ _ _ _ _ _ _ _ _ hx hb _ _ _ q => lv_irem hx hb hd hne q) K
theorem AW.ishr {x y : Int32} (hd : decode μ.2.1 pc = .ok (.ishr, 1)) (K : AW Z μ d k0 mc ms Q (pc + 1) L (.int (x >>> (y &&& 31)) :: S) h k cs ss) : AW Z μ d k0 mc ms Q pc L (.int y :: .int x :: S) h k cs ss :=
  AW.pure (fun h _ => aw_ok_cons aw_okI (aw_ok_tail (aw_ok_tail h))) (fun _ _ _ _ _ _ _ _ _ _ _ _ _ _ _ hx hb _ _ _ q => lv_ishr hx hb hd q) K
theorem AW.lload {i : Nat} {v : Int64} (hd : decode μ.2.1 pc = .ok (.lload i, 2)) (hl : L[i]? = some (.long v)) (K : AW Z μ d k0 mc ms Q (pc + 2) L (.long v :: S) h k cs ss) : AW Z μ d k0 mc ms Q pc L S h k cs ss :=
  AW.pure (fun h _ => aw_ok_cons aw_okJ h) (fun _ _ _ _ _ _ _ _ _ _ _ _ _ _ _ hx hb _ _ hL q => lv_lload hx hb hd (hL.2.2 _ _ hl (fun e => nomatch e)).1 q) K
theorem AW.lstore {i : Nat} {v : Int64} {L' : List Value} (hd : decode μ.2.1 pc = .ok (.lstore i, 2)) (hn : i + 1 < μ.2.2.1) (hlow : aw_low L i = true) (hL : (L.set i (.long v)).set (i + 1) .null = L') (K : AW Z μ d k0 mc ms Q (pc + 2) L' S h k cs ss) : AW Z μ d k0 mc ms Q pc L (.long v :: S) h k cs ss := by
  intro l D cT p e s m args below meth c ad0 ad A H locs ls hC ha hk hS hw hl hs
  refine lv_lstore (nL := μ.2.2.1) (lv := aw_pairs ad L) hC.2.1 hC.2.2.1 hd hl.has hn rfl (fun ls' h' => ?_)
  exact K l D cT p e s m args below meth c ad0 ad A H locs ls' hC ha hk hS hw (aw_store2 hl (aw_okJ) hlow hL h') (aw_ok_tail hs)
theorem AW.alenq {i n : Nat} {f : Nat → Option Nat} (hd : decode μ.2.1 pc = .ok (.arraylength, 1)) (h0 : 0 < i) (hh : h i = qrow n f) (K : AW Z μ d k0 mc ms Q (pc + 1) L (.int (Int32.ofNat n) :: S) h k cs ss) : AW Z μ d k0 mc ms Q pc L (.ref i :: S) h k cs ss := by
  intro l D cT p e s m args below meth c ad0 ad A H locs ls hC ha hk hS hw2 hl hs
  have hi : i < k := hs _ List.mem_cons_self
  exact va_alen hC.2.1 hC.2.2.1 hw2.2.2.1 hw2.1 (i - 1) 3 (aw_at_arr h0 hi hh) (ty := .array .int) rfl rfl hd (K l D cT p e s m args below meth c ad0 ad A H locs ls hC ha hk hS hw2 hl (aw_ok_cons aw_okI (aw_ok_tail hs)))
theorem AW.aald {i n j : Nat} {f : Nat → Option Nat} {x : Int32} (hd : decode μ.2.1 pc = .ok (.aaload, 1)) (h0 : 0 < i) (hh : h i = qrow n f) (hin : vp_in x n) (hj : f x.toNatClampNeg = some j) (K : AW Z μ d k0 mc ms Q (pc + 1) L (.ref j :: S) h k cs ss) : AW Z μ d k0 mc ms Q pc L (.int x :: .ref i :: S) h k cs ss := by
  intro l D cT p e s m args below meth c ad0 ad A H locs ls hC ha hk hS hw2 hl hs
  have hi : i < k := hs _ (List.mem_cons_of_mem _ List.mem_cons_self)
  have hlt : x.toNatClampNeg < n := Nat.not_le.mp fun q => hin (Or.inr q)
  have hok : aw_ok k (.ref j) := by
    have := hw2.2.2.2.2 i h0 hi
    rw [hh] at this
    exact this _ _ hj
  refine W.aald (v := .ref (ad j)) (ty := .array .int) hC.2.1 hC.2.2.1 (hw2.1 (i - 1) _ (aw_at_arr h0 hi hh)) ((hw2.2.2.1.2 3 _ rfl).1 n (fun j => va_rf ((f j).map ad))) rfl (fun q => by cases q) (by show ¬ (x < 0 ∨ (arrV _ _ _).slots.size ≤ _); rw [arrV_size]; exact hin) ?_ rfl rfl hd
    (K l D cT p e s m args below meth c ad0 ad A H locs ls hC ha hk hS hw2 hl (aw_ok_cons hok (aw_ok_tail (aw_ok_tail hs))))
  show (arrV _ n (fun j => va_rf ((f j).map ad))).slots[_]? = _
  rw [arrV_read _ _ hlt, hj]
  rfl
theorem AW.aast {i n v nv : Nat} {f : Nat → Option Nat} {gv : Nat → Int32} {x : Int32} (hd : decode μ.2.1 pc = .ok (.aastore, 1)) (h0 : 0 < i) (hh : h i = qrow n f) (v0 : 0 < v) (hv : h v = irow nv gv) (hin : vp_in x n) (K : AW Z μ d k0 mc ms Q (pc + 1) L S (va_up h i (qrow n (va_up f x.toNatClampNeg (some v)))) k cs ss) : AW Z μ d k0 mc ms Q pc L (.ref v :: .int x :: .ref i :: S) h k cs ss := by
  intro l D cT p e s m args below meth c ad0 ad A H locs ls hC ha hk hS hw2 hl hs
  have hvk : v < k := hs _ List.mem_cons_self
  have hi : i < k := hs _ (List.mem_cons_of_mem _ (List.mem_cons_of_mem _ List.mem_cons_self))
  have hlt : x.toNatClampNeg < n := Nat.not_le.mp fun q => hin (Or.inr q)
  have h1 : ¬ x < 0 := fun q => hin (Or.inl q)
  obtain ⟨kA, kI, q1, q2, q3⟩ := aw_qk hC.2.2.2.2.2.2.2.2.2.1 hw2.2.2.1
  have hcv := hw2.1 (v - 1) _ (aw_at_arr v0 hvk hv)
  refine W.aast hC.2.1 hC.2.2.1 (hw2.1 (i - 1) _ (aw_at_arr h0 hi hh)) (fun q h => by cases h) (fun h => by cases h) q1 q2 rfl q3 ⟨h1, by show _ < (arrV _ _ _).slots.size; rw [arrV_size]; exact hlt⟩ hcv (fun q h => by cases h) q3 (aw_asg _ _) rfl rfl hd fun H1 e1 z oq => ?_
  have he : va_at D aw_cl (ad i, aw_ce cT ad (qrow n (va_up f x.toNatClampNeg (some v)))) H1 := by
    show H1[ad i]? = some (vp_cell (cT (.array .int)) (n, .inr (.inr (.inr (.inr fun j => ((va_up f x.toNatClampNeg (some v)) j).map ad)))))
    rw [e1]
    show some (((vp_cell (cT (.array .int)) (n, .inr (.inr (.inr (.inr fun j => (f j).map ad))))).setSlot x.toNatClampNeg (.ref (ad v)))) = _
    rw [vp_cell_q, vp_cell_q, arrV_store]
    congr 2
    funext q
    by_cases hq : q = x.toNatClampNeg
    · subst hq
      simp [updV, va_up, va_rf]
    · simp [updV, va_up, hq]
  have hoi := hw2.2.2.2.2 i h0 hi
  rw [hh] at hoi
  refine K l D cT p e s m args below meth c ad0 ad A H1 _ ls hC ha hk (hS.put z oq (hw2.2.1.2 (i - 1) _ (aw_at_arr h0 hi hh))) (aw_Wo_set hw2 h0 hi (fun j w hw => ?_) (hw2.1.set hw2.2.1 (aw_at_arr h0 hi hh) he oq) (hw2.2.1.set (aw_at_arr h0 hi hh))) hl (aw_ok_tail (aw_ok_tail (aw_ok_tail hs)))
  simp only [va_up] at hw
  split at hw
  · cases hw; exact hvk
  · exact hoi j w hw
theorem AW.newq {index N : Nat} {n : Int32} (hd : decode μ.2.1 pc = .ok (.anewarray index, 3)) (hw : Cond.classLink μ.1.cls index (FieldType.array .int).toString ∈ lw_tbl) (hn : ¬ n < 0) (hN : n.toNatClampNeg = N) (hb : N * 4 ≤ 536870912) (hcs : cs + 1 ≤ mc) (hss : ss + N ≤ ms)
    (K : AW Z μ d k0 mc ms Q (pc + 3) L (.ref k :: S) (va_up h k (qrow N (fun _ => none))) (k + 1) (cs + 1) (ss + N)) : AW Z μ d k0 mc ms Q pc L (.int n :: S) h k cs ss := by
  intro l D cT p e s m args below meth c ad0 ad A H locs ls hC ha hk hS hw2 hl hs
  subst hN
  have hg := hC.2.2.2.2.2.2.2.2.2.1
  refine W.anewA (t := .int) hC.2.1 hC.2.2.1 hC.2.2.2.2.2.2.2.1 (aw_hts hg hw rfl) (aw_AO.use hg.2.2.2.2.2) rfl hd rfl hn hb hcs hss fun cA kA comp f1 f2 f3 f4 => ?_
  have hcA : cA = cT (.array .int) := Option.some.inj (f1.symm.trans (hw2.2.2.1.2 3 _ rfl).2)
  subst hcA
  generalize hH1 : H.push ({ cls := cT (.array .int), slots := Array.replicate n.toNatClampNeg .null, vm := .none } : Cell) = H1
  have z1 : H1.size = H.size + 1 := by rw [← hH1, Array.size_push]
  have e1 : H1[H.size]? = some (arrV (cT (.array .int)) n.toNatClampNeg (fun _ => .null)) := by rw [← hH1, Array.getElem?_push_size, ← arrV_new]
  have o1 : ∀ q : Nat, q < H.size → H1[q]? = H[q]? := fun q hq => by rw [← hH1, Array.getElem?_push, if_neg (Nat.ne_of_lt hq)]
  have hkk : ∀ (j : Nat) (x : Nat × va_E), (aw_ws cT ad h k)[j]? = some x → H1[x.1]? = H[x.1]? := fun j x hx => o1 x.1 ((hw2.1 j x hx).lt)
  have hP : va_P D aw_cl (aw_ws cT ad h k ++ [(H.size, aw_ce cT ad (qrow n.toNatClampNeg (fun _ => none)))]) H1 := by
    refine (hw2.1.kept hkk).app (fun j x hx => ?_)
    have hz : j < 1 := (List.getElem?_eq_some_iff.mp hx).1
    rw [show j = 0 by omega] at hx
    cases hx
    show H1[H.size]? = some (vp_cell (cT (.array .int)) (n.toNatClampNeg, .inr (.inr (.inr (.inr (fun _ => none))))))
    rw [e1, vp_cell_q]
    rfl
  have hK := K l D cT p e s m args below meth c ad0 (va_up ad k H.size) A H1 locs ls hC (fun i hi => by simp only [va_up, Nat.ne_of_lt (Nat.lt_of_lt_of_le hi hk), if_false]; exact ha i hi) (Nat.le_succ_of_le hk)
    ⟨Nat.le_trans hS.1 (by omega), fun x h1 h2 => (o1 x (Nat.lt_of_lt_of_le h1 hS.1)).trans (hS.2.1 x h1 h2), hS.2.2⟩ (aw_Wo_push (e := qrow n.toNatClampNeg (fun _ => none)) hw2 (show aw_oka k (n.toNatClampNeg, .inr (.inr (.inr (.inr (fun _ => none))))) from fun j i e => by cases e) hP (hw2.2.1.push hw2.1 rfl (hC.2.2.2.2.2.2.2.2.2.2.1 _ hS.1))) (aw_push_Lv hl) (aw_ok_cons (Nat.lt_succ_self k) (fun v hv => aw_ok_le (aw_ok_tail hs v hv) (Nat.le_succ _)))
  rw [List.map_cons, aw_push_cv (aw_ok_tail hs)] at hK
  have e2 : aw_cv (va_up ad k H.size) (.ref k) = .ref H.size := by simp [aw_cv, va_up]
  rw [e2] at hK
  exact hK
theorem AW.copyq {i j n0 n1 index : Nat} {f g : Nat → Option Nat} {sp dp n : Int32} (hd : decode μ.2.1 pc = .ok (.invokestatic index, 3)) (hlink : Cond.methodLink μ.1.cls index arraycopyName ∈ lw_tbl) (hnat : Cond.native arraycopyName ∈ lw_tbl) (hst : Cond.static arraycopyName ∈ lw_tbl) (hini : Cond.initialized "java/lang/System" ∈ lw_tbl)
    (i0 : 0 < i) (j0 : 0 < j) (hi : h i = qrow n0 f) (hj : h j = qrow n1 g) (h1 : ¬ sp < 0) (h2 : ¬ dp < 0) (h3 : ¬ n < 0) (h4 : sp.toNatClampNeg + n.toNatClampNeg ≤ n0) (h5 : dp.toNatClampNeg + n.toNatClampNeg ≤ n1) (hel : ∀ q : Nat, q < n.toNatClampNeg → ∀ y, f (sp.toNatClampNeg + q) = some y → 0 < y ∧ ∃ a b, h y = irow a b) (hcat : (S.map fun v => v.category).sum ≤ 8)
    (K : AW Z μ d k0 mc ms Q (pc + 3) L S (va_up h j (qrow n1 (va_cpy f g sp.toNatClampNeg dp.toNatClampNeg n.toNatClampNeg))) k cs ss) : AW Z μ d k0 mc ms Q pc L (.int n :: .int dp :: .ref j :: .int sp :: .ref i :: S) h k cs ss := by
  intro l D cT p e s m args below meth c ad0 ad A H locs ls hC ha hk hS hw hl hs
  have hg := hC.2.2.2.2.2.2.2.2.2.1
  have hjk : j < k := hs (.ref j) (by simp)
  have hik : i < k := hs (.ref i) (by simp)
  have hcat2 : ((S.map (aw_cv ad)).map fun v => v.category).sum ≤ 8 := by
    have e : ((S.map (aw_cv ad)).map fun v => v.category) = S.map fun v => v.category := by
      rw [List.map_map]
      exact List.map_congr_left fun v _ => aw_cat ad v
    rw [e]; exact hcat
  have hnw : nativeFrameWords "java/lang/System" "arraycopy" 5 + 11 ≤ 100 := by decide
  have hoi := hw.2.2.2.2 i i0 hik
  rw [hi] at hoi
  have hoj := hw.2.2.2.2 j j0 hjk
  rw [hj] at hoj
  have nn : ∀ z : Int32, ¬ z < 0 → z.toInt = (z.toNatClampNeg : Int) := by
    intro z hz
    have hz0 : (0 : Int) ≤ z.toInt := by
      have := Int32.not_lt.mp hz
      simpa using Int32.le_iff_toInt_le.mp this
    show z.toInt = ((z.toInt.toNat : Nat) : Int)
    omega
  obtain ⟨kA, kI, q1, q2, q3⟩ := aw_qk hg hw.2.2.1
  have ha0 := aw_at_arr (cT := cT) (ad := ad) i0 hik hi
  have ha1 := aw_at_arr (cT := cT) (ad := ad) j0 hjk hj
  have hc0 : H[ad i]? = some (vp_cell (cT (.array .int)) (n0, .inr (.inr (.inr (.inr fun j => (f j).map ad))))) := hw.1 (i - 1) _ ha0
  have hc1 : H[ad j]? = some (vp_cell (cT (.array .int)) (n1, .inr (.inr (.inr (.inr fun j => (g j).map ad))))) := hw.1 (j - 1) _ ha1
  intro T hT X
  obtain ⟨vm', X', step⟩ := X.arraycopy hC.2.1 hC.2.2.2.2.2.2.2.1 (aw_hts hg hlink rfl) (aw_hts hg hnat rfl) (aw_hts hg hst rfl) (aw_hts hg hini rfl) (src := ad i) (dst := ad j) (cs := vp_cell (cT (.array .int)) (n0, .inr (.inr (.inr (.inr fun j => (f j).map ad))))) (cd := vp_cell (cT (.array .int)) (n1, .inr (.inr (.inr (.inr fun j => (g j).map ad))))) (srcPos := sp) (destPos := dp) (n := n) (by rw [hT]; exact hc0) (by rw [hT]; exact hc1)
    (fun _ h => by cases h) (fun _ h => by cases h) (fun h => by cases h) (fun h => by cases h) q1 q1 q2 q2 rfl h1 h2 h3
    (by rw [nn sp h1, nn n h3]; show ¬ _ > ((arrV _ n0 (fun j => va_rf ((f j).map ad))).slots.size : Int); rw [arrV_size]; omega)
    (by rw [nn dp h2, nn n h3]; show ¬ _ > ((arrV _ n1 (fun j => va_rf ((g j).map ad))).slots.size : Int); rw [arrV_size]; omega)
    (fun vm₁ hal q hq => by
      have e : (vp_cell (cT (.array .int)) (n0, .inr (.inr (.inr (.inr fun j => (f j).map ad))))).slots.getD (sp.toNatClampNeg + q) .null = va_rf ((f (sp.toNatClampNeg + q)).map ad) := by
        show (arrV _ n0 (fun j => va_rf ((f j).map ad))).slots.getD _ _ = _
        rw [Array.getD_eq_getD_getElem?, arrV_read _ _ (by omega)]
        rfl
      rw [e]
      cases hy : f (sp.toNatClampNeg + q) with
      | none => exact ⟨rfl, trivial⟩
      | some y =>
        obtain ⟨y0, a, b, hyb⟩ := hel q hq y hy
        have hyk : y < k := hoi _ _ hy
        have hcy := hw.1 (y - 1) _ (aw_at_arr y0 hyk hyb)
        obtain ⟨kE', hkE', -⟩ := hal.2.2 _ _ q3
        refine ⟨rfl, vp_cell (cT .int) (a, .inl b), (show T.heap[ad y]? = some _ by rw [hT]; exact hcy), (fun q h => by cases h), ⟨kE', hkE'⟩, ?_, ?_⟩
        · exact ⟨kE', hkE'⟩
        · show vm₁.assignable _ _ = true
          exact aw_asg _ _)
    (g := F0 m pc ls (.int n :: .int dp :: .ref (ad j) :: .int sp :: .ref (ad i) :: S.map (aw_cv ad))) rfl (by rw [hC.2.2.2.1]; exact hl.1) (rest := S.map (aw_cv ad)) rfl (by rw [hC.2.2.1]; exact hd) (by show 1 ≤ d + 20; omega) (by show 2 * 0 + _ + _ ≤ 41 * d + 852; omega)
  have e1 : copied (vp_cell (cT (.array .int)) (n0, .inr (.inr (.inr (.inr fun j => (f j).map ad))))) (vp_cell (cT (.array .int)) (n1, .inr (.inr (.inr (.inr fun j => (g j).map ad))))) sp dp n = vp_cell (cT (.array .int)) (n1, .inr (.inr (.inr (.inr fun q => ((va_cpy f g sp.toNatClampNeg dp.toNatClampNeg n.toNatClampNeg) q).map ad)))) := by
    rw [vp_cell_q, vp_cell_q, vp_cell_q]
    have := va_copied (fun z : Option Nat => va_rf z) (cT (.array .int)) (cT (.array .int)) (n1 := n1) (dp := dp.toNatClampNeg) (fun j => (f j).map ad) (fun j => (g j).map ad) h4
    refine Eq.trans this ?_
    congr 1
    funext q
    simp only [va_cpy]
    split <;> rfl
  rw [e1] at X' step
  have hl9 : ad j < H.size := (Array.getElem?_eq_some_iff.mp hc1).1
  have hheap : ((T.setVm vm').setCell (ad j) (vp_cell (cT (.array .int)) (n1, .inr (.inr (.inr (.inr fun q => ((va_cpy f g sp.toNatClampNeg dp.toNatClampNeg n.toNatClampNeg) q).map ad)))))).heap = H.setIfInBounds (ad j) (vp_cell (cT (.array .int)) (n1, .inr (.inr (.inr (.inr fun q => ((va_cpy f g sp.toNatClampNeg dp.toNatClampNeg n.toNatClampNeg) q).map ad))))) := by rw [← hT]; rfl
  have oq : ∀ q : Nat, q ≠ ad j → (H.setIfInBounds (ad j) (vp_cell (cT (.array .int)) (n1, .inr (.inr (.inr (.inr fun q => ((va_cpy f g sp.toNatClampNeg dp.toNatClampNeg n.toNatClampNeg) q).map ad))))))[q]? = H[q]? := fun q hq => by simp [Array.getElem?_setIfInBounds, Ne.symm hq]
  have hset := aw_Wo_set (e := qrow n1 (va_cpy f g sp.toNatClampNeg dp.toNatClampNeg n.toNatClampNeg)) hw j0 hjk (fun q w hq => by
      simp only [va_cpy] at hq
      split at hq
      · exact hoi _ _ hq
      · exact hoj _ _ hq) (hw.1.set hw.2.1 ha1 (show (H.setIfInBounds (ad j) _)[ad j]? = some _ by simp [Array.getElem?_setIfInBounds, hl9]; rfl) oq) (hw.2.1.set ha1)
  obtain ⟨t, a1, b1⟩ := K l D cT p e s m args below meth c ad0 ad A _ _ ls hC ha hk ⟨by simp; exact hS.1, fun q g1 g2 => by
      rw [oq q (fun e => g2 (by rw [e]; exact hw.2.1.2 (j - 1) _ ha1))]
      exact hS.2.1 q g1 g2, fun q hq => by
      rcases List.mem_append.mp hq with h | h
      · exact hS.2.2 q h
      · obtain ⟨z, -, hz⟩ := List.mem_map.mp h
        rw [← hz]
        exact hw.2.1.2 (j - 1) _ ha1⟩ hset hl (aw_ok_tail (aw_ok_tail (aw_ok_tail (aw_ok_tail (aw_ok_tail hs))))) _ hheap X'
  exact ⟨t, step t a1, b1⟩
theorem AW.callVH {μ' : Mt} {d' mc' ms' index n i ci : Nat} {q : vw_C} {fs as S' : List Value} {R : Po} (hd : decode μ.2.1 pc = .ok (.invokevirtual index, 3)) (hM : AM μ' d' (.ref i :: as) h k mc' ms' R) (hm : aw_mokH μ' n) (hin : Cond.instanceMethod μ'.1 ∈ lw_tbl) (hsel : Cond.selects μ'.1.cls μ'.1 μ'.1 ∈ lw_tbl) (hlink : Cond.methodLink μ.1.cls index μ'.1 ∈ lw_tbl)
    (h0 : 0 < i) (hh : h i = .inr (ci, fs)) (hc : aw_cl[ci]? = some q) (hq : q.1 = μ'.1.cls) (hn : as.length = n) (hd' : d' + 1 ≤ d) (hS2 : S = as.reverse ++ .ref i :: S') (hcat : (S'.map fun v => v.category).sum ≤ 8) (hcs : cs + mc' ≤ mc) (hss : ss + ms' ≤ ms)
    (K : ∀ (v : Option Value) (h' : Hp) (k' : Nat), R (.inl v) h' k' → AW Z μ d k0 mc ms Q (pc + 3) L (v.toList ++ S') h' k' (cs + mc') (ss + ms'))
    (KX : ∀ (E : String) (h' : Hp) (k' : Nat), R (.inr E) h' k' → AX Z μ d k0 mc ms Q E pc L h' k' (cs + mc') (ss + ms')) : AW Z μ d k0 mc ms Q pc L S h k cs ss := by
  intro l D cT p e s m args below meth c ad0 ad A H locs ls hC ha hk hS hw hl hs
  have hg := hC.2.2.2.2.2.2.2.2.2.1
  have hik : i < k := hs (.ref i) (by rw [hS2]; exact List.mem_append_right _ List.mem_cons_self)
  have hok : ∀ v ∈ Value.ref i :: as, aw_ok k v := fun v hv => by
    rcases List.mem_cons.mp hv with rfl | hv
    · exact hik
    · exact hs v (by rw [hS2]; exact List.mem_append_left _ (List.mem_reverse.mpr hv))
  have hok2 : ∀ v ∈ S', aw_ok k v := fun v hv => hs v (by rw [hS2]; exact List.mem_append_right _ (List.mem_cons_of_mem _ hv))
  obtain ⟨m1, m2, m3, m4, m5, m6⟩ := hm
  have hcw : vx_CVW (aw_R d mc ms) s args μ.1.cls μ'.1.cls index μ'.1 μ'.2.1 μ'.2.2.1 μ'.2.2.2.1 μ'.2.2.2.2 [aw_cw μ'] (aw_R d' mc' ms') mc' ms' n := by
    refine ⟨⟨rfl, rfl, ?_, ?_, fun w hw a' U hW => ?_, ?_⟩, ?_, aw_hts hg m3 rfl, m4, fun sig h => ?_, aw_hts hg hlink rfl, aw_hts hg hin rfl, aw_hts hg hsel rfl⟩
    · show d' + 20 + 1 ≤ d + 20; omega
    · show 8 + (μ'.2.2.1 + 11) + (41 * d' + 852) ≤ 41 * d + 852; omega
    · rw [List.mem_singleton] at hw
      rw [hw]
      exact aw_stable (by rw [m1]; rfl) hW (hg.1 _ m2 (by rw [m1]; rfl))
    · rw [m1]; exact List.mem_singleton.mpr rfl
    · rw [← m1]; exact aw_hts hg m2 (by rw [m1]; rfl)
    · rw [h] at m5; exact (Option.some.inj m5).symm
  have hr := vx_runVX (e := e) (below := below) (meth := meth) (As := as.map (aw_cv ad)) (rest := S'.map (aw_cv ad)) (b := ad i) (C := μ'.1.cls) (Ts := []) (locs := locs) (cells := cs) (slots := ss) (g := F0 m pc ls (S.map (aw_cv ad))) (nL := μ.2.2.1) ⟨hC.2.1, hC.2.2.1, hC.2.2.2.1, hC.2.2.2.2.2.2.2.1, fun w h => nomatch h⟩ (hM l D cT ad H.size hC.1) hcw
    ⟨aw_blind, by rw [← hq]; exact va_recv hw.2.2.1 hw.1 hc (aw_at_obj h0 hik hh), aw_pre hw hS hC.2.2.2.2.2.2.2.2.2.2.1 hg hok⟩
    rfl (by rw [List.length_map]; exact hn) hl.1 (by show S.map _ = _; rw [hS2, List.map_append, List.map_reverse]; rfl) (aw_stW hcat) hd ⟨hcs, hss⟩
  exact aw_run hr hC ha hk hS hw hl hok2 K KX
end Rows6
end
section
/-! AW: a contract in a larger world, a world renamed, the script at id 0 -/
def rnc (f : Nat → Nat) (c : Ce) : Ce := match c with
  | .inl x => .inl (x.1, aw_ca f x.2)
  | .inr o => .inr (o.1, o.2.map (aw_cv f))
def rno (f : Nat → Nat) (o : Out) : Out := match o with
  | .inl v => .inl (v.map (aw_cv f))
  | .inr E => .inr E
theorem rn_cv (ad f : Nat → Nat) (v : Value) : aw_cv ad (aw_cv f v) = aw_cv (fun i => ad (f i)) v := by cases v <;> rfl
theorem rn_ca (ad f : Nat → Nat) (a : vp_A) : aw_ca ad (aw_ca f a) = aw_ca (fun i => ad (f i)) a := by
  obtain ⟨n, a⟩ := a
  rcases a with g | g | g | g | g
  · rfl
  · rfl
  · rfl
  · rfl
  · show ((n, .inr (.inr (.inr (.inr fun j => ((g j).map f).map ad)))) : vp_A) = (n, .inr (.inr (.inr (.inr fun j => (g j).map fun i => ad (f i)))))
    have : (fun j => ((g j).map f).map ad) = fun j => (g j).map fun i => ad (f i) := by
      funext j
      cases g j <;> rfl
    rw [this]
theorem rn_ce (cT : FieldType → ClassId) (ad f : Nat → Nat) (c : Ce) : aw_ce cT ad (rnc f c) = aw_ce cT (fun i => ad (f i)) c := by
  rcases c with c | c
  · show Sum.inl (cT c.1, aw_ca ad (aw_ca f c.2)) = Sum.inl (cT c.1, _)
    rw [rn_ca]
  · show Sum.inr (c.1, (c.2.map (aw_cv f)).map (aw_cv ad)) = Sum.inr (c.1, c.2.map _)
    rw [List.map_map]
    congr 2
    exact List.map_congr_left fun v _ => rn_cv ad f v
theorem rn_okv {f : Nat → Nat} {k k' : Nat} {v : Value} (h : aw_ok k v) (hf : ∀ i, i < k → f i < k') : aw_ok k' (aw_cv f v) := by
  cases v <;> first | trivial | exact hf _ h
theorem rn_okc {f : Nat → Nat} {k k' : Nat} {c : Ce} (h : aw_okc k c) (hf : ∀ i, i < k → f i < k') : aw_okc k' (rnc f c) := by
  rcases c with ⟨ty, n, a⟩ | c
  · rcases a with g | g | g | g | g
    · trivial
    · trivial
    · trivial
    · trivial
    · show ∀ j i, (g j).map f = some i → i < k'
      intro j i e
      cases hg : g j with
      | none => rw [hg] at e; cases e
      | some q => rw [hg] at e; cases e; exact hf _ (h j q hg)
  · intro v hv
    obtain ⟨w, hw, rfl⟩ := List.mem_map.mp hv
    exact rn_okv (h w hw) hf
/-- where the ids of a small world lie in a larger one: those that are there behind b, those that are made behind all -/
def emb (b k K : Nat) (i : Nat) : Nat := if i < k then b + i else K + (i - k)
theorem emb_lo {b k K i : Nat} (h : i < k) : emb b k K i = b + i := by simp [emb, h]
theorem emb_hi {b k K i : Nat} (h : k ≤ i) : emb b k K i = K + (i - k) := by simp [emb, Nat.not_lt.mpr h]
theorem aw_at_ws {cT : FieldType → ClassId} {ad : Nat → Nat} {h : Hp} {k i : Nat} {q : Nat × va_E} (h0 : 0 < i) (hi : i < k) (hq : q = (ad i, aw_ce cT ad (h i))) : (aw_ws cT ad h k)[i - 1]? = some q := by rw [hq]; exact aw_ws_at cT ad h h0 hi
set_option maxHeartbeats 4000000 in
theorem frame_pre {D : va_G} {cT : FieldType → ClassId} {ad : Nat → Nat} {h H : Hp} {k K b sz : Nat} {U : State} (hk : 0 < k) (hK : b + k ≤ K) (hH : ∀ i, 0 < i → i < k → H (b + i) = rnc (emb b k K) (h i)) (hok : ∀ i, 0 < i → i < k → aw_okc k (h i))
    (hw : aw_Wo D cT (va_A (aw_ws cT ad H K) sz) ad H K U.heap U) : (∀ q, va_A (aw_ws cT (fun i => ad (b + i)) h k) sz q → va_A (aw_ws cT ad H K) sz q) ∧ aw_Wo D cT (va_A (aw_ws cT (fun i => ad (b + i)) h k) sz) (fun i => ad (b + i)) h k U.heap U := by
  have hin : ∀ i, 0 < i → i < k → (aw_ws cT ad H K)[b + i - 1]? = some (ad (b + i), aw_ce cT (fun i => ad (b + i)) (h i)) := fun i i0 ik => by
    refine aw_at_ws (by omega) (by omega) ?_
    rw [hH i i0 ik, rn_ce, aw_ce_congr (hok i i0 ik) (ad := fun i => ad (b + i)) (ad' := fun i => ad (emb b k K i))]
    intro j hj
    show ad (emb b k K j) = ad (b + j)
    rw [emb_lo hj]
  have hsub : ∀ q, va_A (aw_ws cT (fun i => ad (b + i)) h k) sz q → va_A (aw_ws cT ad H K) sz q := fun q hq => by
    rcases hq with ⟨j, e, hj⟩ | hq
    · obtain ⟨h1, h2⟩ := aw_ws_out hj
      cases h2
      exact Or.inl ⟨_, _, hin (j + 1) (Nat.succ_pos j) h1⟩
    · exact Or.inr hq
  refine ⟨hsub, fun j q hq => ?_, ⟨fun i j p q hp hq e => ?_, fun j q hq => Or.inl ⟨j, q.2, hq⟩⟩, hw.2.2.1, hk, hok⟩
  · obtain ⟨h1, h2⟩ := aw_ws_out hq
    rw [h2]
    exact hw.1 _ _ (hin (j + 1) (Nat.succ_pos j) h1)
  · obtain ⟨h1, h2⟩ := aw_ws_out hp
    obtain ⟨h3, h4⟩ := aw_ws_out hq
    rw [h2, h4] at e
    have := hw.2.1.1 _ _ _ _ (hin (i + 1) (Nat.succ_pos i) h1) (hin (j + 1) (Nat.succ_pos j) h3) e
    omega
/-- the larger world behind -/
def fr_ad (ad ad' : Nat → Nat) (k K : Nat) (j : Nat) : Nat := if j < K then ad j else ad' (k + (j - K))
def fr_h (H h' : Hp) (b k K : Nat) (j : Nat) : Ce := if j < K then (if b < j ∧ j < b + k then rnc (emb b k K) (h' (j - b)) else H j) else rnc (emb b k K) (h' (k + (j - K)))
set_option maxHeartbeats 4000000 in
theorem frame_post {D : va_G} {cT : FieldType → ClassId} {ad ad' : Nat → Nat} {h h' H : Hp} {k k' K b : Nat} {U t : State} (hk : 0 < k) (hK : b + k ≤ K) (hk' : k ≤ k')
    (hw : aw_Wo D cT (va_A (aw_ws cT ad H K) U.heap.size) ad H K U.heap U) (hH : ∀ i, 0 < i → i < k → H (b + i) = rnc (emb b k K) (h i)) (hok : ∀ i, 0 < i → i < k → aw_okc k (h i)) (he : ∀ i, i < k → ad' i = ad (b + i))
    (hw' : aw_Wo D cT (va_A (aw_ws cT (fun i => ad (b + i)) h k) U.heap.size) ad' h' k' t.heap t) (hF : va_F (va_A (aw_ws cT (fun i => ad (b + i)) h k) U.heap.size) U t) :
    (∀ i, i < k' → fr_ad ad ad' k K (emb b k K i) = ad' i) ∧ (∀ i, 0 < i → i < k' → fr_h H h' b k K (emb b k K i) = rnc (emb b k K) (h' i)) ∧ (∀ j, 0 < j → j < K → (j ≤ b ∨ b + k ≤ j) → fr_h H h' b k K j = H j) ∧ (∀ i, i < K → fr_ad ad ad' k K i = ad i) ∧
    aw_Wo D cT (va_A (aw_ws cT ad H K) U.heap.size) (fr_ad ad ad' k K) (fr_h H h' b k K) (K + (k' - k)) t.heap t := by
  obtain ⟨hsub, -⟩ := frame_pre (U := U) (sz := U.heap.size) hk hK hH hok hw
  have a1 : ∀ i, i < k' → fr_ad ad ad' k K (emb b k K i) = ad' i := fun i hi => by
    by_cases q : i < k
    · rw [emb_lo q, fr_ad, if_pos (by omega), he i q]
    · rw [emb_hi (by omega), fr_ad, if_neg (by omega)]
      congr 1
      omega
  have a2 : ∀ i, 0 < i → i < k' → fr_h H h' b k K (emb b k K i) = rnc (emb b k K) (h' i) := fun i i0 hi => by
    by_cases q : i < k
    · rw [emb_lo q, fr_h, if_pos (by omega), if_pos (by omega), Nat.add_sub_cancel_left]
    · rw [emb_hi (by omega), fr_h, if_neg (by omega), show k + (K + (i - k) - K) = i by omega]
  have a3 : ∀ j, 0 < j → j < K → (j ≤ b ∨ b + k ≤ j) → fr_h H h' b k K j = H j := fun j j0 jK hj => by
    rw [fr_h, if_pos jK, if_neg (by omega)]
  have a4 : ∀ i, i < K → fr_ad ad ad' k K i = ad i := fun i hi => by rw [fr_ad, if_pos hi]
  refine ⟨a1, a2, a3, a4, ?_⟩
  have cls : ∀ id, 0 < id → id < K + (k' - k) → (∃ i, 0 < i ∧ i < k' ∧ emb b k K i = id) ∨ (id < K ∧ (id ≤ b ∨ b + k ≤ id)) := fun id i0 hid => by
    by_cases q : id < K
    · by_cases q2 : b < id ∧ id < b + k
      · exact Or.inl ⟨id - b, by omega, by omega, by rw [emb_lo (by omega)]; omega⟩
      · exact Or.inr ⟨q, by omega⟩
    · exact Or.inl ⟨k + (id - K), by omega, by omega, by rw [emb_hi (by omega)]; omega⟩
  have inn : ∀ i, 0 < i → i < k' → (fr_ad ad ad' k K (emb b k K i), aw_ce cT (fr_ad ad ad' k K) (fr_h H h' b k K (emb b k K i))) = (ad' i, aw_ce cT ad' (h' i)) := fun i i0 hi => by
    rw [a1 i hi, a2 i i0 hi, rn_ce, aw_ce_congr (hw'.2.2.2.2 i i0 hi) (ad := ad') (ad' := fun i => fr_ad ad ad' k K (emb b k K i)) a1]
  have out : ∀ id, 0 < id → id < K → (id ≤ b ∨ b + k ≤ id) → (fr_ad ad ad' k K id, aw_ce cT (fr_ad ad ad' k K) (fr_h H h' b k K id)) = (ad id, aw_ce cT ad (H id)) := fun id i0 hid ho => by
    rw [a4 id hid, a3 id i0 hid ho, aw_ce_congr (hw.2.2.2.2 id i0 hid) a4]
  have outA : ∀ id, 0 < id → id < K → (id ≤ b ∨ b + k ≤ id) → ¬ va_A (aw_ws cT (fun i => ad (b + i)) h k) U.heap.size (ad id) ∧ ad id < U.heap.size := fun id i0 hid ho => by
    have hl : ad id < U.heap.size := (hw.1 (id - 1) _ (aw_ws_at cT ad H i0 hid)).lt
    refine ⟨fun hq => ?_, hl⟩
    rcases hq with ⟨j, e, hj⟩ | hq
    · obtain ⟨h1, h2⟩ := aw_ws_out hj
      have e2 : ad id = ad (b + (j + 1)) := congrArg Prod.fst h2
      have := hw.2.1.1 _ _ _ _ (aw_ws_at cT ad H i0 hid) (aw_ws_at cT ad H (i := b + (j + 1)) (by omega) (by omega)) e2
      omega
    · omega
  refine ⟨fun j q hq => ?_, ⟨fun i j p q hp hq e => ?_, fun j q hq => ?_⟩, hw'.2.2.1, by omega, fun id i0 hid => ?_⟩
  · obtain ⟨h1, h2⟩ := aw_ws_out hq
    rw [h2]
    rcases cls (j + 1) (Nat.succ_pos j) h1 with ⟨i, i0, ik, hi⟩ | ⟨hid, ho⟩
    · rw [← hi, inn i i0 ik]
      exact hw'.1 (i - 1) _ (aw_ws_at cT ad' h' i0 ik)
    · rw [out _ (Nat.succ_pos j) hid ho]
      obtain ⟨o1, o2⟩ := outA _ (Nat.succ_pos j) hid ho
      exact (hw.1 j _ (aw_ws_at cT ad H (i := j + 1) (Nat.succ_pos j) hid)).kept (hF.2 _ o2 o1)
  · obtain ⟨h1, h2⟩ := aw_ws_out hp
    obtain ⟨h3, h4⟩ := aw_ws_out hq
    rw [h2, h4] at e
    have e : fr_ad ad ad' k K (i + 1) = fr_ad ad ad' k K (j + 1) := e
    rcases cls (i + 1) (Nat.succ_pos i) h1 with ⟨x, x0, xk, hx⟩ | ⟨hx, ho⟩ <;> rcases cls (j + 1) (Nat.succ_pos j) h3 with ⟨y, y0, yk, hy⟩ | ⟨hy, ho2⟩
    · rw [← hx, ← hy, a1 x xk, a1 y yk] at e
      have := hw'.2.1.1 _ _ _ _ (aw_ws_at cT ad' h' x0 xk) (aw_ws_at cT ad' h' y0 yk) e
      have : x = y := by omega
      subst this
      omega
    · rw [← hx, a1 x xk, a4 _ hy] at e
      have hm := hw'.2.1.2 _ _ (aw_ws_at cT ad' h' x0 xk)
      have hm : va_A (aw_ws cT (fun i => ad (b + i)) h k) U.heap.size (ad' x) := hm
      rw [e] at hm
      exact absurd hm (outA _ (Nat.succ_pos j) hy ho2).1
    · rw [← hy, a1 y yk, a4 _ hx] at e
      have hm := hw'.2.1.2 _ _ (aw_ws_at cT ad' h' y0 yk)
      have hm : va_A (aw_ws cT (fun i => ad (b + i)) h k) U.heap.size (ad' y) := hm
      rw [← e] at hm
      exact absurd hm (outA _ (Nat.succ_pos i) hx ho).1
    · rw [a4 _ hx, a4 _ hy] at e
      have := hw.2.1.1 _ _ _ _ (aw_ws_at cT ad H (i := i + 1) (Nat.succ_pos i) hx) (aw_ws_at cT ad H (i := j + 1) (Nat.succ_pos j) hy) e
      omega
  · obtain ⟨h1, h2⟩ := aw_ws_out hq
    rw [h2]
    rcases cls (j + 1) (Nat.succ_pos j) h1 with ⟨i, i0, ik, hi⟩ | ⟨hid, ho⟩
    · show va_A _ _ (fr_ad ad ad' k K (j + 1))
      rw [← hi, a1 i ik]
      exact hsub _ (hw'.2.1.2 _ _ (aw_ws_at cT ad' h' i0 ik))
    · show va_A _ _ (fr_ad ad ad' k K (j + 1))
      rw [a4 _ hid]
      exact Or.inl ⟨_, _, aw_ws_at cT ad H (i := j + 1) (Nat.succ_pos j) hid⟩
  · rcases cls id i0 hid with ⟨i, q0, qk, hi⟩ | ⟨hid, ho⟩
    · rw [← hi, a2 i q0 qk]
      refine rn_okc (hw'.2.2.2.2 i q0 qk) fun r hr => ?_
      by_cases q : r < k
      · rw [emb_lo q]; omega
      · rw [emb_hi (by omega)]; omega
    · rw [a3 id i0 hid ho]
      exact aw_okc_le (hw.2.2.2.2 id i0 hid) (by omega)
/-- what a contract of a small world says of the larger one -/
def FQ (b k K : Nat) (H : Hp) (Q : Po) : Po := fun oc' H' K' => ∃ (oc : Out) (h' : Hp) (k' : Nat), Q oc h' k' ∧ k ≤ k' ∧ K' = K + (k' - k) ∧ oc' = rno (emb b k K) oc ∧ (∀ i, 0 < i → i < k' → H' (emb b k K i) = rnc (emb b k K) (h' i)) ∧ (∀ j, 0 < j → j < K → (j ≤ b ∨ b + k ≤ j) → H' j = H j)
set_option maxHeartbeats 4000000 in
theorem AM.frame {μ : Mt} {d : Nat} {as as' : List Value} {h H : Hp} {k K b mc ms : Nat} {Q : Po} (hM : AM μ d as h k mc ms Q) (hk : 0 < k) (hK : b + k ≤ K) (hH : ∀ i, 0 < i → i < k → H (b + i) = rnc (emb b k K) (h i)) (hok : ∀ i, 0 < i → i < k → aw_okc k (h i)) (hoa : ∀ v ∈ as, aw_ok k v) (has : as.map (aw_cv (emb b k K)) = as') :
    AM μ d as' H K mc ms (FQ b k K H Q) := by
  subst has
  intro l D cT ad sz hl
  intro p e ha hc hkk s m args below hf happ hP hK2
  obtain ⟨hP0, hP1, hP2, hP3, hP4⟩ := hP
  subst hP1
  obtain ⟨hsub, hw⟩ := frame_pre (U := s) (sz := s.heap.size) hk hK hH hok hP3
  have eargs : (as.map (aw_cv (emb b k K))).map (aw_cv ad) = as.map (aw_cv fun i => ad (b + i)) := by
    rw [List.map_map]
    refine List.map_congr_left fun v hv => ?_
    show aw_cv ad (aw_cv (emb b k K) v) = _
    rw [rn_cv]
    exact aw_cv_congr (hoa v hv) fun i hi => by show ad (emb b k K i) = ad (b + i); rw [emb_lo hi]
  obtain ⟨n, o, g1, g2, g3, g4⟩ := hM l D cT (fun i => ad (b + i)) s.heap.size hl p e ha hc hkk s m args below hf happ ⟨by rw [hP0, eargs], rfl, hoa, hw, hP4.moved (State.WarmedH.refl s) (fun _ _ _ => rfl) hsub⟩ hK2
  refine ⟨n, o, g1, g2, g3, ?_⟩
  rcases g4 with ⟨⟨⟨v, h', k', ad', rfl, hq, c1, c2, c3, c4⟩, hF⟩, L, f1, f2⟩ | ⟨q, rfl, E, ce, L, ⟨⟨h', k', ad', hq, c1, c2, c4⟩, hF⟩, t1, t2, t3, t4, t5, t6⟩
  · obtain ⟨b1, b2, b3, b4, b5⟩ := frame_post hk hK c2 hP3 hH hok c1 c4 hF
    refine Or.inl ⟨⟨⟨v.map (aw_cv (emb b k K)), fr_h H h' b k K, K + (k' - k), fr_ad ad ad' k K, ?_, ⟨.inl v, h', k', hq, c2, rfl, rfl, b2, b3⟩, b4, by omega, fun w hw9 => ?_, b5⟩, hF.1, fun q h1 h2 => hF.2 q h1 (fun z => h2 (hsub q z))⟩, L, f1, fun q hq => hsub _ (f2 q hq)⟩
    · congr 1
      cases v with
      | none => rfl
      | some v =>
        show some (aw_cv ad' v) = some (aw_cv (fr_ad ad ad' k K) (aw_cv (emb b k K) v))
        rw [rn_cv]
        congr 1
        exact (aw_cv_congr (c3 v rfl) b1).symm
    · cases v with
      | none => cases hw9
      | some v =>
        cases hw9
        refine rn_okv (c3 v rfl) fun r hr => ?_
        by_cases q : r < k
        · rw [emb_lo q]; omega
        · rw [emb_hi (by omega)]; omega
  · obtain ⟨b1, b2, b3, b4, b5⟩ := frame_post hk hK c2 hP3 hH hok c1 c4 hF
    exact Or.inr ⟨q, rfl, E, ce, L, ⟨⟨fr_h H h' b k K, K + (k' - k), fr_ad ad ad' k K, ⟨.inr E, h', k', hq, c2, rfl, rfl, b2, b3⟩, b4, by omega, b5⟩, hF.1, fun q h1 h2 => hF.2 q h1 (fun z => h2 (hsub q z))⟩, t1, t2, t3, t4, t5, fun z hz => hsub _ (t6 z hz)⟩
/-- a weaker end -/
theorem AM.weaken {μ : Mt} {d : Nat} {as : List Value} {h : Hp} {k mc ms : Nat} {Q Q' : Po} (hM : AM μ d as h k mc ms Q) (hQ : ∀ o h' k', Q o h' k' → Q' o h' k') : AM μ d as h k mc ms Q' := by
  intro l D cT ad sz hl p e ha hc hkk s m args below hf happ hP hK2
  obtain ⟨n, o, g1, g2, g3, g4⟩ := hM l D cT ad sz hl p e ha hc hkk s m args below hf happ hP hK2
  refine ⟨n, o, g1, g2, g3, ?_⟩
  rcases g4 with ⟨⟨⟨v, h', k', ad', rfl, hq, c⟩, hF⟩, r⟩ | ⟨q, rfl, E, ce, L, ⟨⟨h', k', ad', hq, c⟩, hF⟩, r⟩
  · exact Or.inl ⟨⟨⟨v, h', k', ad', rfl, hQ _ _ _ hq, c⟩, hF⟩, r⟩
  · exact Or.inr ⟨q, rfl, E, ce, L, ⟨⟨h', k', ad', hQ _ _ _ hq, c⟩, hF⟩, r⟩
section Ren
variable {Z : Gz} {μ : Mt} {d k0 mc ms : Nat} {Q : Po} {pc : Nat} {L S L' S' : List Value} {h h' : Hp} {k k' cs ss : Nat}
theorem aw_ws_congr {cT : FieldType → ClassId} {ad : Nat → Nat} {h h' : Hp} {k : Nat} (hj : ∀ i, 0 < i → i < k → h i = h' i) : aw_ws cT ad h k = aw_ws cT ad h' k := by
  unfold aw_ws
  refine List.map_congr_left fun i hi => ?_
  rw [hj (i + 1) (Nat.succ_pos i) (by have := List.mem_range.mp hi; omega)]
/-- what lies at no id of the world may be taken to be anything -/
theorem AW.junk (hj : ∀ i, 0 < i → i < k → h i = h' i) (K : AW Z μ d k0 mc ms Q pc L S h' k cs ss) : AW Z μ d k0 mc ms Q pc L S h k cs ss := by
  intro l D cT p e s m args below meth c ad0 ad A H locs ls hC ha hk hS hw hl hs
  refine K l D cT p e s m args below meth c ad0 ad A H locs ls hC ha hk hS ?_ hl hs
  obtain ⟨h1, h2, h3, h4, h5⟩ := hw
  rw [aw_ws_congr hj] at h1 h2
  exact ⟨h1, h2, h3, h4, fun i h0 hi => hj i h0 hi ▸ h5 i h0 hi⟩
theorem AM.junk {as : List Value} (hj : ∀ i, 0 < i → i < k → h i = h' i) (hM : AM μ d as h' k mc ms Q) : AM μ d as h k mc ms Q := by
  intro l D cT ad sz hl
  have := hM l D cT ad sz hl
  rw [← aw_ws_congr (cT := cT) (ad := ad) hj] at this
  intro p e ha hc hkk s m args below hf happ hP hK2
  refine this p e ha hc hkk s m args below hf happ ⟨hP.1, hP.2.1, hP.2.2.1, ?_, hP.2.2.2.2⟩ hK2
  obtain ⟨h1, h2, h3, h4, h5⟩ := hP.2.2.2.1
  have e2 := aw_ws_congr (cT := cT) (ad := ad) hj
  exact ⟨by rw [← e2]; exact h1, by rw [← e2]; exact h2, h3, h4, fun i h0 hi => hj i h0 hi ▸ h5 i h0 hi⟩
/-- all ids from k0 on are forgotten -/
theorem AW.forget (hk0 : 0 < k0) (hkk : k0 ≤ k) (hS : S = []) (hL : ∀ (i : Nat) (v : Value), L'[i]? = some v → v ≠ .null → L[i]? = some v ∧ aw_ok k0 v) (hokc : ∀ i, 0 < i → i < k0 → aw_okc k0 (h i)) (K : AW Z μ d k0 mc ms Q pc L' [] h k0 cs ss) : AW Z μ d k0 mc ms Q pc L S h k cs ss := by
  subst hS
  intro l D cT p e s m args below meth c ad0 ad A H locs ls hC ha hk hS2 hw hl hs
  have hin : ∀ j q, (aw_ws cT ad h k0)[j]? = some q → (aw_ws cT ad h k)[j]? = some q := fun j q hq => by
    obtain ⟨h1, h2⟩ := aw_ws_out hq
    rw [h2]
    exact aw_ws_at cT ad h (i := j + 1) (Nat.succ_pos j) (by omega)
  refine K l D cT p e s m args below meth c ad0 ad A H locs ls hC ha (Nat.le_refl _) hS2 ⟨fun j q hq => hw.1 j q (hin j q hq), ⟨fun i j p q hp hq e => hw.2.1.1 i j p q (hin i p hp) (hin j q hq) e, fun j q hq => hw.2.1.2 j q (hin j q hq)⟩, hw.2.2.1, hk0, hokc⟩ ⟨hl.1, hl.2.1, fun i v h1 h2 => ⟨(hl.2.2 i v (hL i v h1 h2).1 h2).1, (hL i v h1 h2).2⟩⟩ (fun v hv => nomatch hv)
end Ren
/-! the script, at id 0 -/
def aw_ZL (L : Nat) (xs : Nat → Int32) : Gz := fun s A ad0 => va_X (ad0 0) L xs s s.heap ∧ ad0 0 < s.heap.size ∧ ¬ A (ad0 0)
/-- a contract of a method that reads the script -/
def AMz (n : Nat) (xs : Nat → Int32) (μ : Mt) (d : Nat) (as : List Value) (h : Hp) (k mc ms : Nat) (Q : Po) : Prop :=
  ∀ (l : Launch) (D : va_G) (cT : FieldType → ClassId) (ad : Nat → Nat) (sz : Nat), l.stackTraces = false →
    vx_Met l μ.1 [aw_cw μ] (aw_R d mc ms) (va_Pc (as.map (aw_cv ad)) (fun U => (U.heap.size = sz ∧ (∀ v ∈ as, aw_ok k v) ∧ aw_Wo D cT (va_A (aw_ws cT ad h k) sz) ad h k U.heap U ∧ aw_GF (va_A (aw_ws cT ad h k) sz) U) ∧ aw_ZL n xs U (va_A (aw_ws cT ad h k) sz) ad))
      (aw_Qc D cT (va_A (aw_ws cT ad h k) sz) ad k Q) (aw_Xc D cT (va_A (aw_ws cT ad h k) sz) ad k Q) mc ms (va_A (aw_ws cT ad h k) sz)
set_option maxHeartbeats 4000000 in
theorem AMz.intro {N : Nat} {xs : Nat → Int32} {μ : Mt} {d n : Nat} {as L : List Value} {h : Hp} {k mc ms : Nat} {Q : Po} (hy : plainName μ.1.cls = true) (hh : μ.2.2.2.2 = []) (hn : (aw_loc as).length + n = μ.2.2.1) (hL : aw_loc as ++ List.replicate n .null = L)
    (K : AW (aw_ZL N xs) μ d k mc ms Q 0 L [] h k 0 0) : AMz N xs μ d as h k mc ms Q := by
  intro l D cT ad sz hl
  have hcw : aw_cw μ = .code μ.1 μ.2.1 μ.2.2.1 μ.2.2.2.1 := by unfold aw_cw; rw [hh]
  refine vx_ofW (cc := μ.2.1) (maxL := μ.2.2.1) (ret := μ.2.2.2.1) (ws' := []) hy (by rw [hcw]) ?_
  intro p e s m args below meth c s₁ B hml ht hv
  obtain ⟨rfl, ⟨hsz, hok, hw, hg⟩, hz⟩ := hv
  subst hsz
  have hnm := (name_of_methodNamed B.named B.method).1
  rw [lg_entry_eq]
  refine K l D cT p e s m _ below meth c ad ad _ s.heap [] _ ⟨hl, B.exec, B.bytes, hml, B.returns, B.notSynchronized, hnm, findClass_of_methodNamed B.named, ?_, hg, fun q hq => Or.inr hq, hz⟩ (fun _ _ => rfl) (Nat.le_refl _) va_S.rf hw (aw_entry hn hL hok) (fun v hv => nomatch hv)
  rw [hh]
  cases he : c.exceptionTable.toList with
  | nil => rfl
  | cons x y => exact absurd (ht x (by rw [he]; exact List.mem_cons_self)) id
theorem aw_blindz {N : Nat} {xs : Nat → Int32} {D : va_G} {cT : FieldType → ClassId} {ad : Nat → Nat} {as : List Value} {h : Hp} {k sz : Nat} : FrameBlind (va_Pc (as.map (aw_cv ad)) (fun U => (U.heap.size = sz ∧ (∀ v ∈ as, aw_ok k v) ∧ aw_Wo D cT (va_A (aw_ws cT ad h k) sz) ad h k U.heap U ∧ aw_GF (va_A (aw_ws cT ad h k) sz) U) ∧ aw_ZL N xs U (va_A (aw_ws cT ad h k) sz) ad)) := by
  intro a U g mk q
  obtain ⟨q0, ⟨q1, q2, q3, q4⟩, q5, q6, q7⟩ := q
  have hb := aw_blind (D := D) (cT := cT) (ad := ad) (as := as) (h := h) (k := k) (sz := sz) a U g mk ⟨q0, q1, q2, q3, q4⟩
  exact ⟨hb.1, hb.2, va_X.moved (u := U) (U := U.calling g mk a) (Vm.Alike.refl U.vm) q5, q6, q7⟩
theorem aw_prez {N : Nat} {xs : Nat → Int32} {D : va_G} {cT : FieldType → ClassId} {A : Nat → Prop} {ad ad0 : Nat → Nat} {as : List Value} {h : Hp} {k : Nat} {H : Heap} {s : State} {locs : List Loc} (hw : aw_Wo D cT A ad h k H s) (hS : va_S A s.heap H locs) (hA : ∀ q, s.heap.size ≤ q → A q) (hg : aw_GF A s) (hok : ∀ v ∈ as, aw_ok k v) (hz : aw_ZL N xs s A ad0) (h0 : ad 0 = ad0 0) :
    ∀ U : State, U.heap = H → s.WarmedH U.vm → va_Pc (as.map (aw_cv ad)) (fun U => (U.heap.size = H.size ∧ (∀ v ∈ as, aw_ok k v) ∧ aw_Wo D cT (va_A (aw_ws cT ad h k) H.size) ad h k U.heap U ∧ aw_GF (va_A (aw_ws cT ad h k) H.size) U) ∧ aw_ZL N xs U (va_A (aw_ws cT ad h k) H.size) ad) (as.map (aw_cv ad)).toArray U := by
  intro U hU hW
  have hp := aw_pre hw hS hA hg hok U hU hW
  have hF := aw_free hw hS hA
  subst hU
  refine ⟨hp.1, hp.2, ?_⟩
  unfold aw_ZL at hz ⊢
  rw [h0]
  exact ⟨(hz.1.kept (hS.2.1 _ hz.2.1 hz.2.2)).moved hW.alike, Nat.lt_of_lt_of_le hz.2.1 hS.1, fun q => hz.2.2 (hF _ q)⟩
section Scr
variable {N : Nat} {xs : Nat → Int32} {μ : Mt} {d k0 mc ms : Nat} {Q : Po} {pc : Nat} {L S : List Value} {h : Hp} {k cs ss : Nat}
theorem AW.sld {i v : Int32} (hd : decode μ.2.1 pc = .ok (.iaload, 1)) (hk0 : 0 < k0) (hin : vp_in i N) (hv : xs i.toNatClampNeg = v) (K : AW (aw_ZL N xs) μ d k0 mc ms Q (pc + 1) L (.int v :: S) h k cs ss) : AW (aw_ZL N xs) μ d k0 mc ms Q pc L (.int i :: .ref 0 :: S) h k cs ss := by
  subst hv
  intro l D cT p e s m args below meth c ad0 ad A H locs ls hC ha hk hS hw hl hs
  have hZ : aw_ZL N xs s A ad0 := hC.2.2.2.2.2.2.2.2.2.2.2
  have e0 : aw_cv ad (.ref 0) = .ref (ad0 0) := by
    show Value.ref (ad 0) = _
    rw [ha 0 hk0]
  rw [List.map_cons, List.map_cons, e0]
  exact va_sld hC.2.1 hC.2.2.1 hZ.1 hZ.2.1 hZ.2.2 hS hin hd (K l D cT p e s m args below meth c ad0 ad A H locs ls hC ha hk hS hw hl (aw_ok_cons aw_okI (aw_ok_tail (aw_ok_tail hs))))
theorem AW.slen (hd : decode μ.2.1 pc = .ok (.arraylength, 1)) (hk0 : 0 < k0) (K : AW (aw_ZL N xs) μ d k0 mc ms Q (pc + 1) L (.int (Int32.ofNat N) :: S) h k cs ss) : AW (aw_ZL N xs) μ d k0 mc ms Q pc L (.ref 0 :: S) h k cs ss := by
  intro l D cT p e s m args below meth c ad0 ad A H locs ls hC ha hk hS hw hl hs
  have hZ : aw_ZL N xs s A ad0 := hC.2.2.2.2.2.2.2.2.2.2.2
  have e0 : aw_cv ad (.ref 0) = .ref (ad0 0) := by
    show Value.ref (ad 0) = _
    rw [ha 0 hk0]
  rw [List.map_cons, e0]
  exact va_slen hC.2.1 hC.2.2.1 hZ.1 hZ.2.1 hZ.2.2 hS hd (K l D cT p e s m args below meth c ad0 ad A H locs ls hC ha hk hS hw hl (aw_ok_cons aw_okI (aw_ok_tail hs)))
theorem AW.callVz {μ' : Mt} {d' mc' ms' index n i ci : Nat} {q : vw_C} {fs as S' : List Value} {R : Po} (hd : decode μ.2.1 pc = .ok (.invokevirtual index, 3)) (hM : AMz N xs μ' d' (.ref i :: as) h k mc' ms' R) (hk0 : 0 < k0) (hm : aw_mok μ' n) (hin : Cond.instanceMethod μ'.1 ∈ lw_tbl) (hsel : Cond.selects μ'.1.cls μ'.1 μ'.1 ∈ lw_tbl) (hlink : Cond.methodLink μ.1.cls index μ'.1 ∈ lw_tbl)
    (h0 : 0 < i) (hh : h i = .inr (ci, fs)) (hc : aw_cl[ci]? = some q) (hq : q.1 = μ'.1.cls) (hn : as.length = n) (hd' : d' + 1 ≤ d) (hS2 : S = as.reverse ++ .ref i :: S') (hcat : (S'.map fun v => v.category).sum ≤ 8) (hcs : cs + mc' ≤ mc) (hss : ss + ms' ≤ ms)
    (K : ∀ (v : Option Value) (h' : Hp) (k' : Nat), R (.inl v) h' k' → AW (aw_ZL N xs) μ d k0 mc ms Q (pc + 3) L (v.toList ++ S') h' k' (cs + mc') (ss + ms'))
    (KX : ∀ (E : String) (h' : Hp) (k' : Nat), R (.inr E) h' k' → AX (aw_ZL N xs) μ d k0 mc ms Q E pc L h' k' (cs + mc') (ss + ms')) : AW (aw_ZL N xs) μ d k0 mc ms Q pc L S h k cs ss := by
  intro l D cT p e s m args below meth c ad0 ad A H locs ls hC ha hk hS hw hl hs
  have hg := hC.2.2.2.2.2.2.2.2.2.1
  have hik : i < k := hs (.ref i) (by rw [hS2]; exact List.mem_append_right _ List.mem_cons_self)
  have hok : ∀ v ∈ Value.ref i :: as, aw_ok k v := fun v hv => by
    rcases List.mem_cons.mp hv with rfl | hv
    · exact hik
    · exact hs v (by rw [hS2]; exact List.mem_append_left _ (List.mem_reverse.mpr hv))
  have hok2 : ∀ v ∈ S', aw_ok k v := fun v hv => hs v (by rw [hS2]; exact List.mem_append_right _ (List.mem_cons_of_mem _ hv))
  have hr := vx_runV (e := e) (below := below) (meth := meth) (As := as.map (aw_cv ad)) (rest := S'.map (aw_cv ad)) (b := ad i) (C := μ'.1.cls) (Ts := []) (locs := locs) (cells := cs) (slots := ss) (g := F0 m pc ls (S.map (aw_cv ad))) (nL := μ.2.2.1) ⟨hC.2.1, hC.2.2.1, hC.2.2.2.1, hC.2.2.2.2.2.2.2.1, fun w h => nomatch h⟩ (hM l D cT ad H.size hC.1) ⟨aw_callB (μ := μ) (d := d) (mc := mc) (ms := ms) (d' := d') (mc' := mc') (ms' := ms') hm hg hd' (aw_hts hg hlink rfl), aw_hts (args := args) hg hin rfl, aw_hts hg hsel rfl⟩
    ⟨aw_blindz, by rw [← hq]; exact va_recv hw.2.2.1 hw.1 hc (aw_at_obj h0 hik hh), aw_prez hw hS hC.2.2.2.2.2.2.2.2.2.2.1 hg hok hC.2.2.2.2.2.2.2.2.2.2.2 (ha 0 hk0)⟩
    rfl (by rw [List.length_map]; exact hn) hl.1 (by show S.map _ = _; rw [hS2, List.map_append, List.map_reverse]; rfl) (aw_stW hcat) hd ⟨hcs, hss⟩
  exact aw_run hr hC ha hk hS hw hl hok2 K KX
theorem AW.callSNz {μ' : Mt} {d' mc' ms' index n : Nat} {host : String} {as S' : List Value} {R : Po} (hd : decode μ.2.1 pc = .ok (.invokestatic index, 3)) (hM : AMz N xs μ' d' as h k mc' ms' R) (hk0 : 0 < k0) (hm : aw_mok μ' n) (hst : Cond.static μ'.1 ∈ lw_tbl) (hlink : Cond.methodLinkNest μ.1.cls index μ'.1 host ∈ lw_tbl) (hn : as.length = n) (hd' : d' + 1 ≤ d) (hS2 : S = as.reverse ++ S') (hcat : (S'.map fun v => v.category).sum ≤ 8) (hcs : cs + mc' ≤ mc) (hss : ss + ms' ≤ ms) (hX : ∀ E h' k', ¬ R (.inr E) h' k')
    (K : ∀ (v : Option Value) (h' : Hp) (k' : Nat), R (.inl v) h' k' → AW (aw_ZL N xs) μ d k0 mc ms Q (pc + 3) L (v.toList ++ S') h' k' (cs + mc') (ss + ms')) : AW (aw_ZL N xs) μ d k0 mc ms Q pc L S h k cs ss := by
  intro l D cT p e s m args below meth c ad0 ad A H locs ls hC ha hk hS hw hl hs
  have hg := hC.2.2.2.2.2.2.2.2.2.1
  have hok : ∀ v ∈ as, aw_ok k v := fun v hv => hs v (by rw [hS2]; exact List.mem_append_left _ (List.mem_reverse.mpr hv))
  have hok2 : ∀ v ∈ S', aw_ok k v := fun v hv => hs v (by rw [hS2]; exact List.mem_append_right _ hv)
  have hMM := aw_met (hM l D cT ad H.size hC.1) (fun E st t hx => by obtain ⟨⟨h', k', ad', hx, -⟩, -⟩ := hx; exact hX _ _ _ hx)
  have hr := va_runSN (e := e) (below := below) (meth := meth) (As := as.map (aw_cv ad)) (rest := S'.map (aw_cv ad)) (Ts := []) (locs := locs) (cells := cs) (slots := ss) (g := F0 m pc ls (S.map (aw_cv ad))) (nL := μ.2.2.1) ⟨hC.2.1, hC.2.2.1, hC.2.2.2.1, hC.2.2.2.2.2.2.2.1, fun w h => nomatch h⟩ hMM ⟨aw_callN (μ := μ) (d := d) (mc := mc) (ms := ms) (d' := d') (mc' := mc') (ms' := ms') hm hg hd' (aw_hts (args := args) hg hlink rfl), aw_hts (args := args) hg hst rfl, trivial⟩ ⟨aw_blindz, aw_prez hw hS hC.2.2.2.2.2.2.2.2.2.2.1 hg hok hC.2.2.2.2.2.2.2.2.2.2.2 (ha 0 hk0)⟩
    rfl (by rw [List.length_map]; exact hn) hl.1 (aw_rev hS2) (aw_stW hcat) hd ⟨hcs, hss⟩
  exact aw_run (aw_unrun hr) hC ha hk hS hw hl hok2 K (fun E h' k' hx => absurd hx (hX _ _ _))
end Scr
end
